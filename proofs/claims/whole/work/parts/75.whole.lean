/-- solves all rows -/
def SolA (u : TS) (w : Nat → Int) : Prop := ∀ p, p < u.1 1 → dt (aU u p) w (u.1 0) 0 = aU u p (u.1 0)
theorem ext_dt {n : Nat} {f w : Nat → Int} : dt f (fun j => if j < n then w j else -1) (n + 1) 0 = dt f w n 0 - f n := by
  rw [dt_snoc, Nat.zero_add, if_neg (Nat.lt_irrefl _), dt_cx (y := w) _ _ (fun j _ hj => if_pos (by omega))]
  omega
theorem sol_all {u : TS} {v : MS} (hI : Inv u v) (ha : agr (u.1 0) (u.1 1) (E9 u) = true) {w : Nat → Int} (hw : Sol u v w) : SolA u w := by
  have hI' := inv_vB hI
  obtain ⟨h1, h2, h3, h4, h5, hB⟩ := eq_pack hI'
  obtain ⟨g1, g2, g3, g4, ⟨g5, g6⟩, g7, g8⟩ := lk_pack hI'
  have hd3 : (E9 u).1 ≤ 3 := by have := h1.2.1; have := hI.1.2.1; omega
  have hk := rs_inh hd3 h1 h2 g6 g5 ((pl_iff hI').2 ha).1 (fun j => if j < u.1 0 then w j else -1) (fun r hr => by
    rw [ext_dt]
    have := hw r hr
    show dt (aU u (l2 v r)) w (u.1 0) 0 - aU u (l2 v r) (u.1 0) = 0
    omega)
  intro p hp
  have := hk p hp
  rw [ext_dt] at this
  omega
theorem sol_agr {u : TS} {v : MS} (hI : Inv u v) {w : Nat → Int} (hw : SolA u w) : agr (u.1 0) (u.1 1) (E9 u) = true := by
  obtain ⟨h1, h2, h3, h4, h5, hB⟩ := eq_pack hI
  have hk : Ker (u.1 0) (u.1 1) (aU u) (fun j => if j < u.1 0 then w j else -1) := fun p hp => by
    rw [ext_dt, hw p hp]; omega
  have hv := (h2 _).mp hk
  unfold agr
  rw [isNone_iff]
  intro i hi1 hi2 hn
  have h := hv i (by omega)
  rw [ext_dt, dt_f0 _ _ (fun j _ hj => h1.2.2.2.2.2.2.2 i hi1 (by omega) j (by omega))] at h
  have h : vE (E9 u).2.2 i (u.1 0) = 0 := by omega
  exact hn (Int64.toInt_inj.mp (h.trans z64.symm))
abbrev tT (u : TS) (p : Nat) : Int := vL (S9 u).2 3 p
theorem re_iff {u : TS} : re9 u = true ↔ ∀ p, p < 3 → tT u p = 0 := by
  show (fnd (fun k => (S9 u).2 21 k ≠ 0) 3 0).isNone = true ↔ _
  rw [isNone_iff]
  constructor
  · intro h p hp
    have := Decidable.not_not.mp (h p (Nat.zero_le _) (by omega))
    show ((S9 u).2 21 p).toInt = 0
    rw [this]; rfl
  · intro h p _ hp hn
    exact hn (Int64.toInt_inj.mp ((h p (by omega)).trans z64.symm))
theorem reach {u : TS} {v : MS} (hI : Inv u v) {w : Nat → Int} (hw : SolA u w) : ∀ p, p < 3 → tT u p = 0 := by
  obtain ⟨⟨a1, a2, a3, a4, a5, a6, a7⟩, b1, b2, b3, ⟨b4, b5, b6⟩, _⟩ := sp_pack hI
  obtain ⟨m1, m2, _⟩ := sp_hb hI
  obtain ⟨κ, hκ⟩ := uni_span (M := fun r j => vL (S9 u).2 r (3 + j)) hI.1.2.1 b2 (fun j => 1 * w j + -1 * tT u (3 + j))
  have hp0 : ∀ p, p < 3 → dt (fun r => vL (S9 u).2 r p) κ (u.1 0) 0 = -tT u p := by
    intro p hp
    by_cases hpe : p < u.1 1
    · rw [dt_congr (f := fun r => dt (aU u p) (fun j => vL (S9 u).2 r (3 + j)) (u.1 0) 0) _ _ (fun r _ hr => (b1 r (by omega)).1 p hpe), ← dt_swap]
      rw [← dt_cx (x := fun j => 1 * w j + -1 * tT u (3 + j)) _ _ (fun j _ hj => hκ j (by omega)), dt_comb, hw p hpe]
      have := b4 p hpe
      show 1 * aU u p (u.1 0) + -1 * dt (aU u p) (fun j => vL (S9 u).2 3 (3 + j)) (u.1 0) 0 = -vL (S9 u).2 3 p
      omega
    · have q : tT u p = 0 := b5 p (by omega) hp
      rw [dt_f0 _ _ (fun r _ hr => (b1 r (by omega)).2.1 p (by omega) hp), q]
      rfl
  have hz := ech (κ := κ) a3 a4 a5 (u.1 0 - sM u) (by omega) (fun r hr => by
    rw [hp0 _ ((m2 r (by omega)).mpr hr)]
    have := b3 r (by omega)
    show ((-vL (S9 u).2 3 ((S9 u).1 7 r)).natAbs : Int) < _
    omega)
  intro p hp
  have h := hp0 p hp
  rw [dt_cx (y := fun r => if r < u.1 0 - sM u then 0 else κ r) _ _ (fun r _ hr => by
    show κ r = if r < u.1 0 - sM u then 0 else κ r
    by_cases e : r < u.1 0 - sM u
    · rw [if_pos e, hz r e]
    · rw [if_neg e])] at h
  have gen : ∀ (m i : Nat), i + m = u.1 0 → dt (fun r => vL (S9 u).2 r p) (fun r => if r < u.1 0 - sM u then 0 else κ r) m i = 0 := by
    intro m
    induction m with
    | zero => intro i _; rfl
    | succ m ih =>
      intro i hi
      simp only [dt]
      rw [ih (i + 1) (by omega)]
      by_cases e : i < u.1 0 - sM u
      · rw [if_pos e]; omega
      · have q1 := m2 i (by omega)
        rw [a5 i (by omega) p (by omega)]; omega
  rw [gen _ _ (by omega)] at h
  omega
theorem least_uniq {u : TS} {v : MS} (hI : Inv u v) (hr : ∀ p, p < 3 → tT u p = 0) {w : Nat → Int} (hw : SolA u w) (hl : ∀ k, k < sM u → 0 ≤ w (gM u k) ∧ w (gM u k) < bM u k (gM u k)) : ∀ j, j < u.1 0 → w j = tT u (3 + j) := by
  obtain ⟨⟨a1, a2, a3, a4, a5, a6, a7⟩, b1, b2, b3, ⟨b4, b5, b6⟩, _⟩ := sp_pack hI
  obtain ⟨m1, m2, hb⟩ := sp_hb hI
  have hk : kA u (fun j => 1 * w j + -1 * tT u (3 + j)) := fun p hp => by
    have h1 := b4 p hp
    have h2 := hr p (by have := hI.1.2.2; omega)
    rw [dt_comb, hw p hp]
    have h2 : vL (S9 u).2 3 p = 0 := h2
    show 1 * aU u p (u.1 0) + -1 * dt (aU u p) (fun j => vL (S9 u).2 3 (3 + j)) (u.1 0) 0 = 0
    omega
  obtain ⟨κ, hκ⟩ := hb.2.2.2.2.2.2 _ hk
  have hz := ech (κ := κ) hb.2.1 hb.2.2.1 hb.2.2.2.1 (sM u) (Nat.le_refl _) (fun k hk => by
    rw [← hκ (gM u k) (hb.1 k hk)]
    have q1 := hl k hk
    have q2 := b3 (u.1 0 - sM u + k) (by omega)
    have q3 : 3 + gM u k = (S9 u).1 7 (u.1 0 - sM u + k) := by
      have := m2 (u.1 0 - sM u + k) (by omega)
      show 3 + (_ - 3) = _
      omega
    rw [← q3] at q2
    show ((1 * w (gM u k) + -1 * vL (S9 u).2 3 (3 + gM u k)).natAbs : Int) < vL (S9 u).2 (u.1 0 - sM u + k) (3 + gM u k)
    have q1 : 0 ≤ w (gM u k) ∧ w (gM u k) < vL (S9 u).2 (u.1 0 - sM u + k) (3 + gM u k) := q1
    omega)
  intro j hj
  have h := hκ j hj
  rw [dt_zero _ 0 (fun i _ hi => hz i (by omega))] at h
  omega
theorem fw_all {u : TS} {v : MS} (hI : Inv u v) : okW (v.1 1) (v.1 2) v.2.2.2.1 v.2.2.1 v.2.2.2.2 (mO v) ∧ re9 u = (ff9 v (mO v)).1 ∧ ((ff9 v (mO v)).1 = true → ∀ j, j < u.1 0 → ((ff9 v (mO v)).2 11 j).toInt = tT u (3 + j)) := by
  obtain ⟨β, h, hsz, hpl, hv, hm, hcn⟩ := fw_lead hI
  have hI' := inv_vB hI
  obtain ⟨g1, g2, g3, g4, ⟨g5, g6⟩, g7, g8⟩ := lk_pack hI'
  have g1 : (fl9 v).1 = (E9 u).1 := g1
  have hn := hI.1.2.1
  have hO : fwO (v.1 1) (v.1 2) v.2.2.2.1 v.2.2.1 v.2.2.2.2 = agr (u.1 0) (u.1 1) (E9 u) := (pl_iff hI').1.symm
  obtain ⟨e1, e2⟩ := base_eq hI h
  have hcm : ∀ t, t < 3 → cmx (mO v t) ≤ 163 ∧ (pL v t = true → cmx (mO v t) = mO v t) ∧ 0 < cmx (mO v t) := fun t ht => by
    have q := (hm t ht).2
    unfold cmx
    refine ⟨by split <;> omega, fun hp => ?_, by split <;> omega⟩
    have := of_decide_eq_true hp
    rw [i64l, z64] at this
    rw [if_pos (by show 0 < (_ : Int).toNat; omega)]
  have eN : ∀ (n rk : Nat), n = u.1 0 → rk = (E9 u).1 → fwX n rk (fl9 v).2.1 v.2.2.2.1 (cmx (mO v 1)) (cmx (mO v 2)) (cmx (mO v 0)) 0 (fM v) = fwX (u.1 0) (E9 u).1 (fl9 v).2.1 v.2.2.2.1 (cmx (mO v 1)) (cmx (mO v 2)) (cmx (mO v 0)) 0 (fM v) := by
    rintro _ _ rfl rfl; rfl
  have eF : ff9 v (mO v) = if agr (u.1 0) (u.1 1) (E9 u) then fwX (u.1 0) (E9 u).1 (fl9 v).2.1 v.2.2.2.1 (cmx (mO v 1)) (cmx (mO v 2)) (cmx (mO v 0)) 0 (fM v) else (false, fwP (v.1 1) (v.1 2) v.2.2.2.1 v.2.2.1 v.2.2.2.2) := by
    rw [← hO, ← eN (v.1 1) (fl9 v).1 hI.2.1.1 g1]
    rfl
  obtain ⟨f1, f2, f3⟩ := fwX_spec hI (hcm 1 (by omega)).1 (hcm 2 (by omega)).1 (cmx (mO v 0)) 0 (fM v) (by have := (hcm 0 (by omega)).1; omega) rfl
  have hlead : ∀ k, k < (fb9 v).1 → ((mO v (β k) : Nat) : Int) = bM u k (gM u k) ∧ gM u k = β k := fun k hk => by
    obtain ⟨q1, q2⟩ := e2 k hk
    have q3 := h.2.1.1 k hk
    have q4 := h.2.1.2.2.1 k hk
    have q5 := hv k hk
    have q4 : 0 < ((fb9 v).2.2 9 (3 * k + β k)).toInt := q4
    refine ⟨?_, q1⟩
    rw [q1, q2 (β k) q3]
    show (((fM v 12 (β k)).toInt.toNat : Nat) : Int) = _
    omega
  have hbox : ∀ x y z, ((0 ≤ x ∧ x < 0 + cmx (mO v 0)) ∧ y < cmx (mO v 1) ∧ z < cmx (mO v 2)) → ∀ j, j < 3 → x3 x y z j < cmx (mO v j) := fun x y z hq j hj => by
    obtain rfl | rfl | rfl : j = 0 ∨ j = 1 ∨ j = 2 := by omega
    · show x < _; omega
    · show y < _; omega
    · show z < _; omega
  refine ⟨fun _ => ⟨fun t ht => ⟨(hm t ht).1, by have := (hm t ht).2; omega⟩, fun X x y z hX => ?_⟩, ?_, ?_⟩
  · have hh := (fw_ok hI hX x y z).2
    have gen : ∀ (n rk : Nat), n = u.1 0 → rk = (E9 u).1 → ¬ det rk (ftQ n rk (fl9 v).2.1 v.2.2.2.1 x y z X 5) = 0 := by
      rintro _ _ rfl rfl; exact hh
    exact gen _ _ hI.2.1.1 g1
  · rw [eF]
    refine Bool.eq_iff_iff.mpr ⟨fun hr => ?_, fun hf => ?_⟩
    · have hr := re_iff.mp hr
      obtain ⟨_, b1, b2, b3, ⟨b4, b5, b6⟩, _⟩ := sp_pack hI
      have hs : SolA u (fun j => tT u (3 + j)) := fun p hp => by
        have h1 := b4 p hp
        have h2 : vL (S9 u).2 3 p = 0 := hr p (by have := hI.1.2.2; omega)
        show dt (aU u p) (fun j => vL (S9 u).2 3 (3 + j)) (u.1 0) 0 = _
        omega
      have ha := sol_agr hI hs
      rw [if_pos ha]
      refine eq_true_of_ne_false (fun hf => ?_)
      obtain ⟨m1, m2, hb⟩ := sp_hb hI
      have hT : ∀ j, j < u.1 0 → pL v j = true → 0 ≤ tT u (3 + j) ∧ tT u (3 + j) < (mO v j : Nat) := fun j hj hp => by
        obtain ⟨k, hk, rfl⟩ := (hpl j (by omega)).mp hp
        obtain ⟨q1, q2⟩ := hlead k hk
        have q3 := b3 (u.1 0 - sM u + k) (by omega)
        have q4 : 3 + gM u k = (S9 u).1 7 (u.1 0 - sM u + k) := by
          have := m2 (u.1 0 - sM u + k) (by omega)
          show 3 + (_ - 3) = _
          omega
        rw [← q4, q2] at q3
        rw [q1, q2]
        exact q3
      let c : Nat → Nat := fun j => if j < u.1 0 then (if pL v j then (tT u (3 + j)).toNat else 0) else 0
      have hc : ∀ j, j < 3 → c j < cmx (mO v j) := fun j hj => by
        show (if j < u.1 0 then (if pL v j then (tT u (3 + j)).toNat else 0) else 0) < _
        have q := hcm j hj
        by_cases e : j < u.1 0
        · rw [if_pos e]
          cases hp : pL v j with
          | true => have := hT j e hp; rw [q.2.1 hp]; show (tT u (3 + j)).toNat < _; omega
          | false => exact q.2.2
        · rw [if_neg e]; exact q.2.2
      refine f3 hf (c 0) (c 1) (c 2) ⟨⟨Nat.zero_le _, by have := hc 0 (by omega); omega⟩, hc 1 (by omega), hc 2 (by omega)⟩ ⟨fun j => tT u (3 + j), fun r hr => hs _ (g5 r hr), fun j hj hp => ?_⟩
      have ej : ((x3 (c 0) (c 1) (c 2) j : Nat)) = c j := by
        obtain rfl | rfl | rfl : j = 0 ∨ j = 1 ∨ j = 2 := by omega
        · rfl
        · rfl
        · rfl
      rw [ej]
      show tT u (3 + j) = ((if j < u.1 0 then (if pL v j then (tT u (3 + j)).toNat else 0) else 0 : Nat) : Int)
      rw [if_pos hj, hp, if_pos rfl]
      have := hT j hj hp
      omega
    · by_cases ha : agr (u.1 0) (u.1 1) (E9 u) = true
      · rw [if_pos ha] at hf
        obtain ⟨x, y, z, _, q1, _⟩ := f2 hf
        exact re_iff.mpr (reach hI (sol_all hI ha q1))
      · rw [if_neg ha] at hf
        exact absurd hf (by simp)
  · rw [eF]
    intro hf
    by_cases ha : agr (u.1 0) (u.1 1) (E9 u) = true
    · rw [if_pos ha] at hf ⊢
      obtain ⟨x, y, z, q0, q1, q2⟩ := f2 hf
      have hs := sol_all hI ha q1
      refine least_uniq hI (reach hI hs) hs (fun k hk => ?_)
      have hk' : k < (fb9 v).1 := by rw [← e1]; exact hk
      obtain ⟨r1, r2⟩ := hlead k hk'
      have hβ := h.2.1.1 k hk'
      have hp : pL v (β k) = true := (hpl (β k) (by omega)).mpr ⟨k, hk', rfl⟩
      have r3 := q2 (β k) hβ hp
      have r4 := hbox x y z q0 (β k) (by omega)
      rw [(hcm (β k) (by omega)).2.1 hp] at r4
      rw [← r1, r2]
      show 0 ≤ ((fwX (u.1 0) (E9 u).1 (fl9 v).2.1 v.2.2.2.1 (cmx (mO v 1)) (cmx (mO v 2)) (cmx (mO v 0)) 0 (fM v)).2 11 (β k)).toInt ∧ ((fwX (u.1 0) (E9 u).1 (fl9 v).2.1 v.2.2.2.1 (cmx (mO v 1)) (cmx (mO v 2)) (cmx (mO v 0)) 0 (fM v)).2 11 (β k)).toInt < _
      rw [r3]
      omega
    · rw [if_neg ha] at hf
      exact absurd hf (by simp)
theorem m_whole : M_whole := fun u v hI => by
  obtain ⟨o, _⟩ := fb_pack hI
  obtain ⟨w1, w2, w3⟩ := fw_all hI
  have hL := lk_pack (inv_vB hI)
  exact ⟨mO v, o, w1, w2, fun G9 => inv_tS hI rfl rfl hL.2.2.1⟩
theorem m_least : M_least := fun u v x hI => by
  obtain ⟨o, _⟩ := fb_pack hI
  obtain ⟨w1, w2, w3⟩ := fw_all hI
  have hL := lk_pack (inv_vB hI)
  refine ⟨mO v, o, w1, fun v' hv' => ?_⟩
  unfold clLeast leaR
  unfold leaI at hv'
  rw [un_eq (n := u.1 0) hI.2.1.1 hI.1.2.1] at hv' ⊢
  by_cases hU : isU (u.1 0) x = true
  · rw [if_pos hU] at hv' ⊢
    obtain ⟨G9, rfl⟩ := hv'
    by_cases hr : (ff9 v (mO v)).1 = true
    · rw [w2, if_pos hr, if_pos ⟨hU, hr⟩, if_pos hr]
      refine ag0 rfl ?_ (inv_tS hI rfl rfl hL.2.2.1)
      obtain ⟨x1, x2⟩ := (isU_iff hI.1.2.1).mp hU
      have cx := clamp_toInt x1
      refine Int64.toInt_inj.mp ?_
      exact (w3 hr x.toNatClampNeg (by omega)).symm
    · rw [w2, if_neg hr, if_neg hr]
      exact agk (by decide) (by decide) rfl (inv_tS hI rfl rfl hL.2.2.1)
  · rw [if_neg hU] at hv' ⊢
    obtain ⟨G9, rfl⟩ := hv'
    exact agk (by decide) (by decide) rfl (hI.code 1)
