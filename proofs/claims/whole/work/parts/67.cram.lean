/-! plain, direction, solutions: Cramer against elimination. -/
theorem vec {n d : Nat} {dec : Nat → Nat} (hinc : ∀ r s, r < s → s < d → dec r < dec s) (hlt : ∀ c, c < d → dec c < n) (y : Nat → Int) (t : Nat) (e : Int) (ht : t ≤ n) : ∃ x : Nat → Int, (∀ f, dt f x (n + 1) 0 = dt (fun c => f (dec c)) y d 0 + f t * e) ∧ (t < n → x n = 0) := by
  obtain ⟨z, z1, z2, z3⟩ := spr y hinc
  refine ⟨fun s => 1 * z s + 1 * (if s = t then e else 0), fun f => ?_, fun h => ?_⟩
  · rw [dt_comb, z3 f (n + 1) (fun c hc => Nat.lt_succ_of_lt (hlt c hc)), dt_sgl (n + 1) 0 (Nat.zero_le _) (by omega)]
    omega
  · show 1 * z n + 1 * (if n = t then e else 0) = 0
    rw [if_neg (by omega), z2 n (fun c hc e => by have := hlt c hc; omega)]
    omega
/-- the class's rows on such a vector -/
theorem ei_vec {n m d t : Nat} {dec : Nat → Nat} {V : Nat → Nat → Int} (hE : EI n m n d dec V) {y x : Nat → Int} {e : Int} (hx : ∀ f : Nat → Int, dt f x (n + 1) 0 = dt (fun c => f (dec c)) y d 0 + f t * e) (hk : Ker n m V x) : (∀ k, k < d → V k (dec k) * y k + V k t * e = 0) ∧ ∀ i, d ≤ i → i < m → V i t * e = 0 := by
  obtain ⟨a1, a2, a3, a4, a5, a6, a7, a8⟩ := hE
  refine ⟨fun k hkd => ?_, fun i h1 h2 => ?_⟩
  · have h := hk k (by omega)
    rw [hx, dt_f1 (k := k) d 0 (Nat.zero_le _) (by omega) (fun c _ hc hck => a6 c (by omega) k (by omega) (fun e => hck e.symm))] at h
    exact h
  · have h := hk i h2
    rw [hx, dt_f0 d 0 (fun c _ hc => a6 c (by omega) i h2 (by omega))] at h
    omega
abbrev lM (u : TS) (v : MS) (r c : Nat) : Int := aU u ((lk9 v).2.1 3 r) ((E9 u).2.1 5 c)
theorem cr_pack {u : TS} {v : MS} (hI : Inv u v) {X0 : Nat → Nat → Int64} {b : Nat → Int} (h6 : ∀ r, r < (E9 u).1 → (X0 6 r).toInt = b r ∧ -9 ≤ b r ∧ b r ≤ 9) :
    ((det (E9 u).1 (sqf (E9 u).1 (lk9 v).2.1 v.2.2.2.1 X0 5)).toInt = dz (E9 u).1 (lM u v) ∧ -4374 ≤ dz (E9 u).1 (lM u v) ∧ dz (E9 u).1 (lM u v) ≤ 4374) ∧ (∀ c, c < (E9 u).1 → (ssq (E9 u).1 (sqf (E9 u).1 (lk9 v).2.1 v.2.2.2.1 X0) 7 c).toInt = dz (E9 u).1 (rp (lM u v) c b) ∧ -4374 ≤ dz (E9 u).1 (rp (lM u v) c b) ∧ dz (E9 u).1 (rp (lM u v) c b) ≤ 4374) ∧ ∀ a, a ≠ 5 → a ≠ 7 → a ≠ 8 → ssq (E9 u).1 (sqf (E9 u).1 (lk9 v).2.1 v.2.2.2.1 X0) a = X0 a := by
  obtain ⟨h1, h2, h3, h4, h5, hB⟩ := eq_pack hI
  obtain ⟨g1, g2, g3, g4, ⟨g5, g6⟩, g7, g8⟩ := lk_pack hI
  have hd3 : (E9 u).1 ≤ 3 := by have := h1.2.1; have := hI.1.2.1; omega
  have eS : ∀ a b, sqf (E9 u).1 (lk9 v).2.1 v.2.2.2.1 X0 a b = if a = 5 ∧ 0 ≤ b / 3 ∧ b / 3 < 0 + (E9 u).1 ∧ b % 3 < (E9 u).1 then Int32.toInt64 (v.2.2.2.1 (4 * (lk9 v).2.1 3 (b / 3) + (lk9 v).2.1 2 (b % 3))) else X0 a b := fun a b => sqf_at hd3 _ _ _ a b
  have e5 : ∀ r c, r < (E9 u).1 → c < (E9 u).1 → (sqf (E9 u).1 (lk9 v).2.1 v.2.2.2.1 X0 5 (3 * r + c)).toInt = lM u v r c ∧ -9 ≤ lM u v r c ∧ lM u v r c ≤ 9 := fun r c hr hc => by
    have hcn := h1.2.2.1 c hc
    have hrm := g5 r hr
    rw [eS, if_pos (by omega), show (3 * r + c) / 3 = r by omega, show (3 * r + c) % 3 = c by omega, g2 c hc, t32_64, hB.1 _ _ hrm hcn]
    exact ⟨rfl, hB.2.2 _ _ hrm (by omega)⟩
  have e6 : sqf (E9 u).1 (lk9 v).2.1 v.2.2.2.1 X0 6 = X0 6 := funext fun b => by rw [eS, if_neg (by omega)]
  obtain ⟨c1, c2⟩ := ssq_int (X := sqf (E9 u).1 (lk9 v).2.1 v.2.2.2.1 X0) (b := b) (B := 9) hd3 (by decide) (by decide) e5 (fun r hr => by rw [e6]; exact h6 r hr)
  refine ⟨det_int hd3 (by decide) (by decide) e5, c2, fun a h5 h7 h8 => ?_⟩
  rw [c1 a h7 h8]
  funext b
  rw [eS, if_neg (by omega)]
theorem cmf_at {rk : Nat} {AN : Nat → Nat → Nat} {BI : Nat → Int32} {X : Nat → Nat → Int64} {a b : Nat} : cmf rk AN BI X a b = if a = 6 ∧ b < rk then Int32.toInt64 (BI (4 * AN 3 b + 3)) else X a b := by
  unfold cmf
  rw [fo_fil (g := fun r => Int32.toInt64 (BI (4 * AN 3 r + 3)))]
  by_cases h : a = 6 ∧ b < rk
  · rw [if_pos h, if_pos (by omega)]
  · rw [if_neg h, if_neg (by omega)]
abbrev lB (u : TS) (v : MS) (r : Nat) : Int := aU u ((lk9 v).2.1 3 r) (u.1 0)
theorem pl_pack {u : TS} {v : MS} (hI : Inv u v) : ((plall (v.1 1) (v.1 2) v.2.2.2.1 v.2.2.1 v.2.2.2.2).toInt = dz (E9 u).1 (lM u v) ∧ -4374 ≤ dz (E9 u).1 (lM u v) ∧ dz (E9 u).1 (lM u v) ≤ 4374) ∧ (∀ c, c < (E9 u).1 → (plAL (v.1 1) (v.1 2) v.2.2.2.1 v.2.2.1 v.2.2.2.2 7 c).toInt = dz (E9 u).1 (rp (lM u v) c (lB u v)) ∧ -4374 ≤ dz (E9 u).1 (rp (lM u v) c (lB u v)) ∧ dz (E9 u).1 (rp (lM u v) c (lB u v)) ≤ 4374) ∧ ∀ a, a ≠ 5 → a ≠ 6 → a ≠ 7 → a ≠ 8 → plAL (v.1 1) (v.1 2) v.2.2.2.1 v.2.2.1 v.2.2.2.2 a = v.2.2.2.2 a := by
  obtain ⟨h1, h2, h3, h4, h5, hB⟩ := eq_pack hI
  obtain ⟨g1, g2, g3, g4, ⟨g5, g6⟩, g7, g8⟩ := lk_pack hI
  have g1 : (lkF (v.1 1) (v.1 2) v.2.2.2.1 v.2.2.1 v.2.2.2.2).1 = (E9 u).1 := g1
  unfold plAL plall plSq
  rw [g1]
  have h := cr_pack hI (X0 := cmf (E9 u).1 (lk9 v).2.1 v.2.2.2.1 (lk9 v).2.2) (b := lB u v) (fun r hr => by
    rw [cmf_at, if_pos (by omega), t32_64, hB.2.1 _ (g5 r hr)]
    exact ⟨rfl, hB.2.2 _ _ (g5 r hr) (Nat.le_refl _)⟩)
  refine ⟨h.1, h.2.1, fun a h5 h6 h7 h8 => ?_⟩
  rw [h.2.2 a h5 h7 h8]
  funext b
  rw [cmf_at, if_neg (by omega), g8 a h5]
theorem pl_sum {u : TS} {v : MS} (hI : Inv u v) (g : Nat) (hg : g < u.1 1) : (sme (lkF (v.1 1) (v.1 2) v.2.2.2.1 v.2.2.1 v.2.2.2.2).1 (lkF (v.1 1) (v.1 2) v.2.2.2.1 v.2.2.1 v.2.2.2.2).2.1 v.2.2.2.1 (plAL (v.1 1) (v.1 2) v.2.2.2.1 v.2.2.1 v.2.2.2.2) g = Int32.toInt64 (v.2.2.2.1 (4 * g + 3)) * plall (v.1 1) (v.1 2) v.2.2.2.1 v.2.2.1 v.2.2.2.2) ↔ dt (fun c => aU u g ((E9 u).2.1 5 c)) (fun c => dz (E9 u).1 (rp (lM u v) c (lB u v))) (E9 u).1 0 + aU u g (u.1 0) * -dz (E9 u).1 (lM u v) = 0 := by
  obtain ⟨h1, h2, h3, h4, h5, hB⟩ := eq_pack hI
  obtain ⟨g1, g2, g3, g4, ⟨g5, g6⟩, g7, g8⟩ := lk_pack hI
  obtain ⟨⟨p1, p1l, p1u⟩, p2, _⟩ := pl_pack hI
  have g1 : (lkF (v.1 1) (v.1 2) v.2.2.2.1 v.2.2.1 v.2.2.2.2).1 = (E9 u).1 := g1
  have hd3 : (E9 u).1 ≤ 3 := by have := h1.2.1; have := hI.1.2.1; omega
  unfold sme
  rw [g1]
  have e1 := fo_dt (f := fun c => Int32.toInt64 (v.2.2.2.1 (4 * g + (lk9 v).2.1 2 c))) (g := plAL (v.1 1) (v.1 2) v.2.2.2.1 v.2.2.1 v.2.2.2.2 7) (F := fun c => aU u g ((E9 u).2.1 5 c)) (G := fun c => dz (E9 u).1 (rp (lM u v) c (lB u v))) (a := 9) (b := 4374) (E9 u).1 0 0 0 (fun c _ hc => by
    have hcn := h1.2.2.1 c (by omega)
    show (Int32.toInt64 (v.2.2.2.1 (4 * g + (lk9 v).2.1 2 c))).toInt = _ ∧ _
    rw [g2 c (by omega), t32_64, hB.1 _ _ hg hcn]
    exact ⟨rfl, hB.2.2 _ _ hg (by omega)⟩) (fun c _ hc => p2 c (by omega)) (by rw [z64]; omega) (by rw [z64]; omega) (by omega) (by omega)
  have b0 := hB.2.2 g _ hg (Nat.le_refl _)
  have e2 : (Int32.toInt64 (v.2.2.2.1 (4 * g + 3)) * plall (v.1 1) (v.1 2) v.2.2.2.1 v.2.2.1 v.2.2.2.2).toInt = aU u g (u.1 0) * dz (E9 u).1 (lM u v) := by
    rw [s_mul (A := 9) (B := 4374) (by rw [t32_64, hB.2.1 g hg]; exact b0.1) (by rw [t32_64, hB.2.1 g hg]; exact b0.2) (by rw [p1]; exact p1l) (by rw [p1]; exact p1u) (by decide), t32_64, hB.2.1 g hg, p1]
  rw [← Int64.toInt_inj, e2, e1.1, z64, Int.mul_neg]
  omega
/-- Cramer's vector annihilates every row just where the rows agree -/
theorem pl_iff {u : TS} {v : MS} (hI : Inv u v) : agr (u.1 0) (u.1 1) (E9 u) = plok (v.1 1) (v.1 2) v.2.2.2.1 v.2.2.1 v.2.2.2.2 ∧ (agr (u.1 0) (u.1 1) (E9 u) = true → (∀ i, (E9 u).1 ≤ i → i < u.1 1 → vE (E9 u).2.2 i (u.1 0) = 0) ∧ ∀ k, k < (E9 u).1 → vE (E9 u).2.2 k ((E9 u).2.1 5 k) * dz (E9 u).1 (rp (lM u v) k (lB u v)) = vE (E9 u).2.2 k (u.1 0) * dz (E9 u).1 (lM u v)) := by
  obtain ⟨h1, h2, h3, h4, h5, hB⟩ := eq_pack hI
  obtain ⟨g1, g2, g3, g4, ⟨g5, g6⟩, g7, g8⟩ := lk_pack hI
  have hd3 : (E9 u).1 ≤ 3 := by have := h1.2.1; have := hI.1.2.1; omega
  obtain ⟨x, hx, _⟩ := vec h1.2.2.2.1 h1.2.2.1 (fun c => dz (E9 u).1 (rp (lM u v) c (lB u v))) (u.1 0) (-dz (E9 u).1 (lM u v)) (Nat.le_refl _)
  have ha : agr (u.1 0) (u.1 1) (E9 u) = true ↔ ∀ i, (E9 u).1 ≤ i → i < u.1 1 → vE (E9 u).2.2 i (u.1 0) = 0 := by
    unfold agr
    rw [isNone_iff]
    constructor
    · intro h i hi1 hi2
      have := Decidable.not_not.mp (h i hi1 (by omega))
      show ((E9 u).2.2 (i + 11) (u.1 0)).toInt = 0
      rw [this]; rfl
    · intro h i hi1 hi2 hn
      exact hn (Int64.toInt_inj.mp ((h i hi1 (by omega)).trans z64.symm))
  have hp : plok (v.1 1) (v.1 2) v.2.2.2.1 v.2.2.1 v.2.2.2.2 = true ↔ Ker (u.1 0) (u.1 1) (aU u) x := by
    unfold plok
    rw [isNone_iff, hI.2.1.2, hI.2.1.1]
    have hs := fun g hg => pl_sum hI g hg
    rw [hI.2.1.2, hI.2.1.1] at hs
    constructor
    · intro h g hg
      rw [hx]
      exact (hs g hg).mp (Decidable.not_not.mp (h g (Nat.zero_le _) (by omega)))
    · intro h g _ hg hn
      refine hn ((hs g (by omega)).mpr ?_)
      rw [← hx]
      exact h g (by omega)
  have hak : agr (u.1 0) (u.1 1) (E9 u) = true ↔ Ker (u.1 0) (u.1 1) (aU u) x := by
    rw [ha]
    constructor
    · intro h
      exact rs_inh hd3 h1 h2 g6 g5 h x (fun r hr => by
        rw [hx]
        have := dz_solves (M := lM u v) (b := lB u v) hd3 r hr
        show dt (lM u v r) _ _ 0 + lB u v r * _ = 0
        rw [this, Int.mul_neg]
        omega)
    · intro h i hi1 hi2
      have := (ei_vec h1 hx ((h2 x).mp h)).2 i hi1 hi2
      rcases Int.mul_eq_zero.mp this with h' | h'
      · exact h'
      · exact absurd (show dz (E9 u).1 (lM u v) = 0 by omega) g6
  refine ⟨Bool.eq_iff_iff.mpr (hak.trans hp.symm), fun h => ⟨ha.mp h, fun k hk => ?_⟩⟩
  have := (ei_vec h1 hx ((h2 x).mp (hak.mp h))).1 k hk
  rw [Int.mul_neg] at this
  omega
theorem m_sol : M_sol := fun u v hI => by
  have hL := lk_pack hI
  have h := (pl_iff hI).1
  refine ⟨?_, fun G X => inv_tE hI rfl rfl hL.2.2.1⟩
  rw [← h, hL.1, hI.2.1.1]
/-- what stands in Model's two numbers of a fraction -/
theorem takG_at {rk u : Nat} {AN : Nat → Nat → Nat} {AL : Nat → Nat → Int64} {G : Nat → Int64} (hinc : ∀ r s, r < s → s < rk → AN 2 r < AN 2 s) : (∀ c, c < rk → AN 2 c = u → takG rk AN AL u G 1 = upL (AL 7 c) (G 0) ∧ takG rk AN AL u G 2 = dnL (AL 7 c) (G 0)) ∧ ((∀ c, c < rk → AN 2 c ≠ u) → takG rk AN AL u G 1 = upL 0 1 ∧ takG rk AN AL u G 2 = dnL 0 1) := by
  have gen : ∀ (n i : Nat) (X : Nat → Int64), i + n = rk → ((∀ c, i ≤ c → c < rk → AN 2 c ≠ u) → fo (fun c X => if AN 2 c = u then lowG X (AL 7 c) (G 0) else X) n i X = X) ∧ (∀ c, i ≤ c → c < rk → AN 2 c = u → fo (fun c X => if AN 2 c = u then lowG X (AL 7 c) (G 0) else X) n i X 1 = upL (AL 7 c) (G 0) ∧ fo (fun c X => if AN 2 c = u then lowG X (AL 7 c) (G 0) else X) n i X 2 = dnL (AL 7 c) (G 0)) := by
    intro n
    induction n with
    | zero => intro i X hi; exact ⟨fun _ => rfl, fun c h1 h2 => absurd h2 (by omega)⟩
    | succ n ih =>
      intro i X hi
      refine ⟨fun h => ?_, fun c h1 h2 h3 => ?_⟩
      · rw [fo_s, if_neg (h i (by omega) (by omega))]
        exact (ih (i + 1) X (by omega)).1 (fun c c1 c2 => h c (by omega) c2)
      · rw [fo_s]
        by_cases e : c = i
        · have hno : ∀ c', i + 1 ≤ c' → c' < rk → AN 2 c' ≠ u := fun c' d1 d2 => by have := hinc c c' (by omega) d2; omega
          rw [(ih (i + 1) _ (by omega)).1 hno, if_pos (by rw [← e]; exact h3), ← e]
          unfold lowG
          exact ⟨by rw [up1_n (by omega), up1_s], by rw [up1_s]⟩
        · exact (ih (i + 1) _ (by omega)).2 c (by omega) h2 h3
  unfold takG
  refine ⟨fun c hc e => (gen rk 0 _ (by omega)).2 c (Nat.zero_le _) hc e, fun h => ?_⟩
  rw [(gen rk 0 _ (by omega)).1 (fun c _ hc => h c hc)]
  unfold lowG
  exact ⟨by rw [up1_n (by omega), up1_s], by rw [up1_s]⟩
theorem low01 {q : Int32} : lp64 0 1 q = if q = 0 then upL 0 1 else dnL 0 1 := low_eq (by decide) (by decide) (by decide) (by decide) (by decide) (by decide)
theorem low11 {q : Int32} : lp64 1 1 q = if q = 0 then upL 1 1 else dnL 1 1 := low_eq (by decide) (by decide) (by decide) (by decide) (by decide) (by decide)
theorem rdec_some {AN : Nat → Nat → Nat} {d t : Nat} (hinc : ∀ r s, r < s → s < d → AN 5 r < AN 5 s) {c : Nat} (hc : c < d) (e : AN 5 c = t) : rdec AN d t = some c := by
  unfold rdec
  cases hf : fnd (fun k => AN 5 k = t) d 0 with
  | none => exact absurd e (fnd_none hf c (Nat.zero_le _) (by omega))
  | some c' =>
    obtain ⟨_, g2, g3, _⟩ := fnd_some hf
    rcases Nat.lt_trichotomy c' c with h | h | h
    · have := hinc c' c h hc; omega
    · rw [h]
    · have := hinc c c' h (by omega); omega
theorem ag0 {a r : Int64} {t : TS} {v : MS} (h0 : v.1 0 = 0) (h : a = r) (hi : Inv t v) : Agree (0, a, t) r v := ⟨by rw [h0], Nat.lt_of_sub_pos (by show 0 < 4 - 0; omega), fun _ => h, hi⟩
theorem agk {k : Nat} {a r : Int64} {t : TS} {v : MS} (h1 : 0 < k) (h2 : k < 4) (h0 : v.1 0 = k) (hi : Inv t v) : Agree (k, a, t) r v := ⟨by rw [h0], h2, fun h => absurd (show k = 0 from h) (by omega), hi⟩
theorem m_plain : M_plain := fun u v x q hI => by
  obtain ⟨h1, h2, h3, h4, h5, hB⟩ := eq_pack hI
  obtain ⟨g1, g2, g3, g4, ⟨g5, g6⟩, g7, g8⟩ := lk_pack hI
  obtain ⟨⟨p1, p1l, p1u⟩, p2, _⟩ := pl_pack hI
  obtain ⟨q1, q2⟩ := pl_iff hI
  refine ⟨fun c hc => ?_, ?_⟩
  · rw [g1] at hc
    obtain ⟨e1, e2, e3⟩ := p2 c hc
    exact okLow_all (by rw [e1]; omega) (by rw [p1]; omega) (by rw [p1]; exact g6)
  · unfold clPlain plnR plnS
    rw [un_eq (n := u.1 0) hI.2.1.1 hI.1.2.1, pt_eq, ← q1]
    by_cases hU : isU (u.1 0) x = true
    · rw [if_pos hU, if_pos hU]
      by_cases hA : agr (u.1 0) (u.1 1) (E9 u) = true
      · rw [if_pos hA, if_pos hA]
        have inv := inv_tE hI (J' := up1 (up1 v.1 3 (lk9 v).1) 0 (if isPt q = true then 0 else 3)) (G' := takG (lkF (v.1 1) (v.1 2) v.2.2.2.1 v.2.2.1 v.2.2.2.2).1 (lkF (v.1 1) (v.1 2) v.2.2.2.1 v.2.2.1 v.2.2.2.2).2.1 (plAL (v.1 1) (v.1 2) v.2.2.2.1 v.2.2.1 v.2.2.2.2) x.toNatClampNeg (up1 v.2.1 0 (plall (v.1 1) (v.1 2) v.2.2.2.1 v.2.2.1 v.2.2.2.2))) (BL' := plAL (v.1 1) (v.1 2) v.2.2.2.1 v.2.2.1 v.2.2.2.2) rfl rfl g3
        by_cases hq : isPt q = true
        · rw [if_pos hq, if_pos hq, if_pos ⟨hU, hA, hq⟩]
          rw [if_pos hq] at inv
          refine ag0 rfl ?_ inv
          obtain ⟨t1, t2⟩ := takG_at (rk := (lk9 v).1) (u := x.toNatClampNeg) (AN := (lk9 v).2.1) (AL := plAL (v.1 1) (v.1 2) v.2.2.2.1 v.2.2.1 v.2.2.2.2) (G := up1 v.2.1 0 (plall (v.1 1) (v.1 2) v.2.2.2.1 v.2.2.1 v.2.2.2.2)) (fun r s hrs hs => by rw [g1] at hs; rw [g2 r (by omega), g2 s hs]; exact h1.2.2.2.1 r s hrs hs)
          show ppart (E9 u).2.1 (E9 u).2.2 (E9 u).1 (u.1 0) x.toNatClampNeg q = if q = 0 then takG (lk9 v).1 (lk9 v).2.1 _ x.toNatClampNeg (up1 v.2.1 0 _) 1 else takG (lk9 v).1 (lk9 v).2.1 _ x.toNatClampNeg (up1 v.2.1 0 _) 2
          unfold ppart
          by_cases hd : ∃ c, c < (E9 u).1 ∧ (E9 u).2.1 5 c = x.toNatClampNeg
          · obtain ⟨c, hc, e⟩ := hd
            rw [rdec_some h1.2.2.2.1 hc e]
            obtain ⟨s1, s2⟩ := t1 c (by rw [g1]; exact hc) (by rw [g2 c hc]; exact e)
            rw [s1, s2, up1_s]
            obtain ⟨e1, e2, e3⟩ := p2 c hc
            have hcm : c < u.1 1 := by have := h1.1; omega
            have bb := h3 c hcm (u.1 0) (Nat.le_refl _)
            have k := (q2 hA).2 c hc
            refine low_eq (by show _ < vE (E9 u).2.2 c (u.1 0); omega) ?_ (by rw [e1]; omega) (by rw [p1]; omega) (by rw [p1]; exact g6) ?_
            · rw [← e]; exact h1.2.2.2.2.1 c hc
            · rw [e1, p1, ← e]
              show vE (E9 u).2.2 c (u.1 0) * _ = _ * vE (E9 u).2.2 c ((E9 u).2.1 5 c)
              rw [← k, Int.mul_comm]
          · rw [rdec_none.mpr hd]
            obtain ⟨s1, s2⟩ := t2 (fun c hc e => hd ⟨c, by rw [← g1]; exact hc, by rw [← e]; exact (g2 c (by rw [← g1]; exact hc)).symm⟩)
            rw [s1, s2]
            exact low01
        · rw [if_neg hq, if_neg hq]
          rw [if_neg hq] at inv
          exact agk (by decide) (by decide) rfl (inv)
      · rw [if_neg hA, if_neg hA]
        exact agk (by decide) (by decide) rfl (inv_tE hI rfl rfl g3)
    · rw [if_neg hU, if_neg hU]
      exact agk (by decide) (by decide) rfl (hI.code 1)
theorem dcm_at {rk f : Nat} {AN : Nat → Nat → Nat} {BI : Nat → Int32} {X : Nat → Nat → Int64} {a b : Nat} : dcm rk f AN BI X a b = if a = 6 ∧ b < rk then Int32.toInt64 (-BI (4 * AN 3 b + f)) else X a b := by
  unfold dcm
  rw [fo_fil (g := fun r => Int32.toInt64 (-BI (4 * AN 3 r + f)))]
  by_cases h : a = 6 ∧ b < rk
  · rw [if_pos h, if_pos (by omega)]
  · rw [if_neg h, if_neg (by omega)]
abbrev lF (u : TS) (v : MS) (f r : Nat) : Int := -aU u ((lk9 v).2.1 3 r) f
theorem di_pack {u : TS} {v : MS} (hI : Inv u v) {f : Nat} (hf : f < u.1 0) : ((diall (v.1 1) (v.1 2) f v.2.2.2.1 v.2.2.1 v.2.2.2.2).toInt = dz (E9 u).1 (lM u v) ∧ -4374 ≤ dz (E9 u).1 (lM u v) ∧ dz (E9 u).1 (lM u v) ≤ 4374) ∧ (∀ c, c < (E9 u).1 → (diAL (v.1 1) (v.1 2) f v.2.2.2.1 v.2.2.1 v.2.2.2.2 7 c).toInt = dz (E9 u).1 (rp (lM u v) c (lF u v f)) ∧ -4374 ≤ dz (E9 u).1 (rp (lM u v) c (lF u v f)) ∧ dz (E9 u).1 (rp (lM u v) c (lF u v f)) ≤ 4374) := by
  obtain ⟨h1, h2, h3, h4, h5, hB⟩ := eq_pack hI
  obtain ⟨g1, g2, g3, g4, ⟨g5, g6⟩, g7, g8⟩ := lk_pack hI
  have g1 : (lkF (v.1 1) (v.1 2) v.2.2.2.1 v.2.2.1 v.2.2.2.2).1 = (E9 u).1 := g1
  unfold diAL diall diSq
  rw [g1]
  have h := cr_pack hI (X0 := dcm (E9 u).1 f (lk9 v).2.1 v.2.2.2.1 (lk9 v).2.2) (b := lF u v f) (fun r hr => by
    have b := hB.2.2 _ f (g5 r hr) (by omega)
    have e := hB.1 _ f (g5 r hr) hf
    rw [dcm_at, if_pos (by omega), t32_64, u_neg (by rw [e]; omega), e]
    refine ⟨rfl, ?_, ?_⟩
    · show -9 ≤ -aU u _ f
      omega
    · show -aU u _ f ≤ 9
      omega)
  exact ⟨h.1, h.2.1⟩
theorem di_eq {u : TS} {v : MS} (hI : Inv u v) {f : Nat} (hf : f < u.1 0) : ∀ k, k < (E9 u).1 → vE (E9 u).2.2 k ((E9 u).2.1 5 k) * dz (E9 u).1 (rp (lM u v) k (lF u v f)) + vE (E9 u).2.2 k f * dz (E9 u).1 (lM u v) = 0 := by
  obtain ⟨h1, h2, h3, h4, h5, hB⟩ := eq_pack hI
  obtain ⟨g1, g2, g3, g4, ⟨g5, g6⟩, g7, g8⟩ := lk_pack hI
  have hd3 : (E9 u).1 ≤ 3 := by have := h1.2.1; have := hI.1.2.1; omega
  obtain ⟨x, hx, hx0⟩ := vec h1.2.2.2.1 h1.2.2.1 (fun c => dz (E9 u).1 (rp (lM u v) c (lF u v f))) f (dz (E9 u).1 (lM u v)) (by omega)
  have hk := rs_hom hd3 h1 h2 g6 g5 x (hx0 hf) (fun r hr => by
    rw [hx]
    have := dz_solves (M := lM u v) (b := lF u v f) hd3 r hr
    show dt (lM u v r) _ _ 0 + aU u _ f * _ = 0
    rw [this, Int.neg_mul]
    omega)
  exact (ei_vec h1 hx ((h2 x).mp hk)).1
theorem fra_some {AN : Nat → Nat → Nat} {k : Int32} {f : Nat} : ∀ (n j p : Nat), fra AN k n j p = some f → j ≤ f ∧ f < j + n ∧ ¬ AN 4 f = 0
  | 0, j, p, h => by simp [fra] at h
  | n + 1, j, p, h => by
    unfold fra at h
    by_cases e : AN 4 j = 0
    · rw [if_pos e] at h
      obtain ⟨a, b, c⟩ := fra_some n (j + 1) p h
      exact ⟨by omega, by omega, c⟩
    · rw [if_neg e] at h
      by_cases e2 : nI p = k
      · rw [if_pos e2] at h
        obtain rfl : j = f := Option.some.inj h
        exact ⟨by omega, by omega, e⟩
      · rw [if_neg e2] at h
        obtain ⟨a, b, c⟩ := fra_some n (j + 1) (p + 1) h
        exact ⟨by omega, by omega, c⟩
theorem m_dir : M_dir := fun u v k x q hI => by
  obtain ⟨h1, h2, h3, h4, h5, hB⟩ := eq_pack hI
  obtain ⟨g1, g2, g3, g4, ⟨g5, g6⟩, g7, g8⟩ := lk_pack hI
  have hfr := fr_eq hI k
  have hfr : fr9 u k = frA (v.1 1) (v.1 2) v.2.2.2.1 v.2.2.1 v.2.2.2.2 k := hfr
  have hfs : ∀ f, frA (v.1 1) (v.1 2) v.2.2.2.1 v.2.2.1 v.2.2.2.2 k = some f → f < u.1 0 ∧ ¬ ∃ c, c < (E9 u).1 ∧ (E9 u).2.1 5 c = f := fun f h => by
    obtain ⟨_, b, c⟩ := fra_some _ _ _ h
    have hb : f < u.1 0 := by rw [hI.2.1.1] at b; omega
    exact ⟨hb, fun h' => c ((g4 f hb).mpr h')⟩
  refine ⟨fun f hf c hc => ?_, ?_⟩
  · rw [g1] at hc
    obtain ⟨⟨p1, p1l, p1u⟩, p2⟩ := di_pack hI (hfs f hf).1
    obtain ⟨e1, e2, e3⟩ := p2 c hc
    exact okLow_all (by rw [e1]; omega) (by rw [p1]; omega) (by rw [p1]; exact g6)
  · unfold clDir dirR dirS
    rw [un_eq (n := u.1 0) hI.2.1.1 hI.1.2.1, pt_eq, hfr]
    cases hf : frA (v.1 1) (v.1 2) v.2.2.2.1 v.2.2.1 v.2.2.2.2 k with
    | none =>
      rw [if_neg (fun h => h.1 rfl)]
      exact agk (by decide) (by decide) rfl (inv_tE hI rfl rfl g3)
    | some f =>
      obtain ⟨hfn, hff⟩ := hfs f hf
      obtain ⟨⟨p1, p1l, p1u⟩, p2⟩ := di_pack hI hfn
      dsimp only
      by_cases hU : isU (u.1 0) x = true
      · rw [if_pos ⟨by simp, hU⟩, if_pos hU]
        by_cases hq : isPt q = true
        · rw [if_pos hq, if_pos hq, if_pos ⟨rfl, hU, hq⟩]
          refine ag0 rfl ?_ (inv_tE hI rfl rfl g3)
          obtain ⟨t1, t2⟩ := takG_at (rk := (lk9 v).1) (u := x.toNatClampNeg) (AN := (lk9 v).2.1) (AL := diAL (v.1 1) (v.1 2) f v.2.2.2.1 v.2.2.1 v.2.2.2.2) (G := up1 v.2.1 0 (diall (v.1 1) (v.1 2) f v.2.2.2.1 v.2.2.1 v.2.2.2.2)) (fun r s hrs hs => by rw [g1] at hs; rw [g2 r (by omega), g2 s hs]; exact h1.2.2.2.1 r s hrs hs)
          show dpart (E9 u).2.1 (E9 u).2.2 (E9 u).1 f x.toNatClampNeg q = if q = 0 then diG (v.1 1) (v.1 2) f x.toNatClampNeg v.2.2.2.1 v.2.2.1 v.2.2.2.2 v.2.1 1 else diG (v.1 1) (v.1 2) f x.toNatClampNeg v.2.2.2.1 v.2.2.1 v.2.2.2.2 v.2.1 2
          unfold dpart diG
          by_cases hd : ∃ c, c < (E9 u).1 ∧ (E9 u).2.1 5 c = x.toNatClampNeg
          · obtain ⟨c, hc, e⟩ := hd
            rw [rdec_some h1.2.2.2.1 hc e]
            dsimp only
            rw [if_neg (show ¬ x.toNatClampNeg = f from fun e2 => hff ⟨c, hc, by rw [e, e2]⟩)]
            obtain ⟨s1, s2⟩ := t1 c (by rw [g1]; exact hc) (by rw [g2 c hc]; exact e)
            rw [s1, s2, up1_s]
            obtain ⟨e1, e2, e3⟩ := p2 c hc
            have hcm : c < u.1 1 := by have := h1.1; omega
            have bb := h3 c hcm f (by omega)
            have k := di_eq hI hfn c hc
            have en : (-(E9 u).2.2 (c + 11) f).toInt = -vE (E9 u).2.2 c f := t_neg (by show _ < vE (E9 u).2.2 c f; omega)
            refine low_eq (by rw [en]; omega) ?_ (by rw [e1]; omega) (by rw [p1]; omega) (by rw [p1]; exact g6) ?_
            · rw [← e]; exact h1.2.2.2.2.1 c hc
            · rw [en, e1, p1, ← e, Int.neg_mul]
              show _ = _ * vE (E9 u).2.2 c ((E9 u).2.1 5 c)
              rw [Int.mul_comm (dz (E9 u).1 (rp (lM u v) c (lF u v f)))]
              omega
          · rw [rdec_none.mpr hd]
            obtain ⟨s1, s2⟩ := t2 (fun c hc e => hd ⟨c, by rw [← g1]; exact hc, by rw [← e]; exact (g2 c (by rw [← g1]; exact hc)).symm⟩)
            dsimp only
            by_cases e : x.toNatClampNeg = f
            · rw [if_pos e, if_pos e]
              unfold lowG
              rw [up1_n (by omega), up1_s, up1_s]
              exact low11
            · rw [if_neg e, if_neg e, s1, s2]
              exact low01
        · rw [if_neg hq, if_neg hq]
          exact agk (by decide) (by decide) rfl (inv_tE hI rfl rfl g3)
      · rw [if_neg (fun h => hU h.2), if_neg hU]
        exact agk (by decide) (by decide) rfl (inv_tE hI rfl rfl g3)
