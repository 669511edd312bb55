/-! whole, least. -/
def vB (v : MS) : MS := (v.1, v.2.1, (fb9 v).2.1, v.2.2.2.1, (fb9 v).2.2)
theorem inv_vB {u : TS} {v : MS} (hI : Inv u v) : Inv u (vB v) := by
  obtain ⟨o, β, h, h10, hfr, hok, hL⟩ := fb_pack hI
  exact ⟨hI.1, hI.2.1, hI.2.2.1, hI.2.2.2.1, hok⟩
theorem fbA_sz {n rk : Nat} {AN : Nat → Nat → Nat} {BI : Nat → Int32} {AL : Nat → Nat → Int64} (h1 : rk ≤ n) (hn : n ≤ 3) : (fbA n rk AN BI AL).1 = n - rk := by
  unfold fbA
  by_cases h0 : rk = 0
  · rw [if_pos h0]; show n = n - rk; omega
  · rw [if_neg h0]
    by_cases h2 : rk + 1 = n
    · rw [if_pos h2]
      by_cases h3 : n = 2
      · rw [if_pos h3]; show 1 = n - rk; omega
      · rw [if_neg h3]; show 1 = n - rk; omega
    · rw [if_neg h2]
      by_cases h3 : rk < n
      · rw [if_pos h3]; show 2 = n - rk; omega
      · rw [if_neg h3]; show 0 = n - rk; omega
theorem mof_in {AN : Nat → Nat → Nat} {u : Nat} : ∀ (m i : Nat) (Y : Nat → Nat → Int64), (∀ a b, (a ≠ 12 ∨ b ≠ u) → fo (fun k Y => if AN 10 k = u then up2 Y 12 u (Y 9 (3 * k + u)) else Y) m i Y a b = Y a b) ∧ ((∀ k, i ≤ k → k < i + m → AN 10 k ≠ u) → fo (fun k Y => if AN 10 k = u then up2 Y 12 u (Y 9 (3 * k + u)) else Y) m i Y 12 u = Y 12 u) ∧ (∀ k, i ≤ k → k < i + m → AN 10 k = u → (∀ k', i ≤ k' → k' < i + m → AN 10 k' = u → k' = k) → fo (fun k Y => if AN 10 k = u then up2 Y 12 u (Y 9 (3 * k + u)) else Y) m i Y 12 u = Y 9 (3 * k + u))
  | 0, i, Y => ⟨fun _ _ _ => rfl, fun _ => rfl, fun k h1 h2 => absurd h2 (by omega)⟩
  | m + 1, i, Y => by
    rw [fo_s]
    obtain ⟨a1, a2, a3⟩ := mof_in (AN := AN) (u := u) m (i + 1) (if AN 10 i = u then up2 Y 12 u (Y 9 (3 * i + u)) else Y)
    refine ⟨fun a b h => ?_, fun h => ?_, fun k h1 h2 h3 h4 => ?_⟩
    · rw [a1 a b h]
      by_cases e : AN 10 i = u
      · rw [if_pos e, up2_n (by omega)]
      · rw [if_neg e]
    · rw [a2 (fun k k1 k2 => h k (by omega) (by omega)), if_neg (h i (by omega) (by omega))]
    · by_cases e : k = i
      · subst e
        rw [a2 (fun k' k1 k2 e2 => by have := h4 k' (by omega) (by omega) e2; omega), if_pos h3, up2_s]
      · rw [a3 k (by omega) (by omega) h3 (fun k' k1 k2 e2 => h4 k' (by omega) (by omega) e2), if_neg (fun e2 => e (h4 i (by omega) (by omega) e2).symm)]
theorem mof_run {sz : Nat} {AN : Nat → Nat → Nat} : ∀ (m i : Nat) (X : Nat → Nat → Int64), (∀ a b, (a ≠ 12 ∨ ¬ (i ≤ b ∧ b < i + m)) → fo (fun u X => fo (fun k Y => if AN 10 k = u then up2 Y 12 u (Y 9 (3 * k + u)) else Y) sz 0 (up2 X 12 u 0)) m i X a b = X a b) ∧ ∀ u, i ≤ u → u < i + m → ((∀ k, k < sz → AN 10 k ≠ u) → fo (fun u X => fo (fun k Y => if AN 10 k = u then up2 Y 12 u (Y 9 (3 * k + u)) else Y) sz 0 (up2 X 12 u 0)) m i X 12 u = 0) ∧ (∀ k, k < sz → AN 10 k = u → (∀ k', k' < sz → AN 10 k' = u → k' = k) → fo (fun u X => fo (fun k Y => if AN 10 k = u then up2 Y 12 u (Y 9 (3 * k + u)) else Y) sz 0 (up2 X 12 u 0)) m i X 12 u = X 9 (3 * k + u))
  | 0, i, X => ⟨fun _ _ _ => rfl, fun u h1 h2 => absurd h2 (by omega)⟩
  | m + 1, i, X => by
    rw [fo_s]
    obtain ⟨b1, b2, b3⟩ := mof_in (AN := AN) (u := i) sz 0 (up2 X 12 i 0)
    obtain ⟨Y, hY⟩ : ∃ Y, Y = fo (fun k Y => if AN 10 k = i then up2 Y 12 i (Y 9 (3 * k + i)) else Y) sz 0 (up2 X 12 i 0) := ⟨_, rfl⟩
    rw [← hY] at b1 b2 b3 ⊢
    obtain ⟨a1, a2⟩ := mof_run (sz := sz) (AN := AN) m (i + 1) Y
    have y9 : ∀ b, Y 9 b = X 9 b := fun b => by rw [b1 9 b (.inl (by omega)), up2_n (by omega)]
    refine ⟨fun a b h => ?_, fun u h1 h2 => ?_⟩
    · rw [a1 a b (by omega), b1 a b (by omega), up2_n (by omega)]
    · by_cases e : u = i
      · subst e
        rw [a1 12 u (.inr (by omega))]
        refine ⟨fun h => ?_, fun k k1 k2 k3 => ?_⟩
        · rw [b2 (fun k _ hk => h k (by omega)), up2_s]
        · rw [b3 k (Nat.zero_le _) (by omega) k2 (fun k' _ h' => k3 k' (by omega)), up2_n (by omega)]
      · have := a2 u (by omega) (by omega)
        refine ⟨this.1, fun k k1 k2 k3 => ?_⟩
        rw [this.2 k k1 k2 k3, y9]
theorem sing {k : Nat} {M : Nat → Nat → Int} (hk : k = 1 ∨ k = 2) (h : dz k M = 0) : ∃ z : Nat → Int, (∃ c, c < k ∧ z c ≠ 0) ∧ ∀ r, r < k → dt (M r) z k 0 = 0 := by
  rcases hk with rfl | rfl
  · rw [dz_1] at h
    refine ⟨fun _ => 1, ⟨0, by omega, by decide⟩, lt1 ?_⟩
    simp only [dt, h]; omega
  · rw [dz_2] at h
    by_cases h1 : M 0 0 = 0 ∧ M 0 1 = 0
    · by_cases h2 : M 1 0 = 0 ∧ M 1 1 = 0
      · refine ⟨fun _ => 1, ⟨0, by omega, by decide⟩, lt2 ?_ ?_⟩
        · simp only [dt, Nat.zero_add, h1.1, h1.2]; omega
        · simp only [dt, Nat.zero_add, h2.1, h2.2]; omega
      · refine ⟨fun c => if c = 0 then -M 1 1 else M 1 0, ?_, lt2 ?_ ?_⟩
        · by_cases h3 : M 1 0 = 0
          · exact ⟨0, by omega, by show -M 1 1 ≠ 0; intro h4; exact h2 ⟨h3, by omega⟩⟩
          · exact ⟨1, by omega, h3⟩
        · simp only [dt, Nat.zero_add, h1.1, h1.2]; simp
        · simp [dt]; grind
    · refine ⟨fun c => if c = 0 then -M 0 1 else M 0 0, ?_, lt2 ?_ ?_⟩
      · by_cases h3 : M 0 0 = 0
        · exact ⟨0, by omega, by show -M 0 1 ≠ 0; intro h4; exact h1 ⟨h3, by omega⟩⟩
        · exact ⟨1, by omega, h3⟩
      · simp [dt]; grind
      · simp [dt]; grind
abbrev fM (v : MS) : Nat → Nat → Int64 := fwM (v.1 1) (v.1 2) v.2.2.2.1 v.2.2.1 v.2.2.2.2
abbrev pL (v : MS) (u : Nat) : Bool := decide (0 < fM v 12 u)
abbrev mO (v : MS) (u : Nat) : Nat := (fM v 12 u).toInt.toNat
theorem fw_lead {u : TS} {v : MS} (hI : Inv u v) : ∃ β : Nat → Nat, FB u (fb9 v).1 β (fb9 v).2.2 ∧ (fb9 v).1 = u.1 0 - (E9 u).1 ∧ (∀ t, t < 3 → (pL v t = true ↔ ∃ k, k < (fb9 v).1 ∧ β k = t)) ∧ (∀ k, k < (fb9 v).1 → (fM v 12 (β k)).toInt = ((fb9 v).2.2 9 (3 * k + β k)).toInt) ∧ (∀ t, t < 3 → fM v 12 t = lN (mO v t) ∧ mO v t ≤ 162) ∧ cn (pL v) (u.1 0) = (E9 u).1 := by
  obtain ⟨o, β, h, h10, hfr, hok, hL⟩ := fb_pack hI
  have hI' := inv_vB hI
  obtain ⟨g1, g2, g3, g4, ⟨g5, g6⟩, g7, g8⟩ := lk_pack hI'
  obtain ⟨h1, _⟩ := eq_pack hI
  obtain ⟨_, _, p3⟩ := pl_pack hI'
  have hdn := h1.2.1
  have hn := hI.1.2.1
  have hsz : (fb9 v).1 = u.1 0 - (E9 u).1 := by
    have e : (fb9 v).1 = (fbA (v.1 1) (lk9 v).1 (lk9 v).2.1 v.2.2.2.1 (lk9 v).2.2).1 := rfl
    rw [e, (lk_pack hI).1, hI.2.1.1]
    exact fbA_sz hdn hn
  obtain ⟨m1, m2⟩ := mof_run (sz := (fb9 v).1) (AN := (fl9 v).2.1) 3 0 (fwP (v.1 1) (v.1 2) v.2.2.2.1 v.2.2.1 v.2.2.2.2)
  have e10 : ∀ k, k < (fb9 v).1 → (fl9 v).2.1 10 k = β k := fun k hk => by
    have e : (fl9 v).2.1 10 = (fb9 v).2.1 10 := g7 10 (by omega) (by omega) (by omega)
    rw [e]; exact h10 k hk
  have e9 : fwP (v.1 1) (v.1 2) v.2.2.2.1 v.2.2.1 v.2.2.2.2 9 = (fb9 v).2.2 9 := p3 9 (by omega) (by omega) (by omega) (by omega)
  have hinj : ∀ k k', k < (fb9 v).1 → k' < (fb9 v).1 → β k' = β k → k' = k := fun k k' hk hk' e => by
    rcases Nat.lt_trichotomy k' k with q | q | q
    · have := h.2.1.2.1 k' k q hk; omega
    · exact q
    · have := h.2.1.2.1 k k' q hk'; omega
  have v1 : ∀ k, k < (fb9 v).1 → fM v 12 (β k) = (fb9 v).2.2 9 (3 * k + β k) := fun k hk => by
    have hβ := h.2.1.1 k hk
    have := (m2 (β k) (Nat.zero_le _) (by omega)).2 k hk (e10 k hk) (fun k' hk' e => hinj k k' hk hk' (by rw [← e10 k' hk']; exact e))
    rw [e9] at this
    exact this
  have v0 : ∀ t, t < 3 → (¬ ∃ k, k < (fb9 v).1 ∧ β k = t) → fM v 12 t = 0 := fun t ht hno =>
    (m2 t (Nat.zero_le _) (by omega)).1 (fun k hk e => hno ⟨k, hk, by rw [← e10 k hk]; exact e⟩)
  have hpl : ∀ t, t < 3 → (pL v t = true ↔ ∃ k, k < (fb9 v).1 ∧ β k = t) := fun t ht => by
    constructor
    · intro hp
      refine Decidable.byContradiction (fun hno => ?_)
      have := of_decide_eq_true hp
      rw [v0 t ht hno] at this
      exact absurd this (by decide)
    · rintro ⟨k, hk, rfl⟩
      have := h.2.1.2.2.1 k hk
      refine decide_eq_true ?_
      rw [i64l, z64, v1 k hk]
      exact this
  refine ⟨β, h, hsz, hpl, fun k hk => by rw [v1 k hk], fun t ht => ?_, ?_⟩
  · have hb : 0 ≤ (fM v 12 t).toInt ∧ (fM v 12 t).toInt ≤ 162 := by
      by_cases hex : ∃ k, k < (fb9 v).1 ∧ β k = t
      · obtain ⟨k, hk, rfl⟩ := hex
        rw [v1 k hk]
        have q1 : 0 < ((fb9 v).2.2 9 (3 * k + β k)).toInt := h.2.1.2.2.1 k hk
        have q2 := h.2.2.2 k hk (β k) ht
        omega
      · rw [v0 t ht hex, z64]; omega
    have hm : ((mO v t : Nat) : Int) = (fM v 12 t).toInt := by show ((_ : Int).toNat : Int) = _; omega
    refine ⟨Int64.toInt_inj.mp ?_, by omega⟩
    rw [lN_toInt (by omega), hm]
  · have key : ∀ t, t ≤ u.1 0 → ∃ K, K ≤ (fb9 v).1 ∧ cn (pL v) t + K = t ∧ ∀ k, k < (fb9 v).1 → (β k < t ↔ k < K) := by
      intro t
      induction t with
      | zero => exact fun _ => ⟨0, Nat.zero_le _, rfl, fun k _ => ⟨fun h => absurd h (Nat.not_lt_zero _), fun h => absurd h (Nat.not_lt_zero _)⟩⟩
      | succ t ih =>
        intro ht
        obtain ⟨K, k1, k2, k3⟩ := ih (by omega)
        have e1 : cn (pL v) (t + 1) = cn (pL v) t + (if pL v t then 0 else 1) := rfl
        by_cases hp : pL v t = true
        · obtain ⟨k, hk, e⟩ := (hpl t (by omega)).mp hp
          have hkK : k = K := by
            have q1 := k3 k hk
            rcases Nat.lt_trichotomy k K with q | q | q
            · have := q1.mpr q; omega
            · exact q
            · have q2 := h.2.1.2.1 K k q hk
              have := (k3 K (by omega)).mp (by omega)
              omega
          rw [hp] at e1
          refine ⟨K + 1, by omega, by rw [e1]; show cn (pL v) t + 0 + (K + 1) = t + 1; omega, fun k' hk' => ?_⟩
          have q1 := k3 k' hk'
          by_cases e2 : k' = K
          · rw [e2, ← hkK, e]; omega
          · constructor
            · intro h5
              have : β k' ≠ t := fun e3 => e2 (by rw [← hkK]; exact hinj k k' hk hk' (by omega))
              omega
            · intro h5; omega
        · have hp' : pL v t = false := eq_false_of_ne_true hp
          rw [hp'] at e1
          refine ⟨K, k1, by rw [e1]; show cn (pL v) t + 1 + K = t + 1; omega, fun k' hk' => ?_⟩
          have q1 := k3 k' hk'
          have : β k' ≠ t := fun e3 => hp ((hpl t (by omega)).mpr ⟨k', hk', e3⟩)
          omega
    obtain ⟨K, k1, k2, k3⟩ := key (u.1 0) (Nat.le_refl _)
    have : K = (fb9 v).1 := by
      refine Nat.le_antisymm k1 (Nat.le_of_not_lt (fun hlt => ?_))
      have := (k3 K hlt).mp (h.2.1.1 K hlt)
      omega
    omega
/-- lines of the second look -/
abbrev l2 (v : MS) (r : Nat) : Nat := (fl9 v).2.1 3 r
abbrev nuV (u : TS) (v : MS) (c : Nat) : Nat := nu (pL v) (u.1 0) c
abbrev mV (u : TS) (v : MS) (r c : Nat) : Int := aU u (l2 v r) (nuV u v c)
theorem fw_det {u : TS} {v : MS} (hI : Inv u v) : dz (E9 u).1 (mV u v) ≠ 0 := by
  obtain ⟨β, h, hsz, hpl, hv, hm, hcn⟩ := fw_lead hI
  have hI' := inv_vB hI
  obtain ⟨g1, g2, g3, g4, ⟨g5, g6⟩, g7, g8⟩ := lk_pack hI'
  obtain ⟨h1, _⟩ := eq_pack hI
  have hdn := h1.2.1
  have hn := hI.1.2.1
  intro h0
  have big : ∀ z : Nat → Int, (∀ r, r < (E9 u).1 → dt (mV u v r) z (E9 u).1 0 = 0) → ∀ c, c < (E9 u).1 → z c = 0 := by
    intro z hz c hc
    obtain ⟨y, y1, y2, y3⟩ := spr (d := (E9 u).1) (dec := nuV u v) z (fun r s hrs hs => nu_inc r s hrs (by rw [hcn]; exact hs))
    have hky : kA u y := (ka_iff hI' y).mpr (fun r hr => by
      have e := y3 (aU u (lR (vB v) r)) (u.1 0) (fun c hc => (nu_at (by rw [hcn]; exact hc)).1)
      rw [e]
      exact hz r hr)
    obtain ⟨κ, hκ⟩ := h.2.1.2.2.2.2.2.2 y hky
    have hy0 : ∀ k, k < (fb9 v).1 → y (β k) = 0 := fun k hk => y2 _ (fun c hc e => by
      have := (nu_at (P := pL v) (n := u.1 0) (c := c) (by rw [hcn]; exact hc)).2.1
      have e2 := (hpl (β k) (by have := h.2.1.1 k hk; omega)).mpr ⟨k, hk, rfl⟩
      rw [e] at e2
      have e2 : pL v (nu (pL v) (u.1 0) c) = true := e2
      rw [this] at e2
      exact absurd e2 (by decide))
    have hz0 := ech (κ := κ) h.2.1.2.1 h.2.1.2.2.1 h.2.1.2.2.2.1 (fb9 v).1 (Nat.le_refl _) (fun r hr => by
      rw [← hκ (β r) (h.2.1.1 r hr), hy0 r hr]
      exact h.2.1.2.2.1 r hr)
    have hnc := nu_at (P := pL v) (n := u.1 0) (c := c) (by rw [hcn]; exact hc)
    have e3 := hκ (nuV u v c) hnc.1
    rw [dt_zero _ 0 (fun i _ hi => hz0 i (by omega)), y1 c hc] at e3
    exact e3
  by_cases hd0 : (E9 u).1 = 0
  · rw [hd0] at h0
    exact absurd h0 (by show (1 : Int) ≠ 0; decide)
  · by_cases hdn' : (E9 u).1 = u.1 0
    · -- no lead at all
      have hnl : ∀ t, t < u.1 0 → nuV u v t = t := by
        have hcn' : ∀ t, t ≤ u.1 0 → cn (pL v) t = t := by
          intro t
          induction t with
          | zero => exact fun _ => rfl
          | succ t ih =>
            intro ht
            have e1 : cn (pL v) (t + 1) = cn (pL v) t + (if pL v t then 0 else 1) := rfl
            have hp : pL v t = false := by
              cases hh : pL v t with
              | false => rfl
              | true =>
                obtain ⟨k, hk, _⟩ := (hpl t (by omega)).mp hh
                omega
            rw [e1, ih (by omega), hp]; rfl
        intro t ht
        have hp : pL v t = false := by
          cases hh : pL v t with
          | false => rfl
          | true =>
            obtain ⟨k, hk, _⟩ := (hpl t (by omega)).mp hh
            omega
        have := nu_cn (P := pL v) ht hp
        rw [hcn' t (by omega)] at this
        exact this
      have hdec : ∀ c, c < (E9 u).1 → (E9 u).2.1 5 c = c := by
        intro c hc
        have a3 := h1.2.2.1
        have a4 := h1.2.2.2.1
        have ge := dec_ge a4 c hc
        obtain q | q | q : u.1 0 = 1 ∨ u.1 0 = 2 ∨ u.1 0 = 3 := by have := hI.1.1; omega
        · have := a3 c hc; omega
        · have := a3 c hc
          have q1 := a4 0 1 (by omega) (by omega)
          have q2 := a3 1 (by omega)
          obtain rfl | rfl : c = 0 ∨ c = 1 := by omega
          · omega
          · omega
        · have := a3 c hc
          have q1 := a4 0 1 (by omega) (by omega)
          have q2 := a4 1 2 (by omega) (by omega)
          have q3 := a3 2 (by omega)
          obtain rfl | rfl | rfl : c = 0 ∨ c = 1 ∨ c = 2 := by omega
          · omega
          · omega
          · omega
      refine g6 ?_
      rw [← h0]
      exact dz_congr (by omega) (fun r c hr hc => by
        show aU u (l2 v r) ((E9 u).2.1 5 c) = aU u (l2 v r) (nuV u v c)
        rw [hdec c hc, hnl c (by omega)])
    · obtain ⟨z, ⟨c, hc, hzc⟩, hz⟩ := sing (by omega) h0
      exact hzc (big z hz c hc)
/-- a whole vector that solves the chosen lines -/
def Sol (u : TS) (v : MS) (w : Nat → Int) : Prop := ∀ r, r < (E9 u).1 → dt (aU u (l2 v r)) w (u.1 0) 0 = aU u (l2 v r) (u.1 0)
abbrev x3 (x y z : Nat) (j : Nat) : Nat := if j = 0 then x else if j = 1 then y else z
def Good (u : TS) (v : MS) (x y z : Nat) : Prop := ∃ w, Sol u v w ∧ ∀ j, j < u.1 0 → pL v j = true → w j = (x3 x y z j : Nat)
theorem split_nu {u : TS} {v : MS} (hcn : cn (pL v) (u.1 0) = (E9 u).1) (f w : Nat → Int) : dt f w (u.1 0) 0 = dt f (fun j => if pL v j then w j else 0) (u.1 0) 0 + dt (fun c => f (nuV u v c)) (fun c => w (nuV u v c)) (E9 u).1 0 := by
  have e1 := dt_comb (f := f) (x := fun j => if pL v j then w j else 0) (y := fun j => if pL v j then 0 else w j) (a := 1) (b := 1) (u.1 0) 0
  have e2 : dt f w (u.1 0) 0 = dt f (fun t => 1 * (if pL v t then w t else 0) + 1 * (if pL v t then 0 else w t)) (u.1 0) 0 := dt_cx _ _ (fun j _ _ => by
    cases h : pL v j <;> simp)
  have e3 : dt f (fun j => if pL v j then 0 else w j) (u.1 0) 0 = dt (fun c => f (nuV u v c)) (fun c => if pL v (nuV u v c) then 0 else w (nuV u v c)) (E9 u).1 0 :=
    dt_sup (dec := nuV u v) (E9 u).1 0 (fun j => if pL v j then 0 else w j) (fun r s _ hrs hs => Nat.ne_of_lt (nu_inc r s hrs (by rw [hcn]; omega))) (fun r _ hr => (nu_at (by rw [hcn]; omega)).1) (fun t ht hno => by
      show (if pL v t then 0 else w t) = 0
      cases h : pL v t with
      | true => rfl
      | false => exact absurd (nu_cn (P := pL v) ht h).symm (hno (cn (pL v) t) (Nat.zero_le _) (by have := cn_lt (P := pL v) ht h; omega)))
  have e4 : dt (fun c => f (nuV u v c)) (fun c => if pL v (nuV u v c) then 0 else w (nuV u v c)) (E9 u).1 0 = dt (fun c => f (nuV u v c)) (fun c => w (nuV u v c)) (E9 u).1 0 := dt_cx _ _ (fun c _ hc => by
    have := (nu_at (P := pL v) (n := u.1 0) (c := c) (by rw [hcn]; omega)).2.1
    show (if pL v (nu (pL v) (u.1 0) c) then 0 else w (nuV u v c)) = _
    rw [this]; rfl)
  rw [e2, e1, e3, e4]
  omega
theorem ft1_at {x y z : Int64} {X : Nat → Nat → Int64} : ft1 x y z X 11 0 = x ∧ ft1 x y z X 11 1 = y ∧ ft1 x y z X 11 2 = z ∧ ∀ a, a ≠ 11 → ft1 x y z X a = X a := by
  unfold ft1
  refine ⟨?_, ?_, ?_, fun a ha => ?_⟩
  · rw [up2_n (by omega), up2_n (by omega), up2_s]
  · rw [up2_n (by omega), up2_s]
  · rw [up2_s]
  · rw [up2_row ha, up2_row ha, up2_row ha]
theorem ftQ_at {u : TS} {v : MS} (hI : Inv u v) {X : Nat → Nat → Int64} (hX : X 12 = fM v 12) (x y z : Int64) :
    (∀ r c, r < (E9 u).1 → c < (E9 u).1 → (ftQ (u.1 0) (E9 u).1 (fl9 v).2.1 v.2.2.2.1 x y z X 5 (3 * r + c)).toInt = mV u v r c ∧ -9 ≤ mV u v r c ∧ mV u v r c ≤ 9) ∧ ftQ (u.1 0) (E9 u).1 (fl9 v).2.1 v.2.2.2.1 x y z X 12 = fM v 12 ∧
    (∀ g : Nat → Int, (∀ j, j < u.1 0 → (if pL v j then (ft1 x y z X 11 j).toInt else 0) = g j ∧ -162 ≤ g j ∧ g j ≤ 162) → (∀ r, r < (E9 u).1 → (ftQ (u.1 0) (E9 u).1 (fl9 v).2.1 v.2.2.2.1 x y z X 6 r).toInt = aU u (l2 v r) (u.1 0) - dt (aU u (l2 v r)) g (u.1 0) 0 ∧ -4383 ≤ aU u (l2 v r) (u.1 0) - dt (aU u (l2 v r)) g (u.1 0) 0 ∧ aU u (l2 v r) (u.1 0) - dt (aU u (l2 v r)) g (u.1 0) 0 ≤ 4383) ∧ ∀ j, j < u.1 0 → pL v j = true → ftQ (u.1 0) (E9 u).1 (fl9 v).2.1 v.2.2.2.1 x y z X 11 j = ft1 x y z X 11 j) := by
  obtain ⟨β, h, hsz, hpl, hv, hm, hcn⟩ := fw_lead hI
  have hI' := inv_vB hI
  obtain ⟨g1, g2, g3, g4, ⟨g5, g6⟩, g7, g8⟩ := lk_pack hI'
  obtain ⟨h1, h2, h3, h4, h5, hB⟩ := eq_pack hI'
  have hdn := h1.2.1
  have hn := hI.1.2.1
  obtain ⟨t0, t1, t2, t3⟩ := ft1_at (x := x) (y := y) (z := z) (X := X)
  have hP : ∀ w, w < 3 → (pL v w = true ↔ 0 < ft1 x y z X 12 w) := fun w hw => by
    rw [t3 12 (by omega), hX]; exact decide_eq_true_iff
  obtain ⟨a1, a2, a3, a4⟩ := ft2_run (rk := (E9 u).1) (AN := (fl9 v).2.1) (BI := v.2.2.2.1) (AL := ft1 x y z X) (P := pL v) hP (u.1 0) 0 0 (ft1 x y z X) (by omega) rfl (fun w hw => absurd hw (Nat.not_lt_zero _)) (fun w hw => absurd hw (Nat.not_lt_zero _)) (fun _ _ => rfl) (fun _ _ _ => rfl)
  rw [Nat.zero_add] at a1 a2 a3
  obtain ⟨Y, hY⟩ : ∃ Y, Y = (fo (ft2s (E9 u).1 (fl9 v).2.1 v.2.2.2.1) (u.1 0) 0 (0, ft1 x y z X)).2 := ⟨_, rfl⟩
  rw [← hY] at a1 a2 a3 a4
  have eQ : ftQ (u.1 0) (E9 u).1 (fl9 v).2.1 v.2.2.2.1 x y z X = fo (fun r X => fo (fun u Y => up2 Y 6 r (Y 6 r - nbr (fl9 v).2.1 v.2.2.2.1 r u * Y 11 u)) (u.1 0) 0 (up2 X 6 r (Int32.toInt64 (v.2.2.2.1 (4 * (fl9 v).2.1 3 r + 3))))) (E9 u).1 0 Y := by rw [hY]; rfl
  rw [eQ]
  -- ft3 leaves all but 6
  have fr3 : ∀ (m i : Nat) (X : Nat → Nat → Int64) (a : Nat), a ≠ 6 → fo (fun r X => fo (fun u Y => up2 Y 6 r (Y 6 r - nbr (fl9 v).2.1 v.2.2.2.1 r u * Y 11 u)) (u.1 0) 0 (up2 X 6 r (Int32.toInt64 (v.2.2.2.1 (4 * (fl9 v).2.1 3 r + 3))))) m i X a = X a := by
    have fri : ∀ (r m i : Nat) (X : Nat → Nat → Int64) (a : Nat), a ≠ 6 → fo (fun u Y => up2 Y 6 r (Y 6 r - nbr (fl9 v).2.1 v.2.2.2.1 r u * Y 11 u)) m i X a = X a := by
      intro r m
      induction m with
      | zero => intro i X a _; rfl
      | succ m ih => intro i X a ha; rw [fo_s, ih _ _ a ha, up2_row ha]
    intro m
    induction m with
    | zero => intro i X a _; rfl
    | succ m ih => intro i X a ha; rw [fo_s, ih _ _ a ha, fri _ _ _ _ a ha, up2_row ha]
  have nb : ∀ r c, r < (E9 u).1 → c < u.1 0 → (nbr (fl9 v).2.1 v.2.2.2.1 r c).toInt = aU u (l2 v r) c ∧ -9 ≤ aU u (l2 v r) c ∧ aU u (l2 v r) c ≤ 9 := fun r c hr hc => nbr_int hI' hr hc
  refine ⟨fun r c hr hc => ?_, ?_, fun g hg => ?_⟩
  · obtain ⟨n1, n2, n3⟩ := nu_at (P := pL v) (n := u.1 0) (c := c) (by rw [hcn]; exact hc)
    have := a1 (nu (pL v) (u.1 0) c) n1 n2 r hr
    rw [n3] at this
    rw [fr3 _ _ _ 5 (by omega), this]
    exact nb r _ hr n1
  · rw [fr3 _ _ _ 12 (by omega), a4 12 (by omega) (by omega), t3 12 (by omega), hX]
  · have hY11 : ∀ j, j < u.1 0 → (Y 11 j).toInt = g j ∧ -162 ≤ g j ∧ g j ≤ 162 := fun j hj => by
      obtain ⟨q1, q2, q3⟩ := hg j hj
      refine ⟨?_, q2, q3⟩
      rw [← q1]
      cases hp : pL v j with
      | true => rw [a3 j (.inr hp)]; rfl
      | false => rw [a2 j hj hp]; rfl
    obtain ⟨k1, k2⟩ := ft3_run (rk := (E9 u).1) (AN := (fl9 v).2.1) (BI := v.2.2.2.1) (f := fun r => aU u (l2 v r)) (g := g) (b := fun r => aU u (l2 v r) (u.1 0)) hn (E9 u).1 0 Y (fun r _ hr => ⟨fun w hw => nb r w (by omega) hw, by rw [t32_64]; exact hB.2.1 _ (g5 r (by omega)), hB.2.2 _ _ (g5 r (by omega)) (Nat.le_refl _)⟩) hY11
    refine ⟨fun r hr => k1 r (Nat.zero_le _) (by omega), fun j hj hp => ?_⟩
    rw [fr3 _ _ _ 11 (by omega), a3 j (.inr hp)]
theorem fw_ok {u : TS} {v : MS} (hI : Inv u v) {X : Nat → Nat → Int64} (hX : X 12 = fM v 12) (x y z : Int64) : (det (E9 u).1 (ftQ (u.1 0) (E9 u).1 (fl9 v).2.1 v.2.2.2.1 x y z X 5)).toInt = dz (E9 u).1 (mV u v) ∧ ¬ det (E9 u).1 (ftQ (u.1 0) (E9 u).1 (fl9 v).2.1 v.2.2.2.1 x y z X 5) = 0 := by
  obtain ⟨q1, _⟩ := ftQ_at hI hX x y z
  obtain ⟨h1, _⟩ := eq_pack hI
  have hdn := h1.2.1
  have hn := hI.1.2.1
  have hd := det_int (B := 9) (show (E9 u).1 ≤ 3 by omega) (by decide) (by decide) q1
  refine ⟨hd.1, fun h => fw_det hI ?_⟩
  rw [← hd.1, h]; rfl
theorem ftR_spec {u : TS} {v : MS} (hI : Inv u v) {X : Nat → Nat → Int64} (hX : X 12 = fM v 12) {x y z : Nat} (hx : x ≤ 162) (hy : y ≤ 162) (hz : z ≤ 162) :
    (ftR (u.1 0) (E9 u).1 (fl9 v).2.1 v.2.2.2.1 (lN x) (lN y) (lN z) X).2 12 = fM v 12 ∧
    ((ftR (u.1 0) (E9 u).1 (fl9 v).2.1 v.2.2.2.1 (lN x) (lN y) (lN z) X).1 = true → Sol u v (fun j => ((ftR (u.1 0) (E9 u).1 (fl9 v).2.1 v.2.2.2.1 (lN x) (lN y) (lN z) X).2 11 j).toInt) ∧ ∀ j, j < u.1 0 → pL v j = true → ((ftR (u.1 0) (E9 u).1 (fl9 v).2.1 v.2.2.2.1 (lN x) (lN y) (lN z) X).2 11 j).toInt = (x3 x y z j : Nat)) ∧
    (Good u v x y z → (ftR (u.1 0) (E9 u).1 (fl9 v).2.1 v.2.2.2.1 (lN x) (lN y) (lN z) X).1 = true) := by
  obtain ⟨β, h, hsz, hpl, hv, hm, hcn⟩ := fw_lead hI
  obtain ⟨h1, _⟩ := eq_pack hI
  have hdn := h1.2.1
  have hn := hI.1.2.1
  obtain ⟨q1, q2, q3⟩ := ftQ_at hI hX (lN x) (lN y) (lN z)
  obtain ⟨d1, d2⟩ := fw_ok hI hX (lN x) (lN y) (lN z)
  obtain ⟨t0, t1, t2, t3⟩ := ft1_at (x := lN x) (y := lN y) (z := lN z) (X := X)
  have e11 : ∀ j, j < 3 → (ft1 (lN x) (lN y) (lN z) X 11 j).toInt = (x3 x y z j : Nat) := fun j hj => by
    obtain rfl | rfl | rfl : j = 0 ∨ j = 1 ∨ j = 2 := by omega
    · rw [t0, lN_toInt (by omega)]; rfl
    · rw [t1, lN_toInt (by omega)]; rfl
    · rw [t2, lN_toInt (by omega)]; rfl
  have hx3 : ∀ j, x3 x y z j ≤ 162 := fun j => by
    show (if j = 0 then x else if j = 1 then y else z) ≤ 162
    split
    · exact hx
    · split
      · exact hy
      · exact hz
  obtain ⟨k1, k2⟩ := q3 (fun j => if pL v j then ((x3 x y z j : Nat) : Int) else 0) (fun j hj => by
    have b := hx3 j
    rw [e11 j (by omega)]
    refine ⟨rfl, ?_⟩
    cases pL v j with
    | true => exact ⟨by show -162 ≤ ((x3 x y z j : Nat) : Int); omega, by show ((x3 x y z j : Nat) : Int) ≤ 162; omega⟩
    | false => exact ⟨by show (-162 : Int) ≤ 0; omega, by show (0 : Int) ≤ 162; omega⟩)
  obtain ⟨Q, hQ⟩ : ∃ Q, Q = ftQ (u.1 0) (E9 u).1 (fl9 v).2.1 v.2.2.2.1 (lN x) (lN y) (lN z) X := ⟨_, rfl⟩
  rw [← hQ] at q1 q2 k1 k2 d1 d2
  have eR : ftR (u.1 0) (E9 u).1 (fl9 v).2.1 v.2.2.2.1 (lN x) (lN y) (lN z) X = ft5 (det (E9 u).1 (Q 5)) (u.1 0) 0 0 (ssq (E9 u).1 Q) := by rw [hQ]; rfl
  rw [eR]
  obtain ⟨co, hco⟩ : ∃ co : Nat → Int, co = fun r => aU u (l2 v r) (u.1 0) - dt (aU u (l2 v r)) (fun j => if pL v j then ((x3 x y z j : Nat) : Int) else 0) (u.1 0) 0 := ⟨_, rfl⟩
  obtain ⟨s1, s2⟩ := ssq_int (X := Q) (M := mV u v) (b := co) (B := 4383) (show (E9 u).1 ≤ 3 by omega) (by decide) (by decide) (fun r c hr hc => by have := q1 r c hr hc; omega) (fun r hr => by rw [hco]; exact k1 r hr)
  have e12 : ssq (E9 u).1 Q 12 = fM v 12 := by rw [s1 12 (by omega) (by omega), q2]
  obtain ⟨f1, f2, f3⟩ := ft5_run (al := det (E9 u).1 (Q 5)) (P := pL v) (D := dz (E9 u).1 (mV u v)) (ans := fun c => dz (E9 u).1 (rp (mV u v) c co)) d1 (fw_det hI) (u.1 0) 0 0 (ssq (E9 u).1 Q) (by omega) rfl (fun w hw => by rw [e12]; exact decide_eq_true_iff) (fun w _ hw hp => by
    have hc := cn_lt (P := pL v) (show w < u.1 0 by omega) hp
    have := s2 (cn (pL v) w) (by omega)
    refine ⟨this.1, ?_⟩
    show (dz (E9 u).1 (rp (mV u v) (cn (pL v) w) co)).natAbs < _
    omega)
  have hsol : ∀ w : Nat → Int, (∀ j, j < u.1 0 → pL v j = true → w j = (x3 x y z j : Nat)) → ∀ r, dt (aU u (l2 v r)) w (u.1 0) 0 = (aU u (l2 v r) (u.1 0) - co r) + dt (mV u v r) (fun c => w (nuV u v c)) (E9 u).1 0 := fun w hw r => by
    rw [split_nu hcn]
    have : dt (aU u (l2 v r)) (fun j => if pL v j then w j else 0) (u.1 0) 0 = dt (aU u (l2 v r)) (fun j => if pL v j then ((x3 x y z j : Nat) : Int) else 0) (u.1 0) 0 := dt_cx _ _ (fun j _ hj => by
      cases hp : pL v j with
      | true => exact hw j (by omega) hp
      | false => rfl)
    rw [this, hco]
    show _ = (aU u (l2 v r) (u.1 0) - (aU u (l2 v r) (u.1 0) - _)) + dt (fun c => aU u (l2 v r) (nuV u v c)) (fun c => w (nuV u v c)) (E9 u).1 0
    omega
  refine ⟨by rw [f3, e12], fun ht => ?_, ?_⟩
  · obtain ⟨r1, r2⟩ := f2 ht
    have hl : ∀ j, j < u.1 0 → pL v j = true → ((ft5 (det (E9 u).1 (Q 5)) (u.1 0) 0 0 (ssq (E9 u).1 Q)).2 11 j).toInt = (x3 x y z j : Nat) := fun j hj hp => by
      rw [r2 j (.inr (.inr hp)), s1 11 (by omega) (by omega), k2 j hj hp]
      exact e11 j (by omega)
    refine ⟨fun r hr => ?_, hl⟩
    rw [hsol _ hl r]
    have hs := dz_solves (M := mV u v) (b := co) (show (E9 u).1 ≤ 3 by omega) r hr
    have hc : dt (mV u v r) (fun c => dz (E9 u).1 (rp (mV u v) c co)) (E9 u).1 0 = dz (E9 u).1 (mV u v) * dt (mV u v r) (fun c => ((ft5 (det (E9 u).1 (Q 5)) (u.1 0) 0 0 (ssq (E9 u).1 Q)).2 11 (nuV u v c)).toInt) (E9 u).1 0 := by
      have e1 := dt_comb (f := mV u v r) (x := fun c => ((ft5 (det (E9 u).1 (Q 5)) (u.1 0) 0 0 (ssq (E9 u).1 Q)).2 11 (nuV u v c)).toInt) (y := fun _ => 0) (a := dz (E9 u).1 (mV u v)) (b := 0) (E9 u).1 0
      rw [show dz (E9 u).1 (mV u v) * dt (mV u v r) (fun c => ((ft5 (det (E9 u).1 (Q 5)) (u.1 0) 0 0 (ssq (E9 u).1 Q)).2 11 (nuV u v c)).toInt) (E9 u).1 0 = dz (E9 u).1 (mV u v) * dt (mV u v r) (fun c => ((ft5 (det (E9 u).1 (Q 5)) (u.1 0) 0 0 (ssq (E9 u).1 Q)).2 11 (nuV u v c)).toInt) (E9 u).1 0 + 0 * dt (mV u v r) (fun _ => 0) (E9 u).1 0 by omega, ← e1]
      refine dt_cx _ _ (fun c _ hc => ?_)
      obtain ⟨n1, n2, n3⟩ := nu_at (P := pL v) (n := u.1 0) (c := c) (by rw [hcn]; omega)
      have := r1 (nu (pL v) (u.1 0) c) (Nat.zero_le _) (by omega) n2
      rw [n3] at this
      have this : dz (E9 u).1 (mV u v) * ((ft5 (det (E9 u).1 (Q 5)) (u.1 0) 0 0 (ssq (E9 u).1 Q)).2 11 (nuV u v c)).toInt = dz (E9 u).1 (rp (mV u v) c co) := this
      omega
    rw [hs, Int.mul_comm] at hc
    have := Int.eq_of_mul_eq_mul_left (fw_det hI) hc
    rw [← this]
    omega
  · rintro ⟨w, hw1, hw2⟩
    refine f1.mpr (fun j _ hj hp => ?_)
    have hc := cn_lt (P := pL v) (show j < u.1 0 by omega) hp
    have hr : ∀ r, r < (E9 u).1 → dt (mV u v r) (fun c => w (nuV u v c)) (E9 u).1 0 = co r := fun r hr => by
      have e1 := hsol w hw2 r
      have e2 := hw1 r hr
      omega
    have := dz_cramer (show (E9 u).1 ≤ 3 by omega) hr (cn (pL v) j) (by omega)
    exact ⟨_, this.symm⟩
/-- what a search has found -/
def Fnd (u : TS) (v : MS) (Q : Nat → Nat → Nat → Prop) (res : Bool × (Nat → Nat → Int64)) : Prop := res.2 12 = fM v 12 ∧ (res.1 = true → ∃ x y z, Q x y z ∧ Sol u v (fun j => (res.2 11 j).toInt) ∧ ∀ j, j < u.1 0 → pL v j = true → (res.2 11 j).toInt = (x3 x y z j : Nat)) ∧ (res.1 = false → ∀ x y z, Q x y z → ¬ Good u v x y z)
theorem fwZ_spec {u : TS} {v : MS} (hI : Inv u v) {x y : Nat} (hx : x ≤ 162) (hy : y ≤ 162) : ∀ (c z : Nat) (X : Nat → Nat → Int64), z + c ≤ 163 → X 12 = fM v 12 → Fnd u v (fun x' y' z' => x' = x ∧ y' = y ∧ z ≤ z' ∧ z' < z + c) (fwZ (u.1 0) (E9 u).1 (fl9 v).2.1 v.2.2.2.1 x y c z X)
  | 0, z, X, _, hX => ⟨hX, fun h => absurd h (by simp [fwZ]), fun _ x' y' z' h => absurd h.2.2.2 (by omega)⟩
  | c + 1, z, X, hz, hX => by
    obtain ⟨a1, a2, a3⟩ := ftR_spec hI hX hx hy (show z ≤ 162 by omega)
    unfold fwZ
    by_cases ht : (ftR (u.1 0) (E9 u).1 (fl9 v).2.1 v.2.2.2.1 (lN x) (lN y) (lN z) X).1 = true
    · rw [if_pos ht]
      exact ⟨a1, fun _ => ⟨x, y, z, ⟨rfl, rfl, Nat.le_refl _, by omega⟩, a2 ht⟩, fun h => absurd h (by simp)⟩
    · rw [if_neg ht]
      obtain ⟨b1, b2, b3⟩ := fwZ_spec hI hx hy c (z + 1) _ (by omega) a1
      refine ⟨b1, fun h => ?_, fun h x' y' z' hq => ?_⟩
      · obtain ⟨x', y', z', q, r⟩ := b2 h
        exact ⟨x', y', z', ⟨q.1, q.2.1, by omega, by omega⟩, r⟩
      · by_cases e : z' = z
        · rw [hq.1, hq.2.1, e]; exact fun hg => ht (a3 hg)
        · exact b3 h x' y' z' ⟨hq.1, hq.2.1, by omega, by omega⟩
theorem fwY_spec {u : TS} {v : MS} (hI : Inv u v) {x cz : Nat} (hx : x ≤ 162) (hz : cz ≤ 163) : ∀ (c y : Nat) (X : Nat → Nat → Int64), y + c ≤ 163 → X 12 = fM v 12 → Fnd u v (fun x' y' z' => x' = x ∧ (y ≤ y' ∧ y' < y + c) ∧ z' < cz) (fwY (u.1 0) (E9 u).1 (fl9 v).2.1 v.2.2.2.1 x cz c y X)
  | 0, y, X, _, hX => ⟨hX, fun h => absurd h (by simp [fwY]), fun _ x' y' z' h => absurd h.2.1.2 (by omega)⟩
  | c + 1, y, X, hy, hX => by
    obtain ⟨a1, a2, a3⟩ := fwZ_spec hI hx (show y ≤ 162 by omega) cz 0 X (by omega) hX
    unfold fwY
    by_cases ht : (fwZ (u.1 0) (E9 u).1 (fl9 v).2.1 v.2.2.2.1 x y cz 0 X).1 = true
    · rw [if_pos ht]
      refine ⟨a1, fun _ => ?_, fun h => absurd h (by simp)⟩
      obtain ⟨x', y', z', q, r⟩ := a2 ht
      exact ⟨x', y', z', ⟨q.1, by omega, by omega⟩, r⟩
    · rw [if_neg ht]
      obtain ⟨b1, b2, b3⟩ := fwY_spec hI hx hz c (y + 1) _ (by omega) a1
      refine ⟨b1, fun h => ?_, fun h x' y' z' hq => ?_⟩
      · obtain ⟨x', y', z', q, r⟩ := b2 h
        exact ⟨x', y', z', ⟨q.1, by omega, q.2.2⟩, r⟩
      · by_cases e : y' = y
        · exact a3 (eq_false_of_ne_true ht) x' y' z' ⟨hq.1, e, Nat.zero_le _, by omega⟩
        · exact b3 h x' y' z' ⟨hq.1, by omega, hq.2.2⟩
theorem fwX_spec {u : TS} {v : MS} (hI : Inv u v) {cy cz : Nat} (hy : cy ≤ 163) (hz : cz ≤ 163) : ∀ (c x : Nat) (X : Nat → Nat → Int64), x + c ≤ 163 → X 12 = fM v 12 → Fnd u v (fun x' y' z' => (x ≤ x' ∧ x' < x + c) ∧ y' < cy ∧ z' < cz) (fwX (u.1 0) (E9 u).1 (fl9 v).2.1 v.2.2.2.1 cy cz c x X)
  | 0, x, X, _, hX => ⟨hX, fun h => absurd h (by simp [fwX]), fun _ x' y' z' h => absurd h.1.2 (by omega)⟩
  | c + 1, x, X, hx, hX => by
    obtain ⟨a1, a2, a3⟩ := fwY_spec hI (show x ≤ 162 by omega) hz cy 0 X (by omega) hX
    unfold fwX
    by_cases ht : (fwY (u.1 0) (E9 u).1 (fl9 v).2.1 v.2.2.2.1 x cz cy 0 X).1 = true
    · rw [if_pos ht]
      refine ⟨a1, fun _ => ?_, fun h => absurd h (by simp)⟩
      obtain ⟨x', y', z', q, r⟩ := a2 ht
      exact ⟨x', y', z', ⟨by omega, by omega, q.2.2⟩, r⟩
    · rw [if_neg ht]
      obtain ⟨b1, b2, b3⟩ := fwX_spec hI hy hz c (x + 1) _ (by omega) a1
      refine ⟨b1, fun h => ?_, fun h x' y' z' hq => ?_⟩
      · obtain ⟨x', y', z', q, r⟩ := b2 h
        exact ⟨x', y', z', ⟨by omega, q.2.1, q.2.2⟩, r⟩
      · by_cases e : x' = x
        · exact a3 (eq_false_of_ne_true ht) x' y' z' ⟨e, by omega, hq.2.2⟩
        · exact b3 h x' y' z' ⟨by omega, hq.2.1, hq.2.2⟩
