/-! Euclid's way over longs comes to its end within 100 steps, and finds the greatest common divisor. -/
theorem t_div {x y : Int64} (h : -9223372036854775808 < x.toInt) : (x / y).toInt = x.toInt.tdiv y.toInt := by
  rw [Int64.toInt_div]
  show Int.bmod _ (2 ^ 64) = _
  have h2 := Int64.toInt_lt x
  have h3 : (x.toInt.tdiv y.toInt).natAbs ≤ x.toInt.natAbs := by
    rw [Int.natAbs_tdiv]
    exact Nat.div_le_self _ _
  unfold Int.bmod
  simp only
  split <;> omega
theorem t_rem {b s : Int64} (hb : 0 ≤ b.toInt) (hs : 0 < s.toInt) : (b - b / s * s).toInt = b.toInt % s.toInt := by
  have h2 := Int64.toInt_lt b
  have e1 : (b / s).toInt = b.toInt / s.toInt := by
    rw [t_div (by omega), Int.tdiv_eq_ediv_of_nonneg hb]
  have e2 := Int.emod_add_ediv_mul b.toInt s.toInt
  have e3 := Int.emod_nonneg b.toInt (show s.toInt ≠ 0 by omega)
  have e5 : 0 ≤ b.toInt / s.toInt * s.toInt := Int.mul_nonneg (Int.ediv_nonneg hb (by omega)) (by omega)
  generalize hp : b.toInt / s.toInt * s.toInt = p at *
  have e4 : (b / s * s).toInt = p := by
    rw [t_mul, e1, hp] <;> rw [e1, hp] <;> omega
  rw [t_sub, e4] <;> (try rw [e4]) <;> omega
theorem euT_gcd : ∀ (n : Nat) (b s : Int64), 0 ≤ b.toInt → 0 ≤ s.toInt → euT n b s → (eu64 n b s).toInt = Int.gcd b.toInt s.toInt
  | 0, b, s, hb, hs, h => by
    have h : s = 0 := h
    subst h
    show b.toInt = _
    rw [z64, Int.gcd_zero_right]
    omega
  | n + 1, b, s, hb, hs, h => by
    show (if s = 0 then b else eu64 n s (b - b / s * s)).toInt = _
    by_cases h0 : s = 0
    · rw [if_pos h0]
      subst h0
      rw [z64, Int.gcd_zero_right]
      omega
    · rw [if_neg h0]
      have hs1 : 0 < s.toInt := by
        have : s.toInt ≠ 0 := fun q => h0 (Int64.toInt_inj.mp (by rw [q, z64]))
        omega
      have hr := t_rem hb hs1
      have e3 := Int.emod_nonneg b.toInt (show s.toInt ≠ 0 by omega)
      rcases h with h | h
      · exact absurd h h0
      · rw [euT_gcd n s _ hs (by omega) h, hr]
        congr 1
        rw [Int.emod_def, Int.gcd_comm b.toInt]
        exact Int.gcd_sub_mul_left_right ..
def fb2 : Nat → Nat × Nat
  | 0 => (1, 1)
  | n + 1 => ((fb2 n).2, (fb2 n).1 + (fb2 n).2)
theorem euT_fib : ∀ (n : Nat) (b s : Int64), 0 ≤ s.toInt → s.toInt < b.toInt → (b.toInt < (fb2 n).2 ∨ s.toInt < (fb2 n).1) → euT n b s
  | 0, b, s, h1, h2, h => by
    show s = 0
    rw [← Int64.toInt_inj, z64]
    have : (fb2 0).1 = 1 := rfl
    have : (fb2 0).2 = 1 := rfl
    omega
  | n + 1, b, s, h1, h2, h => by
    by_cases h0 : s = 0
    · exact Or.inl h0
    · refine Or.inr ?_
      have hs1 : 0 < s.toInt := by
        have : s.toInt ≠ 0 := fun q => h0 (Int64.toInt_inj.mp (by rw [q, z64]))
        omega
      have hr := t_rem (b := b) (by omega) hs1
      have e3 := Int.emod_nonneg b.toInt (show s.toInt ≠ 0 by omega)
      have e4 := Int.emod_lt_of_pos b.toInt hs1
      have e5 := Int.emod_add_ediv_mul b.toInt s.toInt
      have e6 : 1 ≤ b.toInt / s.toInt := Int.le_ediv_of_mul_le hs1 (by omega)
      have e7 : s.toInt ≤ b.toInt / s.toInt * s.toInt := by
        have := Int.mul_le_mul_of_nonneg_right e6 (show 0 ≤ s.toInt by omega)
        omega
      have f1 : (fb2 (n + 1)).1 = (fb2 n).2 := rfl
      have f2 : (fb2 (n + 1)).2 = (fb2 n).1 + (fb2 n).2 := rfl
      refine euT_fib n s _ (by omega) (by omega) ?_
      rw [hr]
      omega
theorem fb2_99 : (9223372036854775808 : Nat) < (fb2 99).1 := by decide +kernel
theorem euT_100 {b s : Int64} (hb : 0 ≤ b.toInt) (hs : 0 ≤ s.toInt) : euT 100 b s := by
  by_cases h0 : s = 0
  · exact Or.inl h0
  · refine Or.inr ?_
    have hs1 : 0 < s.toInt := by
      have : s.toInt ≠ 0 := fun q => h0 (Int64.toInt_inj.mp (by rw [q, z64]))
      omega
    have hr := t_rem hb hs1
    have e3 := Int.emod_nonneg b.toInt (show s.toInt ≠ 0 by omega)
    have e4 := Int.emod_lt_of_pos b.toInt hs1
    have h5 := Int64.toInt_lt s
    have h6 := fb2_99
    refine euT_fib 99 s _ (by omega) (by omega) (Or.inr ?_)
    rw [hr]
    omega
theorem aw_abs {x : Int64} (h : -9223372036854775808 < x.toInt) : (aw64 x).toInt = x.toInt.natAbs := by
  unfold aw64
  by_cases h0 : x < 0
  · rw [if_pos h0]
    rw [i64l, z64] at h0
    rw [t_neg h]
    omega
  · rw [if_neg h0]
    rw [i64l, z64] at h0
    omega
theorem ab_abs {x : Int64} (h : -9223372036854775808 < x.toInt) : (ab64 x).toInt = x.toInt.natAbs := by
  unfold ab64
  by_cases h0 : 0 < x
  · rw [if_pos h0]
    rw [i64l, z64] at h0
    omega
  · rw [if_neg h0]
    rw [i64l, z64] at h0
    rw [t_neg h]
    omega
theorem dv_gcd {x y : Int64} (hx : -9223372036854775808 < x.toInt) (hy : -9223372036854775808 < y.toInt) : (dv64 x y).toInt = Int.gcd x.toInt y.toInt := by
  unfold dv64
  have e1 := aw_abs hx
  have e2 := aw_abs hy
  rw [euT_gcd 100 _ _ (by omega) (by omega) (euT_100 (by omega) (by omega)), e1, e2]
  rfl
theorem cd_gcd {x y : Int64} (hx : -9223372036854775808 < x.toInt) (hy : -9223372036854775808 < y.toInt) : (cd64 x y).toInt = Int.gcd x.toInt y.toInt := by
  unfold cd64
  have e1 := ab_abs hx
  have e2 := ab_abs hy
  rw [euT_gcd 100 _ _ (by omega) (by omega) (euT_100 (by omega) (by omega)), e1, e2]
  rfl
theorem okD_all {x y : Int64} (hx : -9223372036854775808 < x.toInt) (hy : -9223372036854775808 < y.toInt) : okD x y := by
  unfold okD
  have e1 := aw_abs hx
  have e2 := aw_abs hy
  exact euT_100 (by omega) (by omega)
theorem okLow_all {x y : Int64} (hx : -9223372036854775808 < x.toInt) (hy : -9223372036854775808 < y.toInt) (h0 : y.toInt ≠ 0) : okLow x y := by
  refine ⟨okD_all hx hy, fun h => ?_⟩
  have h1 := dv_gcd hx hy
  rw [h, z64] at h1
  have h2 : Int.gcd x.toInt y.toInt = 0 := by omega
  exact h0 (Int.gcd_eq_zero_iff.mp h2).2
theorem dvd_cop {d c b : Int} (h : d ∣ c * b) (hg : Int.gcd d c = 1) : d ∣ b := by
  have h1 : d.natAbs ∣ c.natAbs * b.natAbs := by
    rw [← Int.natAbs_mul]
    exact Int.natAbs_dvd_natAbs.mpr h
  have h2 : Nat.Coprime d.natAbs c.natAbs := hg
  exact Int.natAbs_dvd_natAbs.mp (h2.dvd_of_dvd_mul_left h1)
/-- lowest terms: the same fraction told in lowest terms is told alike -/
theorem low_unique {a b c d : Int} (hb : 0 < b) (hd : 0 < d) (h : a * d = c * b) : a / Int.gcd a b = c / Int.gcd c d ∧ b / Int.gcd a b = d / Int.gcd c d := by
  have gb : (0 : Int) < Int.gcd a b := by
    have : Int.gcd a b ≠ 0 := fun z => by have := (Int.gcd_eq_zero_iff.mp z).2; omega
    omega
  have gd : (0 : Int) < Int.gcd c d := by
    have : Int.gcd c d ≠ 0 := fun z => by have := (Int.gcd_eq_zero_iff.mp z).2; omega
    omega
  obtain ⟨a', ha⟩ : ((Int.gcd a b : Nat) : Int) ∣ a := Int.gcd_dvd_left ..
  obtain ⟨b', hb'⟩ : ((Int.gcd a b : Nat) : Int) ∣ b := Int.gcd_dvd_right ..
  obtain ⟨c', hc⟩ : ((Int.gcd c d : Nat) : Int) ∣ c := Int.gcd_dvd_left ..
  obtain ⟨d', hd'⟩ : ((Int.gcd c d : Nat) : Int) ∣ d := Int.gcd_dvd_right ..
  have c1 : Int.gcd a' b' = 1 := by
    have := Int.gcd_mul_left (Int.gcd a b : Int) a' b'
    rw [← ha, ← hb'] at this
    have h9 : Int.gcd a b * 1 = Int.gcd a b * Int.gcd a' b' := by
      rw [Nat.mul_one]
      simpa using this
    exact (Nat.eq_of_mul_eq_mul_left (by omega) h9).symm
  have c2 : Int.gcd c' d' = 1 := by
    have := Int.gcd_mul_left (Int.gcd c d : Int) c' d'
    rw [← hc, ← hd'] at this
    have h9 : Int.gcd c d * 1 = Int.gcd c d * Int.gcd c' d' := by
      rw [Nat.mul_one]
      simpa using this
    exact (Nat.eq_of_mul_eq_mul_left (by omega) h9).symm
  have b0 : 0 < b' := by
    rw [hb'] at hb
    exact Int.pos_of_mul_pos_right hb (by omega)
  have d0 : 0 < d' := by
    rw [hd'] at hd
    exact Int.pos_of_mul_pos_right hd (by omega)
  have hx : a' * d' = c' * b' := by
    generalize (Int.gcd a b : Int) = g at *
    generalize (Int.gcd c d : Int) = k at *
    have h1 : (g * k) * (a' * d') = (g * k) * (c' * b') := by grind
    exact Int.eq_of_mul_eq_mul_left (by have := Int.mul_pos gb gd; omega) h1
  have db : d' ∣ b' := dvd_cop (show d' ∣ c' * b' by rw [← hx]; exact Int.dvd_mul_left ..) (by rw [Int.gcd_comm]; exact c2)
  have bd : b' ∣ d' := dvd_cop (show b' ∣ a' * d' by rw [hx]; exact Int.dvd_mul_left ..) (by rw [Int.gcd_comm]; exact c1)
  have e1 : b' = d' := by
    have h1 := Int.le_of_dvd b0 db
    have h2 := Int.le_of_dvd d0 bd
    omega
  have e2 : a' = c' := by
    rw [e1] at hx
    exact Int.eq_of_mul_eq_mul_right (by omega) hx
  have q1 : a / (Int.gcd a b : Int) = a' := by
    rw [Int.ediv_eq_iff_eq_mul_right (by omega) ⟨a', ha⟩]
    exact ha
  have q2 : b / (Int.gcd a b : Int) = b' := by
    rw [Int.ediv_eq_iff_eq_mul_right (by omega) ⟨b', hb'⟩]
    exact hb'
  have q3 : c / (Int.gcd c d : Int) = c' := by
    rw [Int.ediv_eq_iff_eq_mul_right (by omega) ⟨c', hc⟩]
    exact hc
  have q4 : d / (Int.gcd c d : Int) = d' := by
    rw [Int.ediv_eq_iff_eq_mul_right (by omega) ⟨d', hd'⟩]
    exact hd'
  rw [q1, q2, q3, q4]
  exact ⟨e2, e1⟩
theorem tdiv_dvd {x g : Int} (h : g ∣ x) : x.tdiv g = x / g := Int.tdiv_eq_ediv_of_dvd h
theorem lp_int {a b : Int64} {q : Int32} (ha : -9223372036854775808 < a.toInt) (hb : 0 < b.toInt) : (lp64 a b q).toInt = (if q = 0 then a.toInt else b.toInt) / (Int.gcd a.toInt b.toInt : Int) := by
  have hg := cd_gcd ha (show -9223372036854775808 < b.toInt by omega)
  have g0 : Int.gcd a.toInt b.toInt ≠ 0 := fun z => by have := (Int.gcd_eq_zero_iff.mp z).2; omega
  have d1 : (Int.gcd a.toInt b.toInt : Int) ∣ a.toInt := Int.gcd_dvd_left ..
  have d2 : (Int.gcd a.toInt b.toInt : Int) ∣ b.toInt := Int.gcd_dvd_right ..
  unfold lp64
  by_cases h1 : 1 < cd64 a b
  · rw [if_pos h1]
    by_cases hq : q = 0
    · rw [if_pos hq, if_pos hq, t_div ha, hg, tdiv_dvd d1]
    · rw [if_neg hq, if_neg hq, t_div (by omega), hg, tdiv_dvd d2]
  · rw [if_neg h1]
    rw [i64l, o64, hg] at h1
    have g1 : Int.gcd a.toInt b.toInt = 1 := by omega
    rw [g1]
    by_cases hq : q = 0
    · rw [if_pos hq, if_pos hq]; simp
    · rw [if_neg hq, if_neg hq]; simp
theorem ul_int {a b : Int64} (ha : -9223372036854775808 < a.toInt) (hb : -9223372036854775808 < b.toInt) (h0 : b.toInt ≠ 0) : ∃ s : Int, (s = 1 ∨ s = -1) ∧ 0 < s * b.toInt ∧ (upL a b).toInt = s * a.toInt / (Int.gcd (s * a.toInt) (s * b.toInt) : Int) ∧ (dnL a b).toInt = s * b.toInt / (Int.gcd (s * a.toInt) (s * b.toInt) : Int) := by
  have hg := dv_gcd ha hb
  have d1 : (Int.gcd a.toInt b.toInt : Int) ∣ a.toInt := Int.gcd_dvd_left ..
  have d2 : (Int.gcd a.toInt b.toInt : Int) ∣ b.toInt := Int.gcd_dvd_right ..
  have ea : (a / dv64 a b).toInt = a.toInt / (Int.gcd a.toInt b.toInt : Int) := by rw [t_div ha, hg, tdiv_dvd d1]
  have eb : (b / dv64 a b).toInt = b.toInt / (Int.gcd a.toInt b.toInt : Int) := by rw [t_div hb, hg, tdiv_dvd d2]
  unfold upL dnL
  by_cases hn : b < 0
  · rw [if_pos hn, if_pos hn]
    rw [i64l, z64] at hn
    have na : (a.toInt / (Int.gcd a.toInt b.toInt : Int)).natAbs ≤ a.toInt.natAbs := by
      rw [← tdiv_dvd d1, Int.natAbs_tdiv]
      exact Nat.div_le_self _ _
    have nb : (b.toInt / (Int.gcd a.toInt b.toInt : Int)).natAbs ≤ b.toInt.natAbs := by
      rw [← tdiv_dvd d2, Int.natAbs_tdiv]
      exact Nat.div_le_self _ _
    refine ⟨-1, Or.inr rfl, by omega, ?_, ?_⟩
    · rw [t_neg (by rw [ea]; have := Int64.toInt_lt a; omega), ea, show (-1 : Int) * a.toInt = -a.toInt by omega, show (-1 : Int) * b.toInt = -b.toInt by omega, Int.neg_gcd, Int.gcd_neg, Int.neg_ediv_of_dvd d1]
    · rw [t_neg (by rw [eb]; have := Int64.toInt_lt b; omega), eb, show (-1 : Int) * a.toInt = -a.toInt by omega, show (-1 : Int) * b.toInt = -b.toInt by omega, Int.neg_gcd, Int.gcd_neg, Int.neg_ediv_of_dvd d2]
  · rw [if_neg hn, if_neg hn]
    rw [i64l, z64] at hn
    refine ⟨1, Or.inl rfl, by omega, ?_, ?_⟩
    · rw [ea, Int.one_mul, Int.one_mul]
    · rw [eb, Int.one_mul, Int.one_mul]
/-- class and model tell one fraction alike -/
theorem low_eq {a b c d : Int64} {q : Int32} (ha : -9223372036854775808 < a.toInt) (hb : 0 < b.toInt) (hc : -9223372036854775808 < c.toInt) (hd : -9223372036854775808 < d.toInt) (h0 : d.toInt ≠ 0) (h : a.toInt * d.toInt = c.toInt * b.toInt) : lp64 a b q = if q = 0 then upL c d else dnL c d := by
  obtain ⟨s, hs, hp, h1, h2⟩ := ul_int hc hd h0
  have hu := low_unique hb hp (a := a.toInt) (c := s * c.toInt) (by rw [show a.toInt * (s * d.toInt) = s * (a.toInt * d.toInt) by grind, h]; grind)
  rw [← Int64.toInt_inj, lp_int ha hb]
  by_cases hq : q = 0
  · rw [if_pos hq, if_pos hq, h1]; exact hu.1
  · rw [if_neg hq, if_neg hq, h2]; exact hu.2
