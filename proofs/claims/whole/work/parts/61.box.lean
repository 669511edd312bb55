/-! inBox: the class's intervals count what the model tries one by one. -/
/-- a sum of k terms from lo on -/
def sm (f : Int → Nat) : Nat → Int → Nat
  | 0, _ => 0
  | k + 1, lo => f lo + sm f k (lo + 1)
theorem sm_congr {f g : Int → Nat} : ∀ (k : Nat) (lo : Int), (∀ x, lo ≤ x → x < lo + k → f x = g x) → sm f k lo = sm g k lo
  | 0, _, _ => rfl
  | k + 1, lo, h => by
    unfold sm
    rw [h lo (Int.le_refl _) (by omega), sm_congr k (lo + 1) (fun x h1 h2 => h x (by omega) (by omega))]
theorem sm_zero : ∀ (k : Nat) (lo : Int), sm (fun _ => 0) k lo = 0
  | 0, _ => rfl
  | k + 1, lo => by unfold sm; rw [sm_zero k]
theorem sm_none {f : Int → Nat} (k : Nat) (lo : Int) (h : ∀ x, lo ≤ x → x < lo + k → f x = 0) : sm f k lo = 0 := by
  rw [sm_congr k lo h, sm_zero]
theorem sm_one : ∀ (k : Nat) (lo : Int), sm (fun _ => 1) k lo = k
  | 0, _ => rfl
  | k + 1, lo => by unfold sm; rw [sm_one k]; omega
theorem sm_add {f g : Int → Nat} : ∀ (k : Nat) (lo : Int), sm (fun x => f x + g x) k lo = sm f k lo + sm g k lo
  | 0, _ => rfl
  | k + 1, lo => by unfold sm; rw [sm_add k]; omega
theorem sm_swap {f : Int → Int → Nat} {k' : Nat} {lo' : Int} : ∀ (k : Nat) (lo : Int), sm (fun x => sm (fun y => f x y) k' lo') k lo = sm (fun y => sm (fun x => f x y) k lo) k' lo'
  | 0, _ => by
    show 0 = sm (fun y => 0) k' lo'
    rw [sm_zero]
  | k + 1, lo => by
    show sm (fun y => f lo y) k' lo' + sm _ k (lo + 1) = sm (fun y => f lo y + sm (fun x => f x y) k (lo + 1)) k' lo'
    rw [sm_swap k (lo + 1), ← sm_add]
/-- one place alone counts -/
theorem sm_at {f : Int → Nat} {q : Int} : ∀ (k : Nat) (lo : Int), lo ≤ q → q < lo + k → (∀ x, lo ≤ x → x < lo + k → x ≠ q → f x = 0) → sm f k lo = f q
  | 0, lo, h1, h2, _ => by omega
  | k + 1, lo, h1, h2, h => by
    unfold sm
    by_cases hq : q = lo
    · subst hq
      rw [sm_none k (q + 1) (fun x a b => h x (by omega) (by omega) (by omega))]
      omega
    · rw [h lo (Int.le_refl _) (by omega) (fun e => hq e.symm), sm_at k (lo + 1) (by omega) (by omega) (fun x a b c => h x (by omega) (by omega) c)]
      omega
/-- longs that are small whole numbers -/
theorem t_add {x y : Int64} (h1 : -9223372036854775808 ≤ x.toInt + y.toInt) (h2 : x.toInt + y.toInt < 9223372036854775808) : (x + y).toInt = x.toInt + y.toInt := by
  rw [Int64.toInt_add]
  show Int.bmod _ (2 ^ 64) = _
  unfold Int.bmod
  simp only
  split <;> omega
theorem t_sub {x y : Int64} (h1 : -9223372036854775808 ≤ x.toInt - y.toInt) (h2 : x.toInt - y.toInt < 9223372036854775808) : (x - y).toInt = x.toInt - y.toInt := by
  rw [Int64.toInt_sub]
  show Int.bmod _ (2 ^ 64) = _
  unfold Int.bmod
  simp only
  split <;> omega
theorem t_mul {x y : Int64} (h1 : -9223372036854775808 ≤ x.toInt * y.toInt) (h2 : x.toInt * y.toInt < 9223372036854775808) : (x * y).toInt = x.toInt * y.toInt := by
  rw [Int64.toInt_mul]
  show Int.bmod _ (2 ^ 64) = _
  unfold Int.bmod
  simp only
  generalize x.toInt * y.toInt = z at *
  split <;> omega
theorem t_neg {x : Int64} (h2 : -9223372036854775808 < x.toInt) : (-x).toInt = -x.toInt := by
  have h3 := Int64.toInt_lt x
  rw [Int64.toInt_neg]
  show Int.bmod _ (2 ^ 64) = _
  unfold Int.bmod
  simp only
  split <;> omega
/-- a product of bounded numbers -/
theorem ab_mul {a b A B : Int} (h1 : -A ≤ a) (h2 : a ≤ A) (h3 : -B ≤ b) (h4 : b ≤ B) : -(A * B) ≤ a * b ∧ a * b ≤ A * B := by
  have hA : 0 ≤ A := by omega
  have hB : 0 ≤ B := by omega
  have e1 : 0 ≤ (A - a) * (B - b) := Int.mul_nonneg (by omega) (by omega)
  have e2 : 0 ≤ (A + a) * (B + b) := Int.mul_nonneg (by omega) (by omega)
  have e3 : 0 ≤ (A - a) * (B + b) := Int.mul_nonneg (by omega) (by omega)
  have e4 : 0 ≤ (A + a) * (B - b) := Int.mul_nonneg (by omega) (by omega)
  constructor
  · have : (A - a) * (B + b) + (A + a) * (B - b) = 2 * (A * B) - 2 * (a * b) := by grind
    have : (A - a) * (B - b) + (A + a) * (B + b) = 2 * (A * B) + 2 * (a * b) := by grind
    omega
  · have : (A - a) * (B + b) + (A + a) * (B - b) = 2 * (A * B) - 2 * (a * b) := by grind
    omega
theorem s_mul {x y : Int64} {A B : Int} (h1 : -A ≤ x.toInt) (h2 : x.toInt ≤ A) (h3 : -B ≤ y.toInt) (h4 : y.toInt ≤ B) (h : A * B < 9223372036854775808) : (x * y).toInt = x.toInt * y.toInt := by
  have := ab_mul h1 h2 h3 h4
  exact t_mul (by omega) (by omega)
theorem t32_64 (x : Int32) : (Int32.toInt64 x).toInt = x.toInt := Int32.toInt_toInt64 x
theorem t64_32 {x : Int64} (h1 : -2147483648 ≤ x.toInt) (h2 : x.toInt < 2147483648) : (Int64.toInt32 x).toInt = x.toInt := by
  rw [Int64.toInt_toInt32]
  show Int.bmod _ (2 ^ 32) = _
  unfold Int.bmod
  simp only
  split <;> omega
theorem u_neg {x : Int32} (h2 : -2147483648 < x.toInt) : (-x).toInt = -x.toInt := by
  have h3 := Int32.toInt_lt x
  rw [Int32.toInt_neg]
  show Int.bmod _ (2 ^ 32) = _
  unfold Int.bmod
  simp only
  split <;> omega
theorem u_mul {x y : Int32} (h1 : -2147483648 ≤ x.toInt * y.toInt) (h2 : x.toInt * y.toInt < 2147483648) : (x * y).toInt = x.toInt * y.toInt := by
  rw [Int32.toInt_mul]
  show Int.bmod _ (2 ^ 32) = _
  unfold Int.bmod
  simp only
  generalize x.toInt * y.toInt = z at *
  split <;> omega
theorem u_sub {x y : Int32} (h1 : -2147483648 ≤ x.toInt - y.toInt) (h2 : x.toInt - y.toInt < 2147483648) : (x - y).toInt = x.toInt - y.toInt := by
  rw [Int32.toInt_sub]
  show Int.bmod _ (2 ^ 32) = _
  unfold Int.bmod
  simp only
  split <;> omega
theorem u_add {x y : Int32} (h1 : -2147483648 ≤ x.toInt + y.toInt) (h2 : x.toInt + y.toInt < 2147483648) : (x + y).toInt = x.toInt + y.toInt := by
  rw [Int32.toInt_add]
  show Int.bmod _ (2 ^ 32) = _
  unfold Int.bmod
  simp only
  split <;> omega
theorem u_div {x y : Int32} (h1 : -1000000 ≤ x.toInt) (h2 : x.toInt ≤ 1000000) : (x / y).toInt = x.toInt.tdiv y.toInt := by
  rw [Int32.toInt_div]
  show Int.bmod _ (2 ^ 32) = _
  have h3 : (x.toInt.tdiv y.toInt).natAbs ≤ x.toInt.natAbs := by
    rw [Int.natAbs_tdiv]
    exact Nat.div_le_self _ _
  unfold Int.bmod
  simp only
  split <;> omega
/-- what an equation wants of the first unknown -/
def mis (n : Nat) (AI : Nat → Nat → Int32) (k : Nat) (y z : Int) : Int := (AI (k + 8) n).toInt - (if 1 < n then (AI (k + 8) 1).toInt * y else 0) - (if 2 < n then (AI (k + 8) 2).toInt * z else 0)
theorem exc_int {n : Nat} {AI : Nat → Nat → Int32} {k : Nat} {x y z : Int} (hx1 : -12 ≤ x) (hx2 : x ≤ 12) (hy1 : -12 ≤ y) (hy2 : y ≤ 12) (hz1 : -12 ≤ z) (hz2 : z ≤ 12) (hb : ∀ j, j ≤ n → -9 ≤ (AI (k + 8) j).toInt ∧ (AI (k + 8) j).toInt ≤ 9) :
    (exc n AI k (Int32.toInt64 (iI x)) (Int32.toInt64 (iI y)) (Int32.toInt64 (iI z))).toInt = (AI (k + 8) 0).toInt * x - mis n AI k y z ∧ -1000 ≤ mis n AI k y z ∧ mis n AI k y z ≤ 1000 := by
  have b0 := hb 0 (Nat.zero_le _)
  have bn := hb n (Nat.le_refl _)
  have tx : (Int32.toInt64 (iI x)).toInt = x := by rw [t32_64, iI_toInt (by omega) (by omega)]
  have ty : (Int32.toInt64 (iI y)).toInt = y := by rw [t32_64, iI_toInt (by omega) (by omega)]
  have tz : (Int32.toInt64 (iI z)).toInt = z := by rw [t32_64, iI_toInt (by omega) (by omega)]
  have p0 := ab_mul b0.1 b0.2 hx1 hx2
  have m0 : (Int32.toInt64 (AI (k + 8) 0) * Int32.toInt64 (iI x)).toInt = (AI (k + 8) 0).toInt * x := by
    rw [t_mul, t32_64, tx] <;> rw [t32_64, tx] <;> omega
  have s0 : (Int32.toInt64 (AI (k + 8) 0) * Int32.toInt64 (iI x) - Int32.toInt64 (AI (k + 8) n)).toInt = (AI (k + 8) 0).toInt * x - (AI (k + 8) n).toInt := by
    rw [t_sub, m0, t32_64] <;> rw [m0, t32_64] <;> omega
  unfold exc mis
  generalize (AI (k + 8) 0).toInt * x = P at *
  by_cases n1 : 1 < n
  · have b1 := hb 1 (by omega)
    have p1 := ab_mul b1.1 b1.2 hy1 hy2
    have m1 : (Int32.toInt64 (AI (k + 8) 1) * Int32.toInt64 (iI y)).toInt = (AI (k + 8) 1).toInt * y := by
      rw [t_mul, t32_64, ty] <;> rw [t32_64, ty] <;> omega
    rw [if_pos n1, if_pos n1]
    generalize (AI (k + 8) 1).toInt * y = P1 at *
    have s1 : (Int32.toInt64 (AI (k + 8) 0) * Int32.toInt64 (iI x) - Int32.toInt64 (AI (k + 8) n) + Int32.toInt64 (AI (k + 8) 1) * Int32.toInt64 (iI y)).toInt = P - (AI (k + 8) n).toInt + P1 := by
      rw [t_add, s0, m1] <;> rw [s0, m1] <;> omega
    by_cases n2 : 2 < n
    · have b2 := hb 2 (by omega)
      have p2 := ab_mul b2.1 b2.2 hz1 hz2
      have m2 : (Int32.toInt64 (AI (k + 8) 2) * Int32.toInt64 (iI z)).toInt = (AI (k + 8) 2).toInt * z := by
        rw [t_mul, t32_64, tz] <;> rw [t32_64, tz] <;> omega
      rw [if_pos n2, if_pos n2]
      generalize (AI (k + 8) 2).toInt * z = P2 at *
      refine ⟨?_, by omega, by omega⟩
      rw [t_add, s1, m2] <;> (try rw [s1, m2]) <;> omega
    · rw [if_neg n2, if_neg n2]
      refine ⟨?_, by omega, by omega⟩
      rw [s1]; omega
  · rw [if_neg n1, if_neg n1, if_neg (by omega), if_neg (by omega)]
    refine ⟨?_, by omega, by omega⟩
    rw [s0]; omega
/-- x fits the c equations from g on -/
def fitB (n : Nat) (AI : Nat → Nat → Int32) (y z : Int) : Nat → Nat → Int → Bool
  | 0, _, _ => true
  | c + 1, g, x => decide ((AI (g + 8) 0).toInt * x = mis n AI g y z) && fitB n AI y z c (g + 1) x
theorem fitf_count {n m : Nat} {AI : Nat → Nat → Int32} {y z : Int} (hy1 : -12 ≤ y) (hy2 : y ≤ 12) (hz1 : -12 ≤ z) (hz2 : z ≤ 12) (hb : ∀ k, k < m → ∀ j, j ≤ n → -9 ≤ (AI (k + 8) j).toInt ∧ (AI (k + 8) j).toInt ≤ 9) :
    ∀ (c g : Nat) (fr tt : Int32), g + c ≤ m → -1000 ≤ fr.toInt → fr.toInt ≤ 1000 → -1000 ≤ tt.toInt → tt.toInt ≤ 1000 → fitf n AI (iI y) (iI z) c g fr tt = nI (sm (fun x => if fitB n AI y z c g x = true then 1 else 0) (tt.toInt + 1 - fr.toInt).toNat fr.toInt)
  | 0, g, fr, tt, _, h1, h2, h3, h4 => by
    have e1 : sm (fun x => if fitB n AI y z 0 g x = true then 1 else 0) (tt.toInt + 1 - fr.toInt).toNat fr.toInt = (tt.toInt + 1 - fr.toInt).toNat := by
      exact (sm_congr (g := fun _ => 1) _ _ (fun x _ _ => if_pos rfl)).trans (sm_one _ _)
    rw [e1]
    unfold fitf
    rw [← Int32.toInt_inj]
    by_cases hlt : tt < fr
    · rw [if_pos hlt]
      rw [i32l] at hlt
      rw [show (tt.toInt + 1 - fr.toInt).toNat = 0 by omega]
    · rw [if_neg hlt]
      rw [i32l] at hlt
      have e2 : (tt - fr).toInt = tt.toInt - fr.toInt := u_sub (by omega) (by omega)
      have e3 : (nI 1).toInt = 1 := by decide
      rw [u_add, e2, e3, nI_toInt (by omega)] <;> (try rw [e2, e3]) <;> omega
  | c + 1, g, fr, tt, hg, h1, h2, h3, h4 => by
    have hx := exc_int (n := n) (AI := AI) (k := g) (x := 0) (y := y) (z := z) (by omega) (by omega) hy1 hy2 hz1 hz2 (hb g (by omega))
    have b0 := hb g (by omega) 0 (Nat.zero_le _)
    have e0 : Int32.toInt64 (iI 0) = 0 := by decide
    rw [e0, Int.mul_zero] at hx
    generalize hE : exc n AI g 0 (Int32.toInt64 (iI y)) (Int32.toInt64 (iI z)) = E at hx
    have eM : (Int64.toInt32 (-E)).toInt = mis n AI g y z := by
      rw [t64_32, t_neg] <;> (try rw [t_neg]) <;> omega
    have hsplit : ∀ x, fitB n AI y z (c + 1) g x = true ↔ (AI (g + 8) 0).toInt * x = mis n AI g y z ∧ fitB n AI y z c (g + 1) x = true := fun x => by
      show (decide _ && _) = true ↔ _
      rw [Bool.and_eq_true, decide_eq_true_iff]
    unfold fitf
    rw [hE]
    generalize Int64.toInt32 (-E) = M at eM
    generalize mis n AI g y z = mi at *
    have hfa : (AI (g + 8) 0 = 0) ↔ (AI (g + 8) 0).toInt = 0 := by rw [← Int32.toInt_inj, z32]
    have hM0 : M = 0 ↔ mi = 0 := by rw [← Int32.toInt_inj, z32, eM]
    generalize AI (g + 8) 0 = fa at *
    by_cases hf : fa = 0
    · rw [if_pos hf]
      rw [hfa.mp hf] at hsplit
      by_cases hm : M = 0
      · rw [if_pos hm, fitf_count hy1 hy2 hz1 hz2 hb c (g + 1) fr tt (by omega) h1 h2 h3 h4]
        congr 1
        apply sm_congr
        intro x _ _
        have := hM0.mp hm
        by_cases hp : fitB n AI y z c (g + 1) x = true
        · rw [if_pos hp, if_pos ((hsplit x).mpr ⟨by omega, hp⟩)]
        · rw [if_neg hp, if_neg (fun h => hp ((hsplit x).mp h).2)]
      · rw [if_neg hm, sm_none _ _ (fun x _ _ => if_neg (fun h => hm (hM0.mpr (by have := ((hsplit x).mp h).1; omega))))]
    · rw [if_neg hf]
      have hf0 : fa.toInt ≠ 0 := fun h => hf (hfa.mpr h)
      have eq : (M / fa).toInt = mi.tdiv fa.toInt := by rw [u_div (by omega) (by omega), eM]
      have hq : (mi.tdiv fa.toInt).natAbs ≤ mi.natAbs := by
        rw [Int.natAbs_tdiv]
        exact Nat.div_le_self _ _
      have hqm : -1000 * 9 ≤ mi.tdiv fa.toInt * fa.toInt ∧ mi.tdiv fa.toInt * fa.toInt ≤ 1000 * 9 := by
        have := ab_mul (a := mi.tdiv fa.toInt) (A := 1000) (by omega) (by omega) b0.1 b0.2
        omega
      have er : (M - M / fa * fa).toInt = mi - mi.tdiv fa.toInt * fa.toInt := by
        have e5 : (M / fa * fa).toInt = mi.tdiv fa.toInt * fa.toInt := by
          rw [u_mul, eq] <;> rw [eq] <;> omega
        rw [u_sub, eM, e5] <;> rw [eM, e5] <;> omega
      have hR0 : M - M / fa * fa = 0 ↔ mi = mi.tdiv fa.toInt * fa.toInt := by
        rw [← Int32.toInt_inj, z32, er]
        omega
      by_cases hr : M - M / fa * fa = 0
      · rw [if_pos hr]
        have hme := hR0.mp hr
        generalize hQ : M / fa = Q at *
        generalize mi.tdiv fa.toInt = q at *
        have hx1 : ∀ x, fa.toInt * x = mi ↔ x = q := fun x => by
          rw [hme, Int.mul_comm q]
          exact ⟨fun h => Int.eq_of_mul_eq_mul_left hf0 h, fun h => by rw [h]⟩
        have ef : (if fr < Q then Q else fr).toInt = max fr.toInt q := by
          by_cases h : fr < Q
          · rw [if_pos h]; rw [i32l] at h; omega
          · rw [if_neg h]; rw [i32l] at h; omega
        have et : (if Q < tt then Q else tt).toInt = min tt.toInt q := by
          by_cases h : Q < tt
          · rw [if_pos h]; rw [i32l] at h; omega
          · rw [if_neg h]; rw [i32l] at h; omega
        rw [fitf_count hy1 hy2 hz1 hz2 hb c (g + 1) _ _ (by omega) (by rw [ef]; omega) (by rw [ef]; omega) (by rw [et]; omega) (by rw [et]; omega), ef, et]
        congr 1
        by_cases hin : fr.toInt ≤ q ∧ q ≤ tt.toInt
        · rw [show max fr.toInt q = q by omega, show min tt.toInt q = q by omega, show (q + 1 - q).toNat = 1 by omega]
          rw [sm_at (q := q) (tt.toInt + 1 - fr.toInt).toNat fr.toInt hin.1 (by omega) (fun x _ _ h => if_neg (fun hp => h ((hx1 x).mp ((hsplit x).mp hp).1)))]
          show (if fitB n AI y z c (g + 1) q = true then 1 else 0) + 0 = _
          by_cases hp : fitB n AI y z c (g + 1) q = true
          · rw [if_pos hp, if_pos ((hsplit q).mpr ⟨(hx1 q).mpr rfl, hp⟩)]
          · rw [if_neg hp, if_neg (fun h => hp ((hsplit q).mp h).2)]
        · rw [show (min tt.toInt q + 1 - max fr.toInt q).toNat = 0 by omega]
          exact (sm_none _ _ (fun x a b => if_neg (fun hp => hin (by have := (hx1 x).mp ((hsplit x).mp hp).1; omega)))).symm
      · rw [if_neg hr, sm_none _ _ (fun x _ _ => if_neg (fun hp => hr (hR0.mpr ?_)))]
        have h9 := ((hsplit x).mp hp).1
        have h8 : mi.tdiv fa.toInt = x := by
          rw [← h9]
          exact Int.mul_tdiv_cancel_left x hf0
        rw [h8, ← h9, Int.mul_comm]

theorem fitB_iff {n : Nat} {AI : Nat → Nat → Int32} {y z x : Int} : ∀ (c g : Nat), fitB n AI y z c g x = true ↔ ∀ k, g ≤ k → k < g + c → (AI (k + 8) 0).toInt * x = mis n AI k y z
  | 0, g => ⟨fun _ k a b => by omega, fun _ => rfl⟩
  | c + 1, g => by
    show (decide _ && _) = true ↔ _
    rw [Bool.and_eq_true, decide_eq_true_iff, fitB_iff c (g + 1)]
    constructor
    · intro h k a b
      by_cases hk : k = g
      · rw [hk]; exact h.1
      · exact h.2 k (by omega) (by omega)
    · exact fun h => ⟨h g (Nat.le_refl _) (by omega), fun k a b => h k (by omega) (by omega)⟩
theorem isNone_iff {f : Nat → Prop} [DecidablePred f] {n i : Nat} : (fnd f n i).isNone = true ↔ ∀ k, i ≤ k → k < i + n → ¬ f k := by
  cases h : fnd f n i with
  | none => exact ⟨fun _ => fnd_none h, fun _ => rfl⟩
  | some k =>
    obtain ⟨a, b, c, -⟩ := fnd_some h
    exact ⟨(fun z => by cases z), fun z => absurd c (z k a b)⟩
theorem bxz_sm {n m : Nat} {AI : Nat → Int32} {x y : Int} : ∀ (k : Nat) (z : Int) (c : Nat), bxz n m AI x y k z c = c + sm (fun z => one9 (isS n m AI (Int32.toInt64 (iI x)) (Int32.toInt64 (iI y)) (Int32.toInt64 (iI z)))) k z
  | 0, _, _ => rfl
  | k + 1, z, c => by
    rw [bxz, bxz_sm k]
    show _ = c + (_ + _)
    dsimp only
    omega
theorem bxy_sm {n m F : Nat} {AI : Nat → Int32} {x : Int} {k3 : Nat} {l3 : Int} (e3 : (hi9 2 n F + 1 - lo9 2 n F).toNat = k3) (e4 : lo9 2 n F = l3) : ∀ (k : Nat) (y : Int) (c : Nat), bxy n m F AI x k y c = c + sm (fun y => sm (fun z => one9 (isS n m AI (Int32.toInt64 (iI x)) (Int32.toInt64 (iI y)) (Int32.toInt64 (iI z)))) k3 l3) k y
  | 0, _, _ => rfl
  | k + 1, y, c => by
    rw [bxy, bxy_sm e3 e4 k, bxz_sm, e3, e4]
    show _ = c + (_ + _)
    dsimp only
    omega
theorem bxx_sm {n m F : Nat} {AI : Nat → Int32} {k3 k2 : Nat} {l3 l2 : Int} (e3 : (hi9 2 n F + 1 - lo9 2 n F).toNat = k3) (e4 : lo9 2 n F = l3) (e1 : (hi9 1 n F + 1 - lo9 1 n F).toNat = k2) (e2 : lo9 1 n F = l2) : ∀ (k : Nat) (x : Int) (c : Nat), bxx n m F AI k x c = c + sm (fun x => sm (fun y => sm (fun z => one9 (isS n m AI (Int32.toInt64 (iI x)) (Int32.toInt64 (iI y)) (Int32.toInt64 (iI z)))) k3 l3) k2 l2) k x
  | 0, _, _ => rfl
  | k + 1, x, c => by
    rw [bxx, bxx_sm e3 e4 e1 e2 k, bxy_sm e3 e4, e1, e2]
    show _ = c + (_ + _)
    dsimp only
    omega
theorem bz2_sm {n m F : Nat} {AI : Nat → Nat → Int32} {y : Int} {h : Int → Int → Nat} (hh : ∀ z, -12 ≤ z → z ≤ 12 → fitf n AI (iI y) (iI z) m 0 (-(nI F)) (nI F) = nI (h y z)) : ∀ (k : Nat) (z : Int) (c : Nat), -12 ≤ z → z + k ≤ 13 → bz2 n m F AI y k z (nI c) = nI (c + sm (h y) k z)
  | 0, _, _, _, _ => rfl
  | k + 1, z, c, h1, h2 => by
    rw [bz2, hh z h1 (by omega), nI_add, bz2_sm hh k (z + 1) _ (by omega) (by omega)]
    show _ = nI (c + (_ + _))
    congr 1
    omega
theorem by2_sm {n m F : Nat} {AI : Nat → Nat → Int32} {h : Int → Int → Nat} (hF : mo9 2 n F ≤ 12) (hh : ∀ y z, -12 ≤ y → y ≤ 12 → -12 ≤ z → z ≤ 12 → fitf n AI (iI y) (iI z) m 0 (-(nI F)) (nI F) = nI (h y z)) : ∀ (k : Nat) (y : Int) (c : Nat), -12 ≤ y → y + k ≤ 13 → by2 n m F AI k y (nI c) = nI (c + sm (fun y => sm (h y) (2 * mo9 2 n F + 1) (-(mo9 2 n F : Int))) k y)
  | 0, _, _, _, _ => rfl
  | k + 1, y, c, h1, h2 => by
    rw [by2, bz2_sm (hh y · h1 (by omega)) _ _ _ (by omega) (by omega), by2_sm hF hh k (y + 1) _ (by omega) (by omega)]
    show _ = nI (c + (_ + _))
    dsimp only
    congr 1
    omega
theorem m_box : M_box := by
  rintro ⟨I, AN, AI, AL⟩ ⟨J, G, BN, BI, BL⟩ q hI
  have hsol := fun x y z => (m_solves (I, AN, AI, AL) (J, G, BN, BI, BL) x y z hI).1
  obtain ⟨⟨h1, h2, h3⟩, ⟨e1, e2⟩, hc, hs, ho⟩ := hI
  dsimp only at h1 h2 h3 e1 e2 hc hs ho hsol
  unfold clBox
  dsimp only
  rw [in12_eq]
  by_cases hp : in12 q = true
  · rw [if_pos hp, if_pos hp, if_pos hp]
    refine ⟨rfl, (show (0 : Nat) < 4 by decide), fun _ => ?_, ⟨h1, h2, h3⟩, ⟨e1, e2⟩, hc, hs, ho⟩
    dsimp only
    congr 1
    obtain ⟨a, b⟩ := of_decide_eq_true hp
    rw [i32l, z32] at a
    rw [i32l, show (nI 12).toInt = 12 by decide] at b
    have hcl := clamp_toInt (u := q) (by omega)
    generalize q.toNatClampNeg = F at *
    have hF : F ≤ 12 := by omega
    have hbd : ∀ k, k < I 1 → ∀ j, j ≤ I 0 → -9 ≤ (AI (k + 8) j).toInt ∧ (AI (k + 8) j).toInt ≤ 9 := fun k hk j hj => (hc k j hk hj).2
    have m1 : mo9 1 (I 0) F ≤ F := mo9_le
    have m2 : mo9 2 (I 0) F ≤ F := mo9_le
    have tF : (nI F).toInt = F := nI_toInt (by omega)
    have tN : (-(nI F)).toInt = -(F : Int) := by rw [u_neg (by omega), tF]
    have hh : ∀ y z, -12 ≤ y → y ≤ 12 → -12 ≤ z → z ≤ 12 → fitf (I 0) AI (iI y) (iI z) (I 1) 0 (-(nI F)) (nI F) = nI (sm (fun x => one9 (isS (J 1) (J 2) BI (Int32.toInt64 (iI x)) (Int32.toInt64 (iI y)) (Int32.toInt64 (iI z)))) (2 * F + 1) (-(F : Int))) := by
      intro y z y1 y2 z1 z2
      rw [fitf_count y1 y2 z1 z2 hbd (I 1) 0 _ _ (by omega) (by omega) (by omega) (by omega) (by omega), tF, tN, show ((F : Int) + 1 - -(F : Int)).toNat = 2 * F + 1 by omega]
      congr 1
      apply sm_congr
      intro x x1 x2
      rw [← hsol]
      unfold one9
      have hiff : (fnd (fun k => exc (I 0) AI k (Int32.toInt64 (iI x)) (Int32.toInt64 (iI y)) (Int32.toInt64 (iI z)) ≠ 0) (I 1) 0).isNone = true ↔ fitB (I 0) AI y z (I 1) 0 x = true := by
        rw [isNone_iff, fitB_iff]
        constructor
        · intro h k k1 k2
          have h9 := Decidable.not_not.mp (h k k1 k2)
          have h8 := (exc_int (n := I 0) (AI := AI) (k := k) (x := x) (y := y) (z := z) (by omega) (by omega) y1 y2 z1 z2 (hbd k (by omega))).1
          rw [h9, z64] at h8
          omega
        · intro h k k1 k2 h9
          have h8 := (exc_int (n := I 0) (AI := AI) (k := k) (x := x) (y := y) (z := z) (by omega) (by omega) y1 y2 z1 z2 (hbd k (by omega))).1
          apply h9
          rw [← Int64.toInt_inj, h8, z64, h k k1 k2]
          omega
      by_cases hb : fitB (I 0) AI y z (I 1) 0 x = true
      · rw [if_pos hb, if_pos (hiff.mpr hb)]
      · rw [if_neg hb, if_neg (fun z => hb (hiff.mp z))]
    unfold boxX boxM
    rw [by2_sm (h := fun y z => sm (fun x => one9 (isS (J 1) (J 2) BI (Int32.toInt64 (iI x)) (Int32.toInt64 (iI y)) (Int32.toInt64 (iI z)))) (2 * F + 1) (-(F : Int))) (by omega) hh _ _ _ (by omega) (by omega)]
    have k2 : (hi9 1 (J 1) F + 1 - lo9 1 (J 1) F).toNat = 2 * mo9 1 (I 0) F + 1 := by
      unfold hi9 lo9 mo9; rw [e1]; split <;> omega
    have l2 : lo9 1 (J 1) F = -(mo9 1 (I 0) F : Int) := by
      unfold lo9 mo9; rw [e1]; split <;> omega
    have k3 : (hi9 2 (J 1) F + 1 - lo9 2 (J 1) F).toNat = 2 * mo9 2 (I 0) F + 1 := by
      unfold hi9 lo9 mo9; rw [e1]; split <;> omega
    have l3 : lo9 2 (J 1) F = -(mo9 2 (I 0) F : Int) := by
      unfold lo9 mo9; rw [e1]; split <;> omega
    rw [bxx_sm k3 l3 k2 l2]
    congr 2
    refine Eq.trans ?_ (sm_swap (f := fun x y => sm (fun z => one9 (isS (J 1) (J 2) BI (Int32.toInt64 (iI x)) (Int32.toInt64 (iI y)) (Int32.toInt64 (iI z)))) (2 * mo9 2 (I 0) F + 1) (-(mo9 2 (I 0) F : Int))) _ _).symm
    apply sm_congr
    intro y _ _
    exact sm_swap _ _
  · rw [if_neg hp, if_neg hp, if_neg hp]
    exact ⟨rfl, (show (1 : Nat) < 4 by decide), fun h => absurd h (Nat.succ_ne_zero _), ⟨h1, h2, h3⟩, ⟨e1, e2⟩, hc, hs, ho⟩
