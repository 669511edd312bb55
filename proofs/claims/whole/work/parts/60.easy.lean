/-! THE MATHEMATICS. First: ints and longs as whole numbers; the tests of arguments; the easy operations. -/
theorem i32l {x y : Int32} : x < y ↔ x.toInt < y.toInt := Int32.lt_iff_toInt_lt
theorem i32e {x y : Int32} : x ≤ y ↔ x.toInt ≤ y.toInt := Int32.le_iff_toInt_le
theorem i64l {x y : Int64} : x < y ↔ x.toInt < y.toInt := Int64.lt_iff_toInt_lt
theorem z32 : (0 : Int32).toInt = 0 := by decide
theorem z64 : (0 : Int64).toInt = 0 := by decide
theorem o64 : (1 : Int64).toInt = 1 := by decide
theorem inL_iff {v lo hi : Int64} : inL v lo hi = true ↔ lo.toInt ≤ v.toInt ∧ v.toInt ≤ hi.toInt := by
  unfold inL
  rw [decide_eq_true_iff, i64l, i64l]
  omega
theorem plM_iff {I : Nat → Nat} {g u : Int32} (h1 : I 1 ≤ 3) (h2 : I 2 ≤ 3) : plM I g u = true ↔ 0 ≤ g.toInt ∧ g.toInt < I 2 ∧ 0 ≤ u.toInt ∧ u.toInt ≤ I 1 := by
  unfold plM
  rw [Bool.and_eq_true, inL_iff, inL_iff, z64, Int32.toInt_toInt64, Int32.toInt_toInt64, Int32.toInt_toInt64, Int32.toInt_toInt64, i32_m1 (by omega), nI_toInt (by omega)]
  omega
theorem plX_iff {n m : Nat} {g u : Int32} (h1 : n ≤ 3) (h2 : m ≤ 3) : plX n m g u = true ↔ 0 ≤ g.toInt ∧ g.toInt < m ∧ 0 ≤ u.toInt ∧ u.toInt ≤ n := by
  unfold plX
  rw [decide_eq_true_iff, i32l, i32l, i32l, i32e, z32, nI_toInt (by omega), nI_toInt (by omega)]
  omega
theorem unM_iff {I : Nat → Nat} {u : Int32} (h1 : I 1 ≤ 3) : unM I u = true ↔ 0 ≤ u.toInt ∧ u.toInt < I 1 := by
  unfold unM
  rw [inL_iff, z64, Int32.toInt_toInt64, Int32.toInt_toInt64, i32_m1 (by omega)]
  omega
theorem isU_iff {n : Nat} {u : Int32} (h1 : n ≤ 3) : isU n u = true ↔ 0 ≤ u.toInt ∧ u.toInt < n := by
  unfold isU
  rw [decide_eq_true_iff, i32l, i32l, z32, nI_toInt (by omega)]
  omega
theorem un_eq {I : Nat → Nat} {n : Nat} {u : Int32} (e : I 1 = n) (h1 : n ≤ 3) : unM I u = isU n u := by
  rw [Bool.eq_iff_iff, unM_iff (by omega), isU_iff h1, e]
theorem pl_eq {I : Nat → Nat} {n m : Nat} {g u : Int32} (e1 : I 1 = n) (e2 : I 2 = m) (h1 : n ≤ 3) (h2 : m ≤ 3) : plM I g u = plX n m g u := by
  rw [Bool.eq_iff_iff, plM_iff (by omega) (by omega), plX_iff h1 h2, e1, e2]
theorem paM_iff {q : Int32} : paM q = true ↔ 0 ≤ q.toInt ∧ q.toInt ≤ 1 := by
  unfold paM
  rw [inL_iff, z64, o64, Int32.toInt_toInt64]
theorem isPt_iff {q : Int32} : isPt q = true ↔ 0 ≤ q.toInt ∧ q.toInt ≤ 1 := by
  unfold isPt
  rw [decide_eq_true_iff, ← Int32.toInt_inj, ← Int32.toInt_inj, z32, show (nI 1).toInt = 1 by decide]
  omega
theorem pt_eq {q : Int32} : paM q = isPt q := by rw [Bool.eq_iff_iff, paM_iff, isPt_iff]
theorem in9_eq {v : Int32} : inV v = in9 v := by
  rw [Bool.eq_iff_iff]
  unfold inV in9
  rw [inL_iff, decide_eq_true_iff, i32l, i32l, Int32.toInt_toInt64, show (-9 : Int64).toInt = -9 by decide, show (9 : Int64).toInt = 9 by decide, show (-9 : Int32).toInt = -9 by decide, show (nI 9).toInt = 9 by decide]
  omega
theorem in9_iff {v : Int32} : in9 v = true ↔ -9 ≤ v.toInt ∧ v.toInt ≤ 9 := by
  unfold in9
  rw [decide_eq_true_iff, i32l, i32l, show (-9 : Int32).toInt = -9 by decide, show (nI 9).toInt = 9 by decide]
  omega
theorem in12_eq {v : Int32} : faM v = in12 v := by
  rw [Bool.eq_iff_iff]
  unfold faM in12
  rw [inL_iff, decide_eq_true_iff, i32l, i32l, Int32.toInt_toInt64, z64, z32, show (12 : Int64).toInt = 12 by decide, show (nI 12).toInt = 12 by decide]
  omega
theorem szM_iff {sz : Nat} {k : Int32} (h : sz ≤ 3) : szM sz k = true ↔ 0 ≤ k.toInt ∧ k.toInt < sz := by
  unfold szM
  rw [inL_iff, z64, Int32.toInt_toInt64, Int32.toInt_toInt64, i32_m1 (by omega)]
  omega
theorem clamp_toInt {u : Int32} (h : 0 ≤ u.toInt) : ((u.toNatClampNeg : Nat) : Int) = u.toInt := by
  have h3 : u.toNatClampNeg = u.toInt.toNat := rfl
  omega
theorem plc_inj {n i j i' j' : Nat} (hn : n ≤ 3) (hj : j ≤ n) (hj' : j' ≤ n) (h : plc n i j = plc n i' j') : i = i' ∧ j = j' := by
  unfold plc at h
  split at h <;> split at h <;> omega
theorem plc_b {n i j : Nat} (hn : n ≤ 3) (hj : j ≤ n) : 4 * i ≤ plc n i j ∧ plc n i j < 4 * i + 4 := by
  unfold plc
  split <;> omega
/-- a row that is filled -/
theorem fo_fil {α : Type} {r : Nat} {g : Nat → α} : ∀ (n i : Nat) (A : Nat → Nat → α) (r' j' : Nat), fo (fun j X => up2 X r j (g j)) n i A r' j' = if r' = r ∧ i ≤ j' ∧ j' < i + n then g j' else A r' j'
  | 0, i, A, r', j' => by
    rw [fo_0, if_neg (by omega)]
  | n + 1, i, A, r', j' => by
    rw [fo_s, fo_fil n (i + 1)]
    by_cases h1 : r' = r ∧ i + 1 ≤ j' ∧ j' < i + 1 + n
    · rw [if_pos h1, if_pos (by omega)]
    · rw [if_neg h1]
      by_cases h2 : r' = r ∧ j' = i
      · obtain ⟨rfl, rfl⟩ := h2
        rw [up2_s, if_pos (by omega)]
      · rw [up2_n h2, if_neg (by omega)]
theorem fo_fil1 {α : Type} {b : Nat} {g : α} : ∀ (n i : Nat) (A : Nat → α) (j' : Nat), fo (fun k X => up1 X (b + k) g) n i A j' = if b + i ≤ j' ∧ j' < b + i + n then g else A j'
  | 0, i, A, j' => by rw [fo_0, if_neg (by omega)]
  | n + 1, i, A, j' => by
    rw [fo_s, fo_fil1 n (i + 1)]
    by_cases h1 : b + (i + 1) ≤ j' ∧ j' < b + (i + 1) + n
    · rw [if_pos h1, if_pos (by omega)]
    · rw [if_neg h1]
      by_cases h2 : j' = b + i
      · rw [h2, up1_s, if_pos (by omega)]
      · rw [up1_n h2, if_neg (by omega)]
theorem m_eq : M_eq := by
  rintro ⟨I, AN, AI, AL⟩ ⟨J, G, BN, BI, BL⟩ hI
  obtain ⟨⟨h1, h2, h3⟩, ⟨e1, e2⟩, hc, hs, ho⟩ := hI
  dsimp only at h1 h2 h3 e1 e2 hc hs ho
  unfold clEq eqM
  dsimp only
  by_cases hm : I 1 < 3
  · rw [if_pos hm, if_neg (by omega), if_neg (by omega)]
    refine ⟨rfl, (show (0 : Nat) < 4 by decide), fun _ => by rw [e2], ⟨h1, h2, by show I 1 + 1 ≤ 3; omega⟩, ⟨e1, by show J 2 + 1 = I 1 + 1; rw [e2]⟩, ?_, hs, ho⟩
    intro i j hi hj
    have hi : i < I 1 + 1 := hi
    have hj : j ≤ I 0 := hj
    dsimp only
    rw [show up1 I 1 (I 1 + 1) 0 = I 0 from rfl, fo_fil, fo_fil1]
    have hb := plc_b (n := I 0) (i := i) (j := j) h2 hj
    by_cases hii : i = I 1
    · rw [if_pos (by omega), if_pos (by omega)]
      exact ⟨rfl, by decide, by decide⟩
    · rw [if_neg (by omega), if_neg (by omega)]
      exact hc i j (by omega) hj
  · rw [if_neg hm, if_pos (by omega), if_pos (by omega)]
    exact ⟨rfl, by show (1 : Nat) < 4; decide, fun h => absurd h (Nat.succ_ne_zero _), ⟨h1, h2, h3⟩, ⟨e1, e2⟩, hc, hs, ho⟩
theorem m_put : M_put := by
  rintro ⟨I, AN, AI, AL⟩ ⟨J, G, BN, BI, BL⟩ g x w hI
  obtain ⟨⟨h1, h2, h3⟩, ⟨e1, e2⟩, hc, hs, ho⟩ := hI
  dsimp only at h1 h2 h3 e1 e2 hc hs ho
  unfold clPut puM puR
  dsimp only
  rw [pl_eq e1 e2 h2 h3, in9_eq]
  by_cases hp : plX (I 0) (I 1) g x = true
  · rw [if_pos hp, if_pos hp, if_pos hp]
    have hb := (plX_iff h2 h3).mp hp
    have cg := clamp_toInt hb.1
    have cx := clamp_toInt hb.2.2.1
    by_cases h9 : in9 w = true
    · rw [if_pos h9, if_pos h9, if_pos h9]
      have hat : atM J BI g x = AI (g.toNatClampNeg + 8) x.toNatClampNeg := by
        unfold atM
        rw [e1]
        exact (hc _ _ (by omega) (by omega)).1
      rw [hat, e1]
      generalize hg' : g.toNatClampNeg = g' at *
      generalize hx' : x.toNatClampNeg = x' at *
      refine ⟨rfl, (show (0 : Nat) < 4 by decide), fun _ => ?_, ⟨h1, h2, h3⟩, ⟨e1, e2⟩, ?_, hs, ho⟩
      · dsimp only
        by_cases hz : AI (g' + 8) x' = w
        · rw [if_pos hz, decide_eq_false (fun h => h hz)]
          rfl
        · rw [if_neg hz, decide_eq_true hz]
          rfl
      · intro i j hi hj
        have hi : i < I 1 := hi
        have hj : j ≤ I 0 := hj
        dsimp only
        by_cases hij : i = g' ∧ j = x'
        · obtain ⟨rfl, rfl⟩ := hij
          rw [up1_s, up2_s]
          exact ⟨rfl, in9_iff.mp h9⟩
        · rw [up2_n (by omega), up1_n (fun h => hij (plc_inj h2 hj (by omega) h))]
          exact hc i j hi hj
    · rw [if_neg h9, if_neg h9, if_neg h9]
      exact ⟨rfl, (show (2 : Nat) < 4 by decide), fun h => absurd h (Nat.succ_ne_zero _), ⟨h1, h2, h3⟩, ⟨e1, e2⟩, hc, hs, ho⟩
  · rw [if_neg hp, if_neg hp, if_neg hp]
    exact ⟨rfl, (show (1 : Nat) < 4 by decide), fun h => absurd h (Nat.succ_ne_zero _), ⟨h1, h2, h3⟩, ⟨e1, e2⟩, hc, hs, ho⟩
theorem m_at : M_at := by
  rintro ⟨I, AN, AI, AL⟩ ⟨J, G, BN, BI, BL⟩ g x hI
  obtain ⟨⟨h1, h2, h3⟩, ⟨e1, e2⟩, hc, hs, ho⟩ := hI
  dsimp only at h1 h2 h3 e1 e2 hc hs ho
  unfold clAt
  dsimp only
  rw [pl_eq e1 e2 h2 h3]
  by_cases hp : plX (I 0) (I 1) g x = true
  · rw [if_pos hp, if_pos hp, if_pos hp]
    have hb := (plX_iff h2 h3).mp hp
    have cg := clamp_toInt hb.1
    have cx := clamp_toInt hb.2.2.1
    refine ⟨rfl, (show (0 : Nat) < 4 by decide), fun _ => ?_, ⟨h1, h2, h3⟩, ⟨e1, e2⟩, hc, hs, ho⟩
    dsimp only
    unfold atM
    rw [e1, (hc _ _ (by omega) (by omega)).1]
  · rw [if_neg hp, if_neg hp, if_neg hp]
    exact ⟨rfl, (show (1 : Nat) < 4 by decide), fun h => absurd h (Nat.succ_ne_zero _), ⟨h1, h2, h3⟩, ⟨e1, e2⟩, hc, hs, ho⟩
/-- searches that look for the same -/
theorem fnd_congr {f g : Nat → Prop} [DecidablePred f] [DecidablePred g] : ∀ (n i : Nat), (∀ k, i ≤ k → k < i + n → (f k ↔ g k)) → fnd f n i = fnd g n i
  | 0, _, _ => rfl
  | n + 1, i, h => by
    have h0 := h i (Nat.le_refl _) (by omega)
    by_cases hf : f i
    · rw [fnd_t hf, fnd_t (h0.mp hf)]
    · rw [fnd_f hf, fnd_f (fun z => hf (h0.mpr z))]
      exact fnd_congr n (i + 1) (fun k h1 h2 => h k (by omega) (by omega))
theorem i64_sub0 {x y : Int64} : x - y = 0 ↔ x = y := by
  rw [← Int64.toInt_inj, ← Int64.toInt_inj, Int64.toInt_sub, z64]
  have hx := Int64.toInt_lt x
  have hx' := Int64.le_toInt x
  have hy := Int64.toInt_lt y
  have hy' := Int64.le_toInt y
  unfold Int.bmod
  constructor
  · intro h
    simp only at h
    split at h <;> omega
  · intro h
    rw [h]
    simp
theorem m_solves : M_solves := by
  rintro ⟨I, AN, AI, AL⟩ ⟨J, G, BN, BI, BL⟩ x y z hI
  refine ⟨?_, hI⟩
  obtain ⟨⟨h1, h2, h3⟩, ⟨e1, e2⟩, hc, hs, ho⟩ := hI
  dsimp only at h1 h2 h3 e1 e2 hc hs ho ⊢
  unfold isS
  rw [e1, e2]
  congr 1
  refine fnd_congr _ _ (fun k _ hk => not_congr ?_)
  have c0 := (hc k 0 (by omega) (by omega)).1
  have cn := (hc k (I 0) (by omega) (Nat.le_refl _)).1
  unfold plc at c0 cn
  rw [if_pos rfl] at cn
  rw [if_neg (by omega)] at c0
  unfold exc smS
  rw [cn]
  have c0 : BI (4 * k) = AI (k + 8) 0 := c0
  by_cases n2 : 2 < I 0
  · have c1 := (hc k 1 (by omega) (by omega)).1
    have c2 := (hc k 2 (by omega) (by omega)).1
    unfold plc at c1 c2
    rw [if_neg (by omega)] at c1 c2
    simp only [if_pos n2, c0, c1, c2]
    grind
  · by_cases n1 : 1 < I 0
    · have c1 := (hc k 1 (by omega) (by omega)).1
      unfold plc at c1
      rw [if_neg (by omega)] at c1
      simp only [if_neg n2, if_pos n1, c0, c1]
      grind
    · simp only [if_neg n2, if_neg n1, c0]
      grind
