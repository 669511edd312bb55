/-! The class's lattice, over the whole numbers. -/
theorem fdiv_int {x y : Int64} (hx : -9223372036854775808 < x.toInt) (hy : 0 < y.toInt) : (fdiv64 x y).toInt = x.toInt / y.toInt := by
  have hs : (x ^^^ y) < 0 ↔ x.toInt < 0 := by
    rw [i64l, z64]
    have e1 : (x ^^^ y).toInt < 0 ↔ (x ^^^ y).toBitVec.msb = true := by
      rw [BitVec.msb_eq_toInt]; exact (decide_eq_true_iff (p := (x ^^^ y).toBitVec.toInt < 0)).symm
    have e2 : x.toInt < 0 ↔ x.toBitVec.msb = true := by
      rw [BitVec.msb_eq_toInt]; exact (decide_eq_true_iff (p := x.toBitVec.toInt < 0)).symm
    have e3 : y.toBitVec.msb = false := by
      rw [BitVec.msb_eq_toInt]
      have : ¬ y.toBitVec.toInt < 0 := by show ¬ y.toInt < 0; omega
      exact decide_eq_false this
    rw [e1, e2, Int64.toBitVec_xor, BitVec.msb_xor, e3]
    simp
  have ed : (x / y).toInt = x.toInt.tdiv y.toInt := t_div hx
  have hle : (x.toInt.tdiv y.toInt).natAbs ≤ x.toInt.natAbs := by
    rw [Int.natAbs_tdiv]; exact Nat.div_le_self _ _
  have hmod := Int.mul_tdiv_add_tmod x.toInt y.toInt
  have hml : x.toInt.tmod y.toInt < y.toInt := Int.tmod_lt_of_pos _ hy
  have hx2 : x.toInt < 9223372036854775808 := x.toInt_lt
  have hab : (x.toInt.tdiv y.toInt * y.toInt).natAbs ≤ x.toInt.natAbs := by
    rw [Int.natAbs_mul, Int.natAbs_tdiv]; exact Nat.div_mul_le_self _ _
  have em : (x / y * y).toInt = x.toInt.tdiv y.toInt * y.toInt := by
    rw [t_mul (by rw [ed]; omega) (by rw [ed]; omega), ed]
  unfold fdiv64
  by_cases h : (x ^^^ y) < 0 ∧ ¬ x / y * y = x
  · rw [if_pos h]
    have h1 := hs.mp h.1
    have h2 : x.toInt.tdiv y.toInt * y.toInt ≠ x.toInt := fun e => h.2 (Int64.toInt_inj.mp (by rw [em, e]))
    have hg : -y.toInt < x.toInt.tmod y.toInt := Int.lt_tmod_of_pos _ hy
    have hn : x.toInt.tmod y.toInt ≤ 0 := by rw [Int.mul_comm] at hmod; omega
    have hnz : x.toInt.tmod y.toInt ≠ 0 := fun e => h2 (by rw [e, Int.mul_comm] at hmod; omega)
    rw [t_sub (by rw [ed, o64]; omega) (by rw [ed, o64]; omega), ed, o64]
    symm
    have e2 : x.toInt = (x.toInt.tmod y.toInt + y.toInt) + y.toInt * (x.toInt.tdiv y.toInt - 1) := by
      have : y.toInt * (x.toInt.tdiv y.toInt - 1) = y.toInt * x.toInt.tdiv y.toInt - y.toInt := by grind
      omega
    have e3 := Int.add_mul_ediv_left (x.toInt.tmod y.toInt + y.toInt) (x.toInt.tdiv y.toInt - 1) (show y.toInt ≠ 0 by omega)
    have e4 : (x.toInt.tmod y.toInt + y.toInt) / y.toInt = 0 := Int.ediv_eq_zero_of_lt (by omega) (by omega)
    rw [← e2, e4] at e3
    omega
  · rw [if_neg h, ed]
    by_cases h0 : x.toInt < 0
    · have h2 : x / y * y = x := Decidable.byContradiction (fun h' => h ⟨hs.mpr h0, h'⟩)
      have h3 : x.toInt.tdiv y.toInt * y.toInt = x.toInt := by rw [← em, h2]
      rw [tdiv_dvd ⟨x.toInt.tdiv y.toInt, by rw [Int.mul_comm]; exact h3.symm⟩]
    · exact Int.tdiv_eq_ediv_of_nonneg (by omega)
abbrev vL (X : Nat → Nat → Int64) (r p : Nat) : Int := (X (r + 18) p).toInt
def oSub (a b : Nat) (z : Int) (L : Nat → Nat → Int) : Nat → Nat → Int := fun r p => if r = a then L a p - z * L b p else L r p
def oExc (a b : Nat) (L : Nat → Nat → Int) : Nat → Nat → Int := fun r p => if r = a then L b p else if r = b then L a p else L r p
def oNeg (a : Nat) (L : Nat → Nat → Int) : Nat → Nat → Int := fun r p => if r = a then -L a p else L r p
theorem lsbt_int {a b : Nat} {z : Int64} {X : Nat → Nat → Int64} (hab : b ≠ a) (h : ∀ p, p < 6 → (-9223372036854775808 ≤ z.toInt * vL X b p ∧ z.toInt * vL X b p < 9223372036854775808) ∧ -9223372036854775808 ≤ vL X a p - z.toInt * vL X b p ∧ vL X a p - z.toInt * vL X b p < 9223372036854775808) : ∀ r p, p < 6 → vL (lsbt a b z X) r p = oSub a b z.toInt (vL X) r p := by
  intro r p hp
  show (lsbt a b z X (r + 18) p).toInt = _
  unfold lsbt oSub
  rw [fo_two (s := b + 18) (by omega) (F := fun _ x y => x - z * y)]
  by_cases hr : r = a
  · rw [if_pos (by omega), if_pos hr]
    obtain ⟨⟨h1, h2⟩, h3, h4⟩ := h p hp
    have m : (z * X (b + 18) p).toInt = z.toInt * vL X b p := t_mul h1 h2
    rw [t_sub (by rw [m]; exact h3) (by rw [m]; exact h4), m]
  · rw [if_neg (by omega), if_neg hr]
theorem lexc_int {a b : Nat} {X : Nat → Nat → Int64} : ∀ r p, p < 6 → vL (lexc a b X) r p = oExc a b (vL X) r p := by
  intro r p hp
  show (lexc a b X (r + 18) p).toInt = _
  unfold lexc oExc
  rw [fo_exc, if_pos (show 0 ≤ p ∧ p < 0 + 6 by omega)]
  by_cases h1 : r = a
  · rw [if_pos (show r + 18 = a + 18 by omega), if_pos h1]
  · rw [if_neg (show ¬ r + 18 = a + 18 by omega), if_neg h1]
    by_cases h2 : r = b
    · rw [if_pos (show r + 18 = b + 18 by omega), if_pos h2]
    · rw [if_neg (show ¬ r + 18 = b + 18 by omega), if_neg h2]
theorem lneg_int {a : Nat} {X : Nat → Nat → Int64} (h : ∀ p, p < 6 → -9223372036854775808 < vL X a p) : ∀ r p, p < 6 → vL (lneg a X) r p = oNeg a (vL X) r p := by
  intro r p hp
  show (lneg a X (r + 18) p).toInt = _
  unfold lneg oNeg
  rw [fo_one (F := fun _ x => -x)]
  by_cases hr : r = a
  · rw [if_pos (by omega), if_pos hr, t_neg (h p hp)]
  · rw [if_neg (by omega), if_neg hr]
/-- steps of the lines of a group S of rows among themselves -/
def RG (n : Nat) (S : Nat → Prop) (L L' : Nat → Nat → Int) : Prop :=
  (∀ w : Nat → Int, (∀ r, S r → dt (L r) w 6 0 = 0) → ∀ r, S r → dt (L' r) w 6 0 = 0) ∧ (∀ r p, p < 6 → ¬ S r → L' r p = L r p) ∧ (dz n (fun r j => L' r (3 + j)) = dz n (fun r j => L r (3 + j)) ∨ dz n (fun r j => L' r (3 + j)) = -dz n (fun r j => L r (3 + j)))
theorem RG.rfl {n : Nat} {S : Nat → Prop} {L : Nat → Nat → Int} : RG n S L L := ⟨fun _ h => h, fun _ _ _ _ => Eq.refl _, .inl (Eq.refl _)⟩
theorem RG.trans {n : Nat} {S : Nat → Prop} {L L' L'' : Nat → Nat → Int} (h : RG n S L L') (h' : RG n S L' L'') : RG n S L L'' :=
  ⟨fun w hw => h'.1 w (h.1 w hw), fun r p hp hr => (h'.2.1 r p hp hr).trans (h.2.1 r p hp hr), by
    rcases h.2.2 with a | a <;> rcases h'.2.2 with b | b <;> omega⟩
theorem dz_osub {n a b : Nat} {z : Int} {M N : Nat → Nat → Int} (hn : n ≤ 3) (ha : a < n) (hb : b < n) (hab : b ≠ a) (h : ∀ r c, r < n → c < n → N r c = if r = a then M a c - z * M b c else M r c) : dz n N = dz n M := by
  rw [dz_congr hn h]
  obtain rfl | rfl : n = 2 ∨ n = 3 := by omega
  · obtain ⟨rfl, rfl⟩ | ⟨rfl, rfl⟩ : (a = 0 ∧ b = 1) ∨ (a = 1 ∧ b = 0) := by omega
    all_goals simp only [dz_2]; simp; grind
  · obtain ⟨rfl, rfl⟩ | ⟨rfl, rfl⟩ | ⟨rfl, rfl⟩ | ⟨rfl, rfl⟩ | ⟨rfl, rfl⟩ | ⟨rfl, rfl⟩ : (a = 0 ∧ b = 1) ∨ (a = 1 ∧ b = 0) ∨ (a = 0 ∧ b = 2) ∨ (a = 2 ∧ b = 0) ∨ (a = 1 ∧ b = 2) ∨ (a = 2 ∧ b = 1) := by omega
    all_goals simp only [dz_3]; simp; grind
theorem dz_oexc {n a b : Nat} {M N : Nat → Nat → Int} (hn : n ≤ 3) (ha : a < n) (hb : b < n) (hab : b ≠ a) (h : ∀ r c, r < n → c < n → N r c = if r = a then M b c else if r = b then M a c else M r c) : dz n N = -dz n M := by
  rw [dz_congr hn h]
  obtain rfl | rfl : n = 2 ∨ n = 3 := by omega
  · obtain ⟨rfl, rfl⟩ | ⟨rfl, rfl⟩ : (a = 0 ∧ b = 1) ∨ (a = 1 ∧ b = 0) := by omega
    all_goals simp only [dz_2]; simp; grind
  · obtain ⟨rfl, rfl⟩ | ⟨rfl, rfl⟩ | ⟨rfl, rfl⟩ | ⟨rfl, rfl⟩ | ⟨rfl, rfl⟩ | ⟨rfl, rfl⟩ : (a = 0 ∧ b = 1) ∨ (a = 1 ∧ b = 0) ∨ (a = 0 ∧ b = 2) ∨ (a = 2 ∧ b = 0) ∨ (a = 1 ∧ b = 2) ∨ (a = 2 ∧ b = 1) := by omega
    all_goals simp only [dz_3]; simp; grind
theorem dz_oneg {n a : Nat} {M N : Nat → Nat → Int} (hn : n ≤ 3) (ha : a < n) (h : ∀ r c, r < n → c < n → N r c = if r = a then -M a c else M r c) : dz n N = -dz n M := by
  rw [dz_congr hn h]
  obtain rfl | rfl | rfl : n = 1 ∨ n = 2 ∨ n = 3 := by omega
  · obtain rfl : a = 0 := by omega
    simp only [dz_1]; simp
  · obtain rfl | rfl : a = 0 ∨ a = 1 := by omega
    all_goals simp only [dz_2]; simp; grind
  · obtain rfl | rfl | rfl : a = 0 ∨ a = 1 ∨ a = 2 := by omega
    all_goals simp only [dz_3]; simp; grind
theorem rg_sub {n a b : Nat} {S : Nat → Prop} {z : Int} {L L' : Nat → Nat → Int} (hn : n ≤ 3) (ha : a < n) (hb : b < n) (hab : b ≠ a) (Sa : S a) (Sb : S b) (h : ∀ r p, p < 6 → L' r p = oSub a b z L r p) : RG n S L L' := by
  refine ⟨fun w hw r hr => ?_, fun r p hp hr => ?_, .inl (dz_osub hn ha hb hab (z := z) (fun r c hr hc => h r (3 + c) (by omega)))⟩
  · by_cases e : r = a
    · have h1 := dt_lin (f := L a) (g := L' r) (p := L b) (x := w) (s := 1) (a := 1) (b := z) 6 0 (fun j _ hj => by
        rw [h r j (by omega)]; unfold oSub; rw [if_pos e]; grind)
      rw [hw a Sa, hw b Sb] at h1
      omega
    · rw [dt_congr (f := L r) 6 0 (fun j _ hj => by rw [h r j (by omega)]; unfold oSub; rw [if_neg e])]
      exact hw r hr
  · rw [h r p hp]; unfold oSub; rw [if_neg (fun e => hr (by rw [e]; exact Sa))]
theorem rg_exc {n a b : Nat} {S : Nat → Prop} {L L' : Nat → Nat → Int} (hn : n ≤ 3) (ha : a < n) (hb : b < n) (hab : b ≠ a) (Sa : S a) (Sb : S b) (h : ∀ r p, p < 6 → L' r p = oExc a b L r p) : RG n S L L' := by
  refine ⟨fun w hw r hr => ?_, fun r p hp hr => ?_, .inr (dz_oexc hn ha hb hab (fun r c hr hc => h r (3 + c) (by omega)))⟩
  · by_cases e : r = a
    · rw [dt_congr (f := L b) 6 0 (fun j _ hj => by rw [h r j (by omega)]; unfold oExc; rw [if_pos e])]
      exact hw b Sb
    · by_cases e2 : r = b
      · rw [dt_congr (f := L a) 6 0 (fun j _ hj => by rw [h r j (by omega)]; unfold oExc; rw [if_neg e, if_pos e2])]
        exact hw a Sa
      · rw [dt_congr (f := L r) 6 0 (fun j _ hj => by rw [h r j (by omega)]; unfold oExc; rw [if_neg e, if_neg e2])]
        exact hw r hr
  · rw [h r p hp]; unfold oExc
    rw [if_neg (fun e => hr (by rw [e]; exact Sa)), if_neg (fun e => hr (by rw [e]; exact Sb))]
theorem rg_neg {n a : Nat} {S : Nat → Prop} {L L' : Nat → Nat → Int} (hn : n ≤ 3) (ha : a < n) (Sa : S a) (h : ∀ r p, p < 6 → L' r p = oNeg a L r p) : RG n S L L' := by
  refine ⟨fun w hw r hr => ?_, fun r p hp hr => ?_, .inr (dz_oneg hn ha (fun r c hr hc => h r (3 + c) (by omega)))⟩
  · by_cases e : r = a
    · have h1 := dt_lin (f := L a) (g := L' r) (p := L a) (x := w) (s := 1) (a := -1) (b := 0) 6 0 (fun j _ hj => by
        rw [h r j (by omega)]; unfold oNeg; rw [if_pos e]; omega)
      rw [hw a Sa] at h1
      omega
    · rw [dt_congr (f := L r) 6 0 (fun j _ hj => by rw [h r j (by omega)]; unfold oNeg; rw [if_neg e])]
      exact hw r hr
  · rw [h r p hp]; unfold oNeg; rw [if_neg (fun e => hr (by rw [e]; exact Sa))]
def euN : Nat → Nat → Nat → Prop
  | 0, _, b => b = 0
  | n + 1, a, b => b = 0 ∨ euN n b (a % b)
theorem mod_half {b r : Nat} (hr : 0 < r) (hrb : r < b) : 2 * (b % r) < b := by
  have h1 := Nat.mod_lt b hr
  by_cases h : 2 * r ≤ b
  · omega
  · rw [Nat.mod_eq_sub_mod (by omega), Nat.mod_eq_of_lt (by omega)]
    omega
theorem euN_enough : ∀ (k a b : Nat), b < 2 ^ k → euN (2 * k + 1) a b
  | 0, a, b, h => .inl (by omega)
  | k + 1, a, b, h => by
    rw [show 2 * (k + 1) + 1 = (2 * k + 1) + 1 + 1 by omega]
    by_cases hb : b = 0
    · exact .inl hb
    · refine .inr ?_
      by_cases hr : a % b = 0
      · exact .inl hr
      · refine .inr (euN_enough k _ _ ?_)
        have h1 := mod_half (b := b) (r := a % b) (by omega) (Nat.mod_lt a (by omega))
        have h2 : 2 ^ (k + 1) = 2 * 2 ^ k := by rw [Nat.pow_succ, Nat.mul_comm]
        omega
theorem euN_100 {a b : Nat} (h : b < 2 ^ 49) : euN 100 a b := by
  by_cases hb : b = 0
  · exact .inl hb
  · exact .inr (euN_enough 49 _ _ (by have := Nat.mod_lt a (show 0 < b by omega); omega))
theorem RG.mono {n : Nat} {S S' : Nat → Prop} {L L' : Nat → Nat → Int} (h : RG n S L L') (hs : ∀ r, S r → S' r) : RG n S' L L' := by
  refine ⟨fun w hw r hr => ?_, fun r p hp hr => h.2.1 r p hp (fun h' => hr (hs r h')), h.2.2⟩
  by_cases e : S r
  · exact h.1 w (fun r hr => hw r (hs r hr)) r e
  · rw [dt_congr (f := L r) 6 0 (fun j _ hj => h.2.1 r j (by omega) e)]
    exact hw r hr
theorem ldit_int {N a b q : Nat} (hN : N ≤ 3) (ha : a < N) (hb : b < N) (hab : b ≠ a) (hq : q < 6) {F C : Nat} (hF : F < 9223372036854775808) : ∀ (n : Nat) (X : Nat → Nat → Int64), euN n (vL X a q).natAbs (vL X b q).natAbs → (∀ p, p < 6 → (vL X a p).natAbs ≤ F ∧ (vL X b p).natAbs ≤ F ∧ (vL X b q).natAbs * (vL X a p).natAbs + (vL X a q).natAbs * (vL X b p).natAbs ≤ F) → (vL X a q).natAbs ≤ C → (vL X b q).natAbs ≤ C →
    RG N (fun r => r = a ∨ r = b) (vL X) (vL (ldit a b q n X)) ∧ vL (ldit a b q n X) b q = 0 ∧ (∀ p, p < 6 → (vL (ldit a b q n X) a p).natAbs ≤ F ∧ (vL (ldit a b q n X) b p).natAbs ≤ F) ∧ (vL (ldit a b q n X) a q).natAbs ≤ C ∧ (vL (ldit a b q n X) a q = 0 → vL X a q = 0 ∧ vL X b q = 0 ∧ ldit a b q n X = X)
  | 0, X, h0, h1, h2, h3 => ⟨RG.rfl, Int.natAbs_eq_zero.mp h0, fun p hp => ⟨(h1 p hp).1, (h1 p hp).2.1⟩, h2, fun h => ⟨h, Int.natAbs_eq_zero.mp h0, rfl⟩⟩
  | n + 1, X, h0, h1, h2, h3 => by
    unfold ldit
    by_cases hz : X (b + 18) q = 0
    · rw [if_pos hz]
      have hz' : vL X b q = 0 := by show (X (b + 18) q).toInt = 0; rw [hz]; rfl
      exact ⟨RG.rfl, hz', fun p hp => ⟨(h1 p hp).1, (h1 p hp).2.1⟩, h2, fun h => ⟨h, hz', rfl⟩⟩
    · rw [if_neg hz]
      have hz' : vL X b q ≠ 0 := fun h => hz (Int64.toInt_inj.mp (h.trans z64.symm))
      have hq0 := h1 q hq
      have ez : (X (a + 18) q / X (b + 18) q).toInt = (vL X a q).tdiv (vL X b q) := t_div (by show _ < vL X a q; omega)
      obtain ⟨z, hze⟩ : ∃ z, z = (vL X a q).tdiv (vL X b q) := ⟨_, rfl⟩
      rw [← hze] at ez
      have hzn : z.natAbs = (vL X a q).natAbs / (vL X b q).natAbs := by rw [hze, Int.natAbs_tdiv]; rfl
      have hdm : (vL X b q).natAbs * z.natAbs + (vL X a q).natAbs % (vL X b q).natAbs = (vL X a q).natAbs := by rw [hzn]; exact Nat.div_add_mod _ _
      have hbp : 0 < (vL X b q).natAbs := Int.natAbs_pos.mpr hz'
      have key : ∀ p, p < 6 → (z * vL X b p).natAbs ≤ F ∧ (vL X a p - z * vL X b p).natAbs ≤ F ∧ ((vL X a q).natAbs % (vL X b q).natAbs) * (vL X b p).natAbs + (vL X b q).natAbs * (vL X a p - z * vL X b p).natAbs ≤ F := by
        intro p hp
        obtain ⟨k1, k2, k3⟩ := h1 p hp
        have e1 : (z * vL X b p).natAbs = z.natAbs * (vL X b p).natAbs := Int.natAbs_mul _ _
        have e2 : (vL X a p - z * vL X b p).natAbs ≤ (vL X a p).natAbs + z.natAbs * (vL X b p).natAbs := by rw [← e1]; omega
        have e3 : (vL X a q).natAbs * (vL X b p).natAbs = (vL X b q).natAbs * (z.natAbs * (vL X b p).natAbs) + ((vL X a q).natAbs % (vL X b q).natAbs) * (vL X b p).natAbs := by
          have e5 : (vL X a q).natAbs * (vL X b p).natAbs = ((vL X b q).natAbs * z.natAbs + (vL X a q).natAbs % (vL X b q).natAbs) * (vL X b p).natAbs := by rw [hdm]
          rw [e5, Nat.add_mul, Nat.mul_assoc]
        have e4 : (vL X b q).natAbs * (vL X a p - z * vL X b p).natAbs ≤ (vL X b q).natAbs * (vL X a p).natAbs + (vL X b q).natAbs * (z.natAbs * (vL X b p).natAbs) := by
          rw [← Nat.mul_add]; exact Nat.mul_le_mul_left _ e2
        have e6 : z.natAbs * (vL X b p).natAbs ≤ (vL X b q).natAbs * (z.natAbs * (vL X b p).natAbs) := Nat.le_mul_of_pos_left _ hbp
        have e7 : (vL X a p - z * vL X b p).natAbs ≤ (vL X b q).natAbs * (vL X a p - z * vL X b p).natAbs := Nat.le_mul_of_pos_left _ hbp
        omega
      have s1 := lsbt_int (a := a) (b := b) (z := X (a + 18) q / X (b + 18) q) (X := X) hab (fun p hp => by
        rw [ez]
        have := key p hp
        omega)
      rw [ez] at s1
      have s2 := lexc_int (a := a) (b := b) (X := lsbt a b (X (a + 18) q / X (b + 18) q) X)
      obtain ⟨Y, hY⟩ : ∃ Y, Y = lsbt a b (X (a + 18) q / X (b + 18) q) X := ⟨_, rfl⟩
      rw [← hY] at s1 s2 ⊢
      obtain ⟨Z, hZ⟩ : ∃ Z, Z = lexc a b Y := ⟨_, rfl⟩
      rw [← hZ] at s2 ⊢
      have g1 : RG N (fun r => r = a ∨ r = b) (vL X) (vL Z) := (rg_sub hN ha hb hab (.inl rfl) (.inr rfl) s1).trans (rg_exc hN ha hb hab (.inl rfl) (.inr rfl) s2)
      have eA : ∀ p, p < 6 → vL Z a p = vL X b p := fun p hp => by
        rw [s2 a p hp]; unfold oExc; rw [if_pos rfl, s1 b p hp]; unfold oSub; rw [if_neg hab]
      have eB : ∀ p, p < 6 → vL Z b p = vL X a p - z * vL X b p := fun p hp => by
        rw [s2 b p hp]; unfold oExc; rw [if_neg hab, if_pos rfl, s1 a p hp]; unfold oSub; rw [if_pos rfl]
      have eBq : (vL Z b q).natAbs = (vL X a q).natAbs % (vL X b q).natAbs := by
        rw [eB q hq, hze]
        have h5 := Int.mul_tdiv_add_tmod (vL X a q) (vL X b q)
        rw [Int.mul_comm] at h5
        rw [show vL X a q - (vL X a q).tdiv (vL X b q) * vL X b q = (vL X a q).tmod (vL X b q) by omega, Int.natAbs_tmod]
      have hml := Nat.mod_lt (vL X a q).natAbs hbp
      obtain ⟨i1, i2, i3, i4, i5⟩ := ldit_int (C := C) hN ha hb hab hq hF n Z (by
        rw [eBq, eA q hq]
        rcases h0 with h | h
        · exact absurd h (by omega)
        · exact h) (fun p hp => by
        rw [eBq, eA q hq, eA p hp, eB p hp]
        have := key p hp
        have := h1 p hp
        omega) (by rw [eA q hq]; exact h3) (by rw [eBq]; omega)
      refine ⟨g1.trans i1, i2, i3, i4, fun h => ?_⟩
      have := (i5 h).1
      rw [eA q hq] at this
      exact absurd this hz'
def gBd (C B : Nat) : Nat → Nat → Nat
  | 0, f => f
  | m + 1, f => gBd C B m (C * (f + B))
theorem gBd_ge {C B : Nat} (hC : 1 ≤ C) : ∀ (m f : Nat), f ≤ gBd C B m f
  | 0, f => Nat.le_refl _
  | m + 1, f => by
    have h1 := gBd_ge (B := B) hC m (C * (f + B))
    have h2 : f + B ≤ C * (f + B) := Nat.le_mul_of_pos_left _ (by omega)
    unfold gBd
    omega
theorem gat_run {N f q : Nat} (hN : N ≤ 3) (hf : f < N) (hq : q < 6) {C B : Nat} (hC : 1 ≤ C) (hC2 : C < 2 ^ 49) : ∀ (m r : Nat) (X : Nat → Nat → Int64) (Bf : Nat), f < r → r + m = N → gBd C B m Bf < 9223372036854775808 → (∀ i, f ≤ i → i < N → (∀ p, p < 6 → (vL X i p).natAbs ≤ if i < r then Bf else B) ∧ (vL X i q).natAbs ≤ C) →
    RG N (fun i => f ≤ i ∧ i < N) (vL X) (vL (fo (fun r X => ldit f r q 100 X) m r X)) ∧ (∀ i, f ≤ i → i < N → ∀ p, p < 6 → (vL (fo (fun r X => ldit f r q 100 X) m r X) i p).natAbs ≤ gBd C B m Bf) ∧ (∀ i, r ≤ i → i < r + m → vL (fo (fun r X => ldit f r q 100 X) m r X) i q = 0) ∧ (∀ i p, p < 6 → i ≠ f → ¬ (r ≤ i ∧ i < r + m) → vL (fo (fun r X => ldit f r q 100 X) m r X) i p = vL X i p) ∧ (vL (fo (fun r X => ldit f r q 100 X) m r X) f q = 0 → fo (fun r X => ldit f r q 100 X) m r X = X)
  | 0, r, X, Bf, hfr, hr, _, h => ⟨RG.rfl, fun i h1 h2 p hp => by have := (h i h1 h2).1 p hp; rw [if_pos (by omega)] at this; exact this, fun i h1 h2 => absurd h2 (by omega), fun _ _ _ _ _ => rfl, fun _ => rfl⟩
  | m + 1, r, X, Bf, hfr, hr, hF, h => by
    have hge : C * (Bf + B) ≤ gBd C B m (C * (Bf + B)) := gBd_ge hC m _
    have hge2 : Bf + B ≤ C * (Bf + B) := Nat.le_mul_of_pos_left _ (by omega)
    have hF : gBd C B m (C * (Bf + B)) < 9223372036854775808 := hF
    obtain ⟨hf1, hf2⟩ := h f (by omega) hf
    obtain ⟨hr1, hr2⟩ := h r (by omega) (by omega)
    rw [if_pos hfr] at hf1
    rw [if_neg (Nat.lt_irrefl r)] at hr1
    obtain ⟨d1, d2, d3, d4, d5⟩ := ldit_int (N := N) (a := f) (b := r) (q := q) (F := C * (Bf + B)) (C := C) hN hf (by omega) (by omega) hq (by omega) 100 X (euN_100 (by omega)) (fun p hp => by
      have a1 := hf1 p hp
      have a2 := hr1 p hp
      have a3 : (vL X r q).natAbs * (vL X f p).natAbs ≤ C * Bf := Nat.mul_le_mul hr2 a1
      have a4 : (vL X f q).natAbs * (vL X r p).natAbs ≤ C * B := Nat.mul_le_mul hf2 a2
      have a5 : C * (Bf + B) = C * Bf + C * B := Nat.mul_add _ _ _
      omega) hf2 hr2
    rw [fo_s]
    obtain ⟨Y, hY⟩ : ∃ Y, Y = ldit f r q 100 X := ⟨_, rfl⟩
    rw [← hY] at d1 d2 d3 d4 d5 ⊢
    have hun : ∀ i p, p < 6 → i ≠ f → i ≠ r → vL Y i p = vL X i p := fun i p hp e1 e2 => d1.2.1 i p hp (fun e => e.elim e1 e2)
    have hY : ∀ i, f ≤ i → i < N → (∀ p, p < 6 → (vL Y i p).natAbs ≤ if i < r + 1 then C * (Bf + B) else B) ∧ (vL Y i q).natAbs ≤ C := by
      intro i hi1 hi2
      by_cases e1 : i = f
      · rw [e1, if_pos (by omega)]; exact ⟨fun p hp => (d3 p hp).1, d4⟩
      · by_cases e2 : i = r
        · rw [e2, if_pos (by omega)]; exact ⟨fun p hp => (d3 p hp).2, by rw [d2]; exact Nat.zero_le _⟩
        · refine ⟨fun p hp => ?_, ?_⟩
          · rw [hun i p hp e1 e2]
            have := (h i hi1 hi2).1 p hp
            by_cases e3 : i < r
            · rw [if_pos e3] at this; rw [if_pos (by omega)]; omega
            · rw [if_neg e3] at this; rw [if_neg (by omega)]; exact this
          · rw [hun i q hq e1 e2]; exact (h i hi1 hi2).2
    obtain ⟨i1, i2, i3, i4, i5⟩ := gat_run hN hf hq hC hC2 m (r + 1) Y (C * (Bf + B)) (by omega) (by omega) hF hY
    refine ⟨(d1.mono (fun i hi => by rcases hi with rfl | rfl <;> omega)).trans i1, fun i h1 h2 p hp => i2 i h1 h2 p hp, fun i h1 h2 => ?_, fun i p hp h1 h2 => ?_, fun h0 => ?_⟩
    · by_cases e : i = r
      · rw [e, i4 r q hq (by omega) (by omega)]; exact d2
      · exact i3 i (by omega) (by omega)
    · rw [i4 i p hp h1 (by omega)]
      exact hun i p hp h1 (by omega)
    · have e1 := i5 h0
      rw [e1] at h0 ⊢
      exact (d5 h0).2.2
theorem lgat_int {N f q : Nat} (hN : N ≤ 3) (hf : f < N) (hq : q < 6) {C B G : Nat} {X : Nat → Nat → Int64} (hC : 1 ≤ C) (hC2 : C < 2 ^ 49) (hG : gBd C B (N - (f + 1)) B ≤ G) (hG2 : G < 9223372036854775808) (h : ∀ i, f ≤ i → i < N → (∀ p, p < 6 → (vL X i p).natAbs ≤ B) ∧ (vL X i q).natAbs ≤ C) :
    RG N (fun i => f ≤ i ∧ i < N) (vL X) (vL (lgat N f q X)) ∧ (∀ i, f ≤ i → i < N → ∀ p, p < 6 → (vL (lgat N f q X) i p).natAbs ≤ G) ∧ (∀ i, f < i → i < N → vL (lgat N f q X) i q = 0) ∧ 0 ≤ vL (lgat N f q X) f q ∧ (vL (lgat N f q X) f q = 0 → lgat N f q X = X) := by
  obtain ⟨a1, a2, a3, a4, a5⟩ := gat_run (B := B) hN hf hq hC hC2 (N - (f + 1)) (f + 1) X B (by omega) (by omega) (by omega) (fun i h1 h2 => ⟨fun p hp => by rw [ite_self]; exact (h i h1 h2).1 p hp, (h i h1 h2).2⟩)
  unfold lgat
  obtain ⟨Y, hY⟩ : ∃ Y, Y = fo (fun r X => ldit f r q 100 X) (N - (f + 1)) (f + 1) X := ⟨_, rfl⟩
  rw [← hY] at a1 a2 a3 a4 a5 ⊢
  dsimp only
  have b2 : ∀ i, f ≤ i → i < N → ∀ p, p < 6 → (vL Y i p).natAbs ≤ G := fun i h1 h2 p hp => Nat.le_trans (a2 i h1 h2 p hp) hG
  by_cases hn : Y (f + 18) q < 0
  · rw [if_pos hn]
    have hn' : vL Y f q < 0 := by rw [i64l, z64] at hn; exact hn
    have s := lneg_int (a := f) (X := Y) (fun p hp => by have := b2 f (by omega) hf p hp; omega)
    have es : ∀ i p, p < 6 → i ≠ f → vL (lneg f Y) i p = vL Y i p := fun i p hp e => by rw [s i p hp]; unfold oNeg; rw [if_neg e]
    have ef : ∀ p, p < 6 → vL (lneg f Y) f p = -vL Y f p := fun p hp => by rw [s f p hp]; unfold oNeg; rw [if_pos rfl]
    refine ⟨a1.trans (rg_neg hN hf ⟨Nat.le_refl _, hf⟩ s), fun i h1 h2 p hp => ?_, fun i h1 h2 => ?_, ?_, fun h0 => ?_⟩
    · by_cases e : i = f
      · rw [e, ef p hp, Int.natAbs_neg]; exact b2 f (by omega) hf p hp
      · rw [es i p hp e]; exact b2 i h1 h2 p hp
    · rw [es i q hq (by omega)]; exact a3 i (by omega) (by omega)
    · rw [ef q hq]; omega
    · rw [ef q hq] at h0; omega
  · rw [if_neg hn]
    have hn' : ¬ vL Y f q < 0 := by rw [i64l, z64] at hn; exact hn
    exact ⟨a1, b2, fun i h1 h2 => a3 i (by omega) (by omega), by omega, a5⟩
theorem lles_int {AN : Nat → Nat → Nat} {t r Z : Nat} {X : Nat → Nat → Int64} (htr : r ≠ t) (hc : AN 7 r < 6) (hP : 0 < vL X r (AN 7 r)) (hZ : (vL X t (AN 7 r) / vL X r (AN 7 r)).natAbs ≤ Z) (hb : ∀ p, p < 6 → Z * (vL X r p).natAbs + (vL X t p).natAbs < 9223372036854775808) :
    ∀ i p, p < 6 → vL (lles AN t r X) i p = oSub t r (vL X t (AN 7 r) / vL X r (AN 7 r)) (vL X) i p := by
  have e0 := hb (AN 7 r) hc
  have ef : (fdiv64 (X (t + 18) (AN 7 r)) (X (r + 18) (AN 7 r))).toInt = vL X t (AN 7 r) / vL X r (AN 7 r) := fdiv_int (by show _ < vL X t (AN 7 r); omega) hP
  unfold lles
  rw [if_pos (by rw [i64l, z64]; exact hP), ← ef]
  refine lsbt_int htr (fun p hp => ?_)
  rw [ef]
  have h1 := hb p hp
  have h2 : ((vL X t (AN 7 r) / vL X r (AN 7 r)) * vL X r p).natAbs ≤ Z * (vL X r p).natAbs := by
    rw [Int.natAbs_mul]; exact Nat.mul_le_mul_right _ hZ
  omega
theorem les_run {N k : Nat} {AN : Nat → Nat → Nat} (hN : N ≤ 3) (hk : k < N) (hc : AN 7 k < 6) {D E : Nat} (hDE : E * D + E < 9223372036854775808) : ∀ (m a : Nat) (X : Nat → Nat → Int64), a + m ≤ k → 0 < vL X k (AN 7 k) → (∀ p, p < 6 → (vL X k p).natAbs ≤ D) → (∀ i, a ≤ i → i < a + m → ∀ p, p < 6 → (vL X i p).natAbs ≤ E) →
    RG N (fun i => i < N) (vL X) (vL (fo (fun a X => lles AN a k X) m a X)) ∧ (∀ i p, p < 6 → ¬ (a ≤ i ∧ i < a + m) → vL (fo (fun a X => lles AN a k X) m a X) i p = vL X i p) ∧ ∀ i, a ≤ i → i < a + m → (0 ≤ vL (fo (fun a X => lles AN a k X) m a X) i (AN 7 k) ∧ vL (fo (fun a X => lles AN a k X) m a X) i (AN 7 k) < vL X k (AN 7 k)) ∧ ∃ z : Int, ∀ p, p < 6 → vL (fo (fun a X => lles AN a k X) m a X) i p = vL X i p - z * vL X k p ∧ (vL (fo (fun a X => lles AN a k X) m a X) i p).natAbs ≤ E + E * D
  | 0, a, X, _, _, _, _ => ⟨RG.rfl, fun _ _ _ _ => rfl, fun i h1 h2 => absurd h2 (by omega)⟩
  | m + 1, a, X, ha, hP, hD, hE => by
    have hEa := hE a (by omega) (by omega)
    have s2 := Int.natAbs_ediv_le_natAbs (vL X a (AN 7 k)) (vL X k (AN 7 k))
    have s1 := lles_int (AN := AN) (t := a) (r := k) (X := X) (by omega) hc hP s2 (fun p hp => by
      have b1 := hEa (AN 7 k) hc
      have b2 := hD p hp
      have b3 := hEa p hp
      have b4 : (vL X a (AN 7 k)).natAbs * (vL X k p).natAbs ≤ E * D := Nat.mul_le_mul b1 b2
      omega)
    rw [fo_s]
    obtain ⟨Y, hY⟩ : ∃ Y, Y = lles AN a k X := ⟨_, rfl⟩
    rw [← hY] at s1 ⊢
    obtain ⟨z, hz⟩ : ∃ z, z = vL X a (AN 7 k) / vL X k (AN 7 k) := ⟨_, rfl⟩
    rw [← hz] at s1 s2
    have eo : ∀ i p, p < 6 → i ≠ a → vL Y i p = vL X i p := fun i p hp e => by rw [s1 i p hp]; unfold oSub; rw [if_neg e]
    have ea : ∀ p, p < 6 → vL Y a p = vL X a p - z * vL X k p := fun p hp => by rw [s1 a p hp]; unfold oSub; rw [if_pos rfl]
    obtain ⟨i1, i2, i3⟩ := les_run hN hk hc hDE m (a + 1) Y (by omega) (by rw [eo k _ hc (by omega)]; exact hP) (fun p hp => by rw [eo k p hp (by omega)]; exact hD p hp) (fun i h1 h2 p hp => by rw [eo i p hp (by omega)]; exact hE i (by omega) (by omega) p hp)
    refine ⟨(rg_sub (n := N) (a := a) (b := k) (S := fun i => i < N) hN (by omega) hk (by omega) (show a < N by omega) hk s1).trans i1, fun i p hp h => ?_, fun i h1 h2 => ?_⟩
    · rw [i2 i p hp (by omega), eo i p hp (by omega)]
    · by_cases e : i = a
      · subst e
        have e2 : ∀ p, p < 6 → vL (fo (fun a X => lles AN a k X) m (i + 1) Y) i p = vL X i p - z * vL X k p := fun p hp => by rw [i2 i p hp (by omega), ea p hp]
        refine ⟨?_, z, fun p hp => ⟨e2 p hp, ?_⟩⟩
        · rw [e2 _ hc, hz]
          have h3 := Int.emod_nonneg (vL X i (AN 7 k)) (show vL X k (AN 7 k) ≠ 0 by omega)
          have h4 := Int.emod_lt_of_pos (vL X i (AN 7 k)) hP
          have h5 := Int.mul_ediv_add_emod (vL X i (AN 7 k)) (vL X k (AN 7 k))
          rw [Int.mul_comm] at h5
          omega
        · rw [e2 p hp]
          have b1 := hEa (AN 7 k) hc
          have b2 := hD p hp
          have b3 := hEa p hp
          have b4 : (z * vL X k p).natAbs ≤ E * D := by rw [Int.natAbs_mul]; exact Nat.mul_le_mul (by omega) b2
          omega
      · obtain ⟨j1, z', j2⟩ := i3 i (by omega) (by omega)
        rw [eo k _ hc (by omega)] at j1
        refine ⟨j1, z', fun p hp => ?_⟩
        have := j2 p hp
        rw [eo i p hp e, eo k p hp (by omega)] at this
        exact this
/-- what stands after the places before q -/
def SI (n q k : Nat) (beg : Nat → Nat) (L : Nat → Nat → Int) : Prop :=
  k ≤ n ∧ (∀ r, r < k → beg r < q) ∧ (∀ r s, r < s → s < k → beg r < beg s) ∧ (∀ r, r < k → 0 < L r (beg r)) ∧ (∀ r, r < k → ∀ p, p < beg r → L r p = 0) ∧ (∀ a r, a < r → r < k → 0 ≤ L a (beg r) ∧ L a (beg r) < L r (beg r)) ∧ ∀ r, k ≤ r → r < n → ∀ p, p < q → L r p = 0
def bD : Nat → Nat
  | 0 => 9
  | 1 => 1539
  | _ => 4737042
def bE : Nat → Nat
  | 0 => 9
  | 1 => 1539
  | 2 => 7290309177
  | _ => 34534508054743611
theorem bDE {n k : Nat} (hk : k < n) (hn : n ≤ 3) : 1 ≤ bD k ∧ bD k < 2 ^ 49 ∧ gBd (bD k) (bD k) (n - (k + 1)) (bD k) ≤ bD (k + 1) ∧ bD (k + 1) < 9223372036854775808 ∧ bE k * bD (k + 1) + bE k < 9223372036854775808 ∧ (0 < k → bE k + bE k * bD (k + 1) ≤ bE (k + 1)) ∧ bD (k + 1) ≤ bE (k + 1) ∧ bE k ≤ bE (k + 1) := by
  obtain ⟨rfl, rfl⟩ | ⟨rfl, rfl⟩ | ⟨rfl, rfl⟩ | ⟨rfl, rfl⟩ | ⟨rfl, rfl⟩ | ⟨rfl, rfl⟩ : (n = 1 ∧ k = 0) ∨ (n = 2 ∧ k = 0) ∨ (n = 2 ∧ k = 1) ∨ (n = 3 ∧ k = 0) ∨ (n = 3 ∧ k = 1) ∨ (n = 3 ∧ k = 2) := by omega
  all_goals refine ⟨?_, ?_, ?_, ?_, ?_, ?_, ?_, ?_⟩ <;> simp [bD, bE, gBd]
theorem ss_run {n : Nat} (hn : n ≤ 3) {L0 : Nat → Nat → Int} : ∀ (m q k : Nat) (AN : Nat → Nat → Nat) (X : Nat → Nat → Int64), q + m = 6 → SI n q k (AN 7) (vL X) → RG n (fun i => i < n) L0 (vL X) → (∀ r, k ≤ r → r < n → ∀ p, p < 6 → (vL X r p).natAbs ≤ bD k) → (∀ r, r < k → ∀ p, p < 6 → (vL X r p).natAbs ≤ bE k) →
    ∃ k' AN' Y, fo (sstep n) m q (k, AN, X) = (k', AN', Y) ∧ SI n 6 k' (AN' 7) (vL Y) ∧ RG n (fun i => i < n) L0 (vL Y) ∧ (∀ r, r < n → ∀ p, p < 6 → (vL Y r p).natAbs ≤ bE k') ∧ (∀ a, a ≠ 7 → AN' a = AN a) ∧ (∀ r, AN' 7 r = AN 7 r ∨ AN' 7 r < 6)
  | 0, q, k, AN, X, hq, h1, h2, h3, h4 => by
    obtain rfl : q = 6 := by omega
    refine ⟨k, AN, X, rfl, h1, h2, fun r hr p hp => ?_, fun _ _ => rfl, fun _ => .inl rfl⟩
    by_cases h : r < k
    · exact h4 r h p hp
    · rw [h1.2.2.2.2.2.2 r (by omega) hr p hp]; exact Nat.zero_le _
  | m + 1, q, k, AN, X, hq, h1, h2, h3, h4 => by
    rw [fo_s]
    by_cases hk : k < n
    · obtain ⟨c1, c2, c3, c4, c5, c6, c7, c8⟩ := bDE hk hn
      obtain ⟨g1, g2, g3, g4, g5⟩ := lgat_int (N := n) (f := k) (q := q) (C := bD k) (B := bD k) (G := bD (k + 1)) (X := X) hn hk (by omega) c1 c2 c3 c4 (fun i hi1 hi2 => ⟨fun p hp => h3 i hi1 hi2 p hp, h3 i hi1 hi2 q (by omega)⟩)
      obtain ⟨a1, a2, a3, a4, a5, a6, a7⟩ := h1
      by_cases hz : lgat n k q X (k + 18) q = 0
      · rw [show sstep n q (k, AN, X) = (k, AN, lgat n k q X) by unfold sstep; rw [if_pos hk, if_pos hz]]
        have hz' : vL (lgat n k q X) k q = 0 := by show (lgat n k q X (k + 18) q).toInt = 0; rw [hz]; rfl
        have e := g5 hz'
        rw [e] at g3 hz' ⊢
        refine ss_run hn m (q + 1) k AN X (by omega) ⟨a1, fun r hr => Nat.lt_succ_of_lt (a2 r hr), a3, a4, a5, a6, fun r hr1 hr2 p hp => ?_⟩ h2 h3 h4
        by_cases ep : p = q
        · rw [ep]
          by_cases er : r = k
          · rw [er]; exact hz'
          · exact g3 r (by omega) hr2
        · exact a7 r hr1 hr2 p (by omega)
      · rw [show sstep n q (k, AN, X) = (k + 1, up2 AN 7 k q, fo (fun a X => lles (up2 AN 7 k q) a k X) k 0 (lgat n k q X)) by unfold sstep; rw [if_pos hk, if_neg hz]]
        have hz' : vL (lgat n k q X) k q ≠ 0 := fun h => hz (Int64.toInt_inj.mp (h.trans z64.symm))
        obtain ⟨Y, hY⟩ : ∃ Y, Y = lgat n k q X := ⟨_, rfl⟩
        rw [← hY] at g1 g2 g3 g4 hz' ⊢
        have e7 : up2 AN 7 k q 7 k = q := up2_s
        have eo : ∀ i p, p < 6 → i < k → vL Y i p = vL X i p := fun i p hp hi => g1.2.1 i p hp (by omega)
        have hz0 : ∀ r, k ≤ r → r < n → ∀ p, p < q → vL Y r p = 0 := fun r hr1 hr2 p hp => by
          have hw := g1.1 (fun t => if t = p then 1 else 0) (fun i hi => by
            rw [dt_sgl 6 0 (Nat.zero_le _) (by omega), a7 i hi.1 hi.2 p hp]; rfl) r ⟨hr1, hr2⟩
          rw [dt_sgl 6 0 (Nat.zero_le _) (by omega)] at hw
          omega
        obtain ⟨l1, l2, l3⟩ := les_run (N := n) (k := k) (AN := up2 AN 7 k q) (D := bD (k + 1)) (E := bE k) hn hk (by rw [e7]; omega) c5 k 0 Y (by omega) (by rw [e7]; omega) (fun p hp => g2 k (Nat.le_refl _) hk p hp) (fun i _ hi p hp => by rw [eo i p hp (by omega)]; exact h4 i (by omega) p hp)
        obtain ⟨Z, hZ⟩ : ∃ Z, Z = fo (fun a X => lles (up2 AN 7 k q) a k X) k 0 Y := ⟨_, rfl⟩
        rw [← hZ] at l1 l2 l3 ⊢
        rw [e7] at l3
        have lo : ∀ i p, p < 6 → k ≤ i → vL Z i p = vL Y i p := fun i p hp hi => l2 i p hp (by omega)
        have lp : ∀ i p, p < q → i < k → vL Z i p = vL X i p := fun i p hp hi => by
          obtain ⟨_, z, hz⟩ := l3 i (Nat.zero_le _) (by omega)
          rw [(hz p (by omega)).1, hz0 k (Nat.le_refl _) hk p hp, eo i p (by omega) hi, Int.mul_zero, Int.sub_zero]
        have b7 : ∀ r, r < k → up2 AN 7 k q 7 r = AN 7 r := fun r hr => up2_n (by omega)
        have hq6 : q < 6 := by omega
        obtain ⟨k', AN', Y', r1, r2, r3, r4, r5, r6⟩ := ss_run (L0 := L0) hn m (q + 1) (k + 1) (up2 AN 7 k q) Z (by omega) (by
          refine ⟨by omega, fun r hr => ?_, fun r s hrs hs => ?_, fun r hr => ?_, fun r hr p hp => ?_, fun a r har hr => ?_, fun r hr1 hr2 p hp => ?_⟩
          · by_cases e : r = k
            · rw [e, e7]; omega
            · rw [b7 r (by omega)]; have := a2 r (by omega); omega
          · rw [b7 r (by omega)]
            by_cases e : s = k
            · rw [e, e7]; exact a2 r (by omega)
            · rw [b7 s (by omega)]; exact a3 r s hrs (by omega)
          · by_cases e : r = k
            · rw [e, e7, lo k q hq6 (Nat.le_refl _)]; omega
            · rw [b7 r (by omega), lp r _ (a2 r (by omega)) (by omega)]; exact a4 r (by omega)
          · by_cases e : r = k
            · rw [e, e7] at hp
              rw [e, lo k p (by omega) (Nat.le_refl _)]; exact hz0 k (Nat.le_refl _) hk p hp
            · rw [b7 r (by omega)] at hp
              have := a2 r (by omega)
              rw [lp r p (by omega) (by omega)]; exact a5 r (by omega) p hp
          · by_cases e : r = k
            · rw [e, e7, lo k q hq6 (Nat.le_refl _)]
              exact (l3 a (Nat.zero_le _) (by omega)).1
            · have := a2 r (by omega)
              rw [b7 r (by omega), lp a _ this (by omega), lp r _ this (by omega)]
              exact a6 a r har (by omega)
          · rw [lo r p (by omega) (by omega)]
            by_cases e : p = q
            · rw [e]; exact g3 r (by omega) hr2
            · exact hz0 r (by omega) hr2 p (by omega)) ((h2.trans (g1.mono (fun i hi => hi.2))).trans l1) (fun r hr1 hr2 p hp => by
          rw [lo r p hp (by omega)]; exact g2 r (by omega) hr2 p hp) (fun r hr p hp => by
          by_cases e : r = k
          · rw [e, lo k p hp (Nat.le_refl _)]
            have := g2 k (Nat.le_refl _) hk p hp
            omega
          · obtain ⟨_, z, hz⟩ := l3 r (Nat.zero_le _) (by omega)
            have := (hz p hp).2
            have := c6 (by omega)
            omega)
        refine ⟨k', AN', Y', r1, r2, r3, r4, fun a ha => by rw [r5 a ha, up2_row ha], fun r => ?_⟩
        rcases r6 r with h | h
        · by_cases e : r = k
          · rw [e, e7] at h; right; rw [e]; omega
          · rw [up2_n (by omega)] at h; exact .inl h
        · exact .inr h
    · rw [show sstep n q (k, AN, X) = (k, AN, X) by unfold sstep; rw [if_neg hk]]
      obtain ⟨a1, a2, a3, a4, a5, a6, a7⟩ := h1
      exact ss_run hn m (q + 1) k AN X (by omega) ⟨a1, fun r hr => Nat.lt_succ_of_lt (a2 r hr), a3, a4, a5, a6, fun r hr1 hr2 => absurd hr2 (by omega)⟩ h2 h3 h4
theorem tg_run {n : Nat} {AN : Nat → Nat → Nat} (hn : n ≤ 3) {E : Nat} (hE : 9 + 63 * E < 9223372036854775808) {T0 : Nat → Int} : ∀ (m r cz : Nat) (X : Nat → Nat → Int64), r + m = n → (cz + 9) * 2 ^ m ≤ 72 → SI n 6 n (AN 7) (vL X) → (∀ i, i < n → ∀ p, p < 6 → (vL X i p).natAbs ≤ E) → (∀ p, p < 6 → (vL X 3 p).natAbs ≤ 9 + cz * E) → (∀ i, r ≤ i → i < n → (vL X 3 (AN 7 i)).natAbs ≤ 9 + cz * (vL X i (AN 7 i)).natAbs) → (∀ i, i < r → 0 ≤ vL X 3 (AN 7 i) ∧ vL X 3 (AN 7 i) < vL X i (AN 7 i)) → (∀ w : Nat → Int, (∀ i, i < n → dt (vL X i) w 6 0 = 0) → dt (vL X 3) w 6 0 = dt T0 w 6 0) →
    (∀ i p, p < 6 → i < n → vL (fo (fun r X => lles AN 3 r X) m r X) i p = vL X i p) ∧ (∀ i, i < n → 0 ≤ vL (fo (fun r X => lles AN 3 r X) m r X) 3 (AN 7 i) ∧ vL (fo (fun r X => lles AN 3 r X) m r X) 3 (AN 7 i) < vL X i (AN 7 i)) ∧ (∀ w : Nat → Int, (∀ i, i < n → dt (vL X i) w 6 0 = 0) → dt (vL (fo (fun r X => lles AN 3 r X) m r X) 3) w 6 0 = dt T0 w 6 0)
  | 0, r, cz, X, hr, _, _, _, _, _, h5, h6 => ⟨fun _ _ _ _ => rfl, fun i hi => h5 i (by omega), h6⟩
  | m + 1, r, cz, X, hr, hcz, h1, h2, h3, h4, h5, h6 => by
    obtain ⟨a1, a2, a3, a4, a5, a6, a7⟩ := h1
    have hrn : r < n := by omega
    have hP := a4 r hrn
    have hc := a2 r hrn
    have hp2 : 0 < 2 ^ m := Nat.two_pow_pos m
    have hcz2 : (cz + 9) * 2 ^ m * 2 ≤ 72 := by rw [Nat.mul_assoc, ← Nat.pow_succ]; exact hcz
    have hcz3 : cz + 9 ≤ (cz + 9) * 2 ^ m := Nat.le_mul_of_pos_right _ hp2
    have hz : (vL X 3 (AN 7 r) / vL X r (AN 7 r)).natAbs ≤ 9 + cz := by
      have b := h4 r (Nat.le_refl _) hrn
      have hPn : (vL X r (AN 7 r)).natAbs = vL X r (AN 7 r) := by omega
      have b1 : (9 + cz : Int) * vL X r (AN 7 r) ≥ 9 + cz * vL X r (AN 7 r) := by
        have : (9 : Int) * vL X r (AN 7 r) ≥ 9 := by omega
        have e : (9 + cz : Int) * vL X r (AN 7 r) = 9 * vL X r (AN 7 r) + cz * vL X r (AN 7 r) := by grind
        omega
      have b2 : ((9 + cz * (vL X r (AN 7 r)).natAbs : Nat) : Int) = 9 + cz * vL X r (AN 7 r) := by push_cast; rw [← hPn]; simp
      have c1 : vL X 3 (AN 7 r) ≤ (9 + cz : Int) * vL X r (AN 7 r) := by omega
      have c2 : -((9 + cz : Int)) * vL X r (AN 7 r) ≤ vL X 3 (AN 7 r) := by
        rw [Int.neg_mul]; omega
      have d1 : vL X 3 (AN 7 r) / vL X r (AN 7 r) ≤ 9 + cz := by
        have := Int.ediv_le_ediv hP c1
        rw [Int.mul_ediv_cancel _ (by omega)] at this
        exact this
      have d2 : -((9 + cz : Int)) ≤ vL X 3 (AN 7 r) / vL X r (AN 7 r) := (Int.le_ediv_iff_mul_le hP).mpr c2
      omega
    have hzE : (9 + cz) * E ≤ 36 * E := Nat.mul_le_mul_right _ (by omega)
    have hcE : cz * E ≤ 27 * E := Nat.mul_le_mul_right _ (by omega)
    have s1 := lles_int (AN := AN) (t := 3) (r := r) (X := X) (by omega) hc hP hz (fun p hp => by
      have b1 := h2 r hrn p hp
      have b2 := h3 p hp
      have b3 : (9 + cz) * (vL X r p).natAbs ≤ (9 + cz) * E := Nat.mul_le_mul_left _ b1
      omega)
    rw [fo_s]
    obtain ⟨Y, hY⟩ : ∃ Y, Y = lles AN 3 r X := ⟨_, rfl⟩
    rw [← hY] at s1 ⊢
    obtain ⟨z, hze⟩ : ∃ z, z = vL X 3 (AN 7 r) / vL X r (AN 7 r) := ⟨_, rfl⟩
    rw [← hze] at s1 hz
    have eo : ∀ i p, p < 6 → i < n → vL Y i p = vL X i p := fun i p hp e => by rw [s1 i p hp]; unfold oSub; rw [if_neg (by omega)]
    have et : ∀ p, p < 6 → vL Y 3 p = vL X 3 p - z * vL X r p := fun p hp => by rw [s1 3 p hp]; unfold oSub; rw [if_pos rfl]
    have edt : ∀ i, i < n → ∀ w, dt (vL Y i) w 6 0 = dt (vL X i) w 6 0 := fun i hi w => dt_congr 6 0 (fun j _ hj => eo i j (by omega) hi)
    obtain ⟨i1, i2, i3⟩ := tg_run hn hE (T0 := T0) m (r + 1) (9 + 2 * cz) Y (by omega) (by
      rw [show 9 + 2 * cz + 9 = (cz + 9) * 2 by omega, Nat.mul_assoc, ← Nat.pow_succ']
      exact hcz) ⟨a1, a2, a3, fun i hi => by rw [eo i _ (a2 i hi) hi]; exact a4 i hi, fun i hi p hp => by rw [eo i p (by have := a2 i hi; omega) hi]; exact a5 i hi p hp, fun a i hai hi => by rw [eo a _ (a2 i hi) (by omega), eo i _ (a2 i hi) hi]; exact a6 a i hai hi, fun i h1 h2 => absurd h2 (by omega)⟩ (fun i hi p hp => by rw [eo i p hp hi]; exact h2 i hi p hp) (fun p hp => by
      rw [et p hp]
      have b1 := h2 r hrn p hp
      have b2 := h3 p hp
      have b3 : (z * vL X r p).natAbs ≤ (9 + cz) * E := by rw [Int.natAbs_mul]; exact Nat.mul_le_mul hz b1
      have b4 : (9 + 2 * cz) * E = (9 + cz) * E + cz * E := by rw [← Nat.add_mul]; congr 1; omega
      omega) (fun i hi1 hi2 => by
      rw [et _ (a2 i hi2), eo i _ (a2 i hi2) hi2]
      have b2 := h4 i (by omega) hi2
      have b1 := a6 r i (by omega) hi2
      have b5 : (vL X r (AN 7 i)).natAbs ≤ (vL X i (AN 7 i)).natAbs := by omega
      have b3 : (z * vL X r (AN 7 i)).natAbs ≤ (9 + cz) * (vL X i (AN 7 i)).natAbs := by rw [Int.natAbs_mul]; exact Nat.mul_le_mul hz b5
      have b4 : (9 + 2 * cz) * (vL X i (AN 7 i)).natAbs = (9 + cz) * (vL X i (AN 7 i)).natAbs + cz * (vL X i (AN 7 i)).natAbs := by rw [← Nat.add_mul]; congr 1; omega
      omega) (fun i hi => by
      rw [et _ (a2 i (by omega)), eo i _ (a2 i (by omega)) (by omega)]
      by_cases e : i = r
      · rw [e, hze]
        have h3 := Int.emod_nonneg (vL X 3 (AN 7 r)) (show vL X r (AN 7 r) ≠ 0 by omega)
        have h4 := Int.emod_lt_of_pos (vL X 3 (AN 7 r)) hP
        have h5 := Int.mul_ediv_add_emod (vL X 3 (AN 7 r)) (vL X r (AN 7 r))
        rw [Int.mul_comm] at h5
        omega
      · rw [a5 r hrn (AN 7 i) (a3 i r (by omega) hrn), Int.mul_zero, Int.sub_zero]
        exact h5 i (by omega)) (fun w hw => by
      have hw' : ∀ i, i < n → dt (vL X i) w 6 0 = 0 := fun i hi => by rw [← edt i hi]; exact hw i hi
      have h7 := dt_lin (f := vL X 3) (g := vL Y 3) (p := vL X r) (x := w) (s := 1) (a := 1) (b := z) 6 0 (fun j _ hj => by rw [et j (by omega)]; grind)
      rw [hw' r hrn, h6 w hw'] at h7
      omega)
    refine ⟨fun i p hp hi => by rw [i1 i p hp hi, eo i p hp hi], fun i hi => by rw [← eo i _ (a2 i hi) hi]; exact i2 i hi, fun w hw => i3 w (fun i hi => by rw [edt i hi]; exact hw i hi)⟩
theorem dz_row0 {n a : Nat} {M : Nat → Nat → Int} (hn : n ≤ 3) (ha : a < n) (h : ∀ c, c < n → M a c = 0) : dz n M = 0 := by
  obtain rfl | rfl | rfl : n = 1 ∨ n = 2 ∨ n = 3 := by omega
  · obtain rfl : a = 0 := by omega
    rw [dz_1]; exact h 0 (by omega)
  · have h0 := h 0 (by omega)
    have h1 := h 1 (by omega)
    obtain rfl | rfl : a = 0 ∨ a = 1 := by omega
    all_goals rw [dz_2, h0, h1]; omega
  · have h0 := h 0 (by omega)
    have h1 := h 1 (by omega)
    have h2 := h 2 (by omega)
    obtain rfl | rfl | rfl : a = 0 ∨ a = 1 ∨ a = 2 := by omega
    all_goals rw [dz_3, h0, h1, h2]; grind
/-- the functional: place p less what the unknowns come to -/
def wF (n p : Nat) (a : Nat → Int) : Nat → Int := fun t => if t = p then 1 else if 3 ≤ t ∧ t < 3 + n then -a (t - 3) else 0
theorem dt_wF {n p : Nat} {f a : Nat → Int} (h1 : 1 ≤ n) (hn : n ≤ 3) (hp : p < 3) : dt f (wF n p a) 6 0 = f p - dt a (fun j => f (3 + j)) n 0 := by
  obtain rfl | rfl | rfl : n = 1 ∨ n = 2 ∨ n = 3 := by omega
  all_goals
    obtain rfl | rfl | rfl : p = 0 ∨ p = 1 ∨ p = 2 := by omega
    all_goals simp [dt, wF]; grind
theorem fo_col {α : Type} {s q : Nat} {g : Nat → α} : ∀ (m i : Nat) (Y : Nat → Nat → α) (a b : Nat), fo (fun r Y => up2 Y (r + s) q (g r)) m i Y a b = if b = q ∧ i + s ≤ a ∧ a < i + m + s then g (a - s) else Y a b
  | 0, i, Y, a, b => by rw [fo_0, if_neg (by omega)]
  | m + 1, i, Y, a, b => by
    rw [fo_s, fo_col m (i + 1)]
    by_cases h : b = q ∧ i + 1 + s ≤ a ∧ a < i + 1 + m + s
    · rw [if_pos h, if_pos (by omega)]
    · rw [if_neg h]
      by_cases h2 : a = i + s ∧ b = q
      · obtain ⟨rfl, rfl⟩ := h2
        rw [up2_s, if_pos (by omega), Nat.add_sub_cancel]
      · rw [up2_n h2, if_neg (by omega)]
theorem lbeg_at {n : Nat} {X : Nat → Nat → Int64} (r p : Nat) (hp : p < 6) (hn : n ≤ 3) (hr : r < n ∨ r = 3) : lbeg n X (r + 18) p = if r < n ∧ p = 3 + r then 1 else 0 := by
  have inner : ∀ (p : Nat) (m i : Nat) (Y : Nat → Nat → Int64) (a b : Nat), fo (fun r Y => up2 Y (r + 18) p (if p = 3 + r then 1 else 0)) m i Y a b = if b = p ∧ i + 18 ≤ a ∧ a < i + m + 18 then (if p = 3 + (a - 18) then 1 else 0) else Y a b := fun p m i Y a b => fo_col (g := fun r => if p = 3 + r then 1 else 0) m i Y a b
  have outer : ∀ (m i : Nat) (Y : Nat → Nat → Int64) (b : Nat), i ≤ b → b < i + m → fo (fun p X => fo (fun r Y => up2 Y (r + 18) p (if p = 3 + r then 1 else 0)) n 0 (up2 X 21 p 0)) m i Y (r + 18) b = if r < n ∧ b = 3 + r then 1 else 0 := by
    intro m
    induction m with
    | zero => intro i Y b h1 h2; omega
    | succ m ih =>
      intro i Y b h1 h2
      rw [fo_s]
      by_cases e : b = i
      · have st : ∀ (m i : Nat) (Y : Nat → Nat → Int64), b < i → fo (fun p X => fo (fun r Y => up2 Y (r + 18) p (if p = 3 + r then 1 else 0)) n 0 (up2 X 21 p 0)) m i Y (r + 18) b = Y (r + 18) b := by
          intro m
          induction m with
          | zero => intro i Y _; rfl
          | succ m ih2 =>
            intro i Y hb
            rw [fo_s, ih2 (i + 1) _ (by omega), inner, if_neg (by omega), up2_n (by omega)]
        rw [st m (i + 1) _ (by omega), inner]
        rcases hr with hr | hr
        · rw [if_pos (by omega), Nat.add_sub_cancel]
          by_cases h : i = 3 + r
          · rw [if_pos h, if_pos ⟨hr, by omega⟩]
          · rw [if_neg h, if_neg (fun h' => h (by omega))]
        · rw [if_neg (by omega), if_neg (by omega), hr, e, up2_s]
      · exact ih (i + 1) _ b (by omega) (by omega)
  exact outer 6 0 X p (Nat.zero_le _) (by omega)
theorem spfill_at {n e : Nat} {AI : Nat → Nat → Int32} {X : Nat → Nat → Int64} (hn : n ≤ 3) (r p : Nat) (hr : r < n ∨ r = 3) : spfill n e AI X (r + 18) p = if p < e then (if r < n then Int32.toInt64 (AI (p + 8) r) else Int32.toInt64 (-AI (p + 8) n)) else X (r + 18) p := by
  have inner : ∀ (i : Nat) (m j : Nat) (Y : Nat → Nat → Int64) (a b : Nat), fo (fun j Y => up2 Y (j + 18) i (Int32.toInt64 (AI (i + 8) j))) m j Y a b = if b = i ∧ j + 18 ≤ a ∧ a < j + m + 18 then Int32.toInt64 (AI (i + 8) (a - 18)) else Y a b := fun i m j Y a b => fo_col (g := fun j => Int32.toInt64 (AI (i + 8) j)) m j Y a b
  have outer : ∀ (m i : Nat) (Y : Nat → Nat → Int64), fo (fun i X => up2 (fo (fun j Y => up2 Y (j + 18) i (Int32.toInt64 (AI (i + 8) j))) n 0 X) 21 i (Int32.toInt64 (-AI (i + 8) n))) m i Y (r + 18) p = if i ≤ p ∧ p < i + m then (if r < n then Int32.toInt64 (AI (p + 8) r) else Int32.toInt64 (-AI (p + 8) n)) else Y (r + 18) p := by
    intro m
    induction m with
    | zero => intro i Y; rw [fo_0, if_neg (by omega)]
    | succ m ih =>
      intro i Y
      rw [fo_s, ih]
      by_cases h : i + 1 ≤ p ∧ p < i + 1 + m
      · rw [if_pos h, if_pos (show i ≤ p ∧ p < i + (m + 1) by omega)]
      · rw [if_neg h]
        by_cases e : p = i
        · subst e
          rw [if_pos (show p ≤ p ∧ p < p + (m + 1) by omega)]
          rcases hr with hr | hr
          · rw [if_pos hr, up2_n (by omega), inner, if_pos (by omega), Nat.add_sub_cancel]
          · rw [if_neg (by omega), hr, up2_s]
        · rw [if_neg (show ¬ (i ≤ p ∧ p < i + (m + 1)) by omega)]
          rcases hr with hr | hr
          · rw [up2_n (by omega), inner, if_neg (by omega)]
          · rw [up2_n (by omega), inner, if_neg (by omega)]
  unfold spfill
  rw [outer]
  by_cases h : p < e
  · rw [if_pos h, if_pos (by omega)]
  · rw [if_neg h, if_neg (by omega)]
/-- all that the lattice of a system has at its end -/
theorem sp_pack {u : TS} {v : MS} (hI : Inv u v) : SI (u.1 0) 6 (u.1 0) ((S9 u).1 7) (vL (S9 u).2) ∧
    (∀ r, r < u.1 0 → (∀ p, p < u.1 1 → vL (S9 u).2 r p = dt (aU u p) (fun j => vL (S9 u).2 r (3 + j)) (u.1 0) 0) ∧ (∀ p, u.1 1 ≤ p → p < 3 → vL (S9 u).2 r p = 0) ∧ ∀ j, u.1 0 ≤ j → j < 3 → vL (S9 u).2 r (3 + j) = 0) ∧
    (dz (u.1 0) (fun r j => vL (S9 u).2 r (3 + j)) = 1 ∨ dz (u.1 0) (fun r j => vL (S9 u).2 r (3 + j)) = -1) ∧
    (∀ r, r < u.1 0 → 0 ≤ vL (S9 u).2 3 ((S9 u).1 7 r) ∧ vL (S9 u).2 3 ((S9 u).1 7 r) < vL (S9 u).2 r ((S9 u).1 7 r)) ∧
    ((∀ p, p < u.1 1 → vL (S9 u).2 3 p = dt (aU u p) (fun j => vL (S9 u).2 3 (3 + j)) (u.1 0) 0 - aU u p (u.1 0)) ∧ (∀ p, u.1 1 ≤ p → p < 3 → vL (S9 u).2 3 p = 0) ∧ ∀ j, u.1 0 ≤ j → j < 3 → vL (S9 u).2 3 (3 + j) = 0) ∧
    (∀ a, a ≠ 7 → (S9 u).1 a = u.2.1 a) ∧ ∀ r, r < 3 → (S9 u).1 7 r < 6 := by
  obtain ⟨⟨i1, i2, i3⟩, ⟨i4, i5⟩, i6, ⟨i7, i8⟩, i9⟩ := hI
  obtain ⟨X0, hX0⟩ : ∃ X0, X0 = spfill (u.1 0) (u.1 1) u.2.2.1 (lbeg (u.1 0) u.2.2.2) := ⟨_, rfl⟩
  have eR : ∀ r p, r < u.1 0 → p < 6 → vL X0 r p = if p < u.1 1 then aU u p r else if p = 3 + r then 1 else 0 := by
    intro r p hr hp
    show (X0 (r + 18) p).toInt = _
    rw [hX0, spfill_at i2 r p (.inl hr)]
    by_cases h : p < u.1 1
    · rw [if_pos h, if_pos h, if_pos hr, t32_64]; rfl
    · rw [if_neg h, if_neg h, lbeg_at r p hp i2 (.inl hr)]
      by_cases h2 : p = 3 + r
      · rw [if_pos ⟨hr, h2⟩, if_pos h2, o64]
      · rw [if_neg (fun h' => h2 h'.2), if_neg h2, z64]
  have eT : ∀ p, p < 6 → vL X0 3 p = if p < u.1 1 then -aU u p (u.1 0) else 0 := by
    intro p hp
    show (X0 (3 + 18) p).toInt = _
    rw [hX0, spfill_at i2 3 p (.inr rfl)]
    by_cases h : p < u.1 1
    · have b := (i6 p (u.1 0) h (Nat.le_refl _)).2
      rw [if_pos h, if_pos h, if_neg (by omega), t32_64, u_neg (by omega)]; rfl
    · rw [if_neg h, if_neg h, lbeg_at 3 p hp i2 (.inr rfl), if_neg (by omega), z64]
  have bR : ∀ r, r < u.1 0 → ∀ p, p < 6 → (vL X0 r p).natAbs ≤ 9 := by
    intro r hr p hp
    rw [eR r p hr hp]
    by_cases h : p < u.1 1
    · rw [if_pos h]
      have b := (i6 p r h (by omega)).2
      show ((u.2.2.1 (p + 8) r).toInt).natAbs ≤ 9
      omega
    · rw [if_neg h]
      by_cases h2 : p = 3 + r
      · rw [if_pos h2]; decide
      · rw [if_neg h2]; decide
  have bT : ∀ p, p < 6 → (vL X0 3 p).natAbs ≤ 9 := by
    intro p hp
    rw [eT p hp]
    by_cases h : p < u.1 1
    · rw [if_pos h]
      have b := (i6 p (u.1 0) h (Nat.le_refl _)).2
      show (-(u.2.2.1 (p + 8) (u.1 0)).toInt).natAbs ≤ 9
      omega
    · rw [if_neg h]; decide
  obtain ⟨k, AN, Y, r1, r2, r3, r4, r5, r6⟩ := ss_run (L0 := vL X0) i2 6 0 0 u.2.1 X0 (by omega) ⟨Nat.zero_le _, fun r h => absurd h (Nat.not_lt_zero _), fun r s _ h => absurd h (Nat.not_lt_zero _), fun r h => absurd h (Nat.not_lt_zero _), fun r h => absurd h (Nat.not_lt_zero _), fun a r _ h => absurd h (Nat.not_lt_zero _), fun r _ _ p h => absurd h (Nat.not_lt_zero _)⟩ RG.rfl (fun r _ hr p hp => bR r hr p hp) (fun r h => absurd h (Nat.not_lt_zero _))
  have hdz : dz (u.1 0) (fun r j => vL Y r (3 + j)) = 1 ∨ dz (u.1 0) (fun r j => vL Y r (3 + j)) = -1 := by
    have h1 : dz (u.1 0) (fun r j => vL X0 r (3 + j)) = 1 := by
      rw [dz_congr (N := fun r j => if j = r then 1 else 0) i2 (fun r c hr hc => by
        rw [eR r (3 + c) hr (by omega), if_neg (by omega)]
        by_cases e : c = r
        · rw [if_pos (by omega), if_pos e]
        · rw [if_neg (by omega), if_neg e])]
      obtain h | h | h : u.1 0 = 1 ∨ u.1 0 = 2 ∨ u.1 0 = 3 := by omega
      all_goals rw [h]; simp [dz]
    have h2 := r3.2.2
    omega
  obtain rfl : k = u.1 0 := by
    have hle := r2.1
    refine Nat.le_antisymm hle (Nat.le_of_not_lt (fun hlt => ?_))
    have h0 := dz_row0 (a := k) (M := fun r j => vL Y r (3 + j)) i2 hlt (fun c hc => r2.2.2.2.2.2.2 k (Nat.le_refl _) hlt (3 + c) (by omega))
    rw [h0] at hdz
    omega
  have hBE : bE (u.1 0) ≤ 34534508054743611 := by
    obtain h | h | h : u.1 0 = 1 ∨ u.1 0 = 2 ∨ u.1 0 = 3 := by omega
    all_goals rw [h]; decide
  have eT2 : ∀ p, p < 6 → vL Y 3 p = vL X0 3 p := fun p hp => r3.2.1 3 p hp (by omega)
  obtain ⟨t1, t2, t3⟩ := tg_run (AN := AN) (E := 34534508054743611) (T0 := vL X0 3) i2 (by decide) (u.1 0) 0 0 Y (by omega) (by
    obtain h | h | h : u.1 0 = 1 ∨ u.1 0 = 2 ∨ u.1 0 = 3 := by omega
    all_goals rw [h]; decide) r2 (fun i hi p hp => by have := r4 i hi p hp; omega) (fun p hp => by rw [eT2 p hp]; have := bT p hp; omega) (fun i _ hi => by rw [eT2 _ (r2.2.1 i hi)]; have := bT _ (r2.2.1 i hi); omega) (fun i h => absurd h (Nat.not_lt_zero _)) (fun w _ => dt_congr 6 0 (fun j _ hj => eT2 j (by omega)))
  have e1 : (S9 u).1 = AN := by
    show (spn (u.1 0) u.2.1 (spfill (u.1 0) (u.1 1) u.2.2.1 (lbeg (u.1 0) u.2.2.2))).1 = AN
    rw [← hX0]; unfold spn; rw [r1]
  have e2 : (S9 u).2 = fo (fun r X => lles AN 3 r X) (u.1 0) 0 Y := by
    show (spn (u.1 0) u.2.1 (spfill (u.1 0) (u.1 1) u.2.2.1 (lbeg (u.1 0) u.2.2.2))).2 = _
    rw [← hX0]; unfold spn; rw [r1]
  rw [e1, e2]
  obtain ⟨Z, hZ⟩ : ∃ Z, Z = fo (fun r X => lles AN 3 r X) (u.1 0) 0 Y := ⟨_, rfl⟩
  rw [← hZ] at t1 t2 t3 ⊢
  -- functionals
  have w1 : ∀ p, p < u.1 1 → ∀ r, r < u.1 0 → dt (vL Y r) (wF (u.1 0) p (aU u p)) 6 0 = 0 := fun p hp => r3.1 _ (fun r hr => by
    rw [dt_wF i1 i2 (by omega), eR r p hr (by omega), if_pos hp, dt_cx (y := fun t => if t = r then 1 else 0) _ _ (fun j _ hj => by
      rw [eR r (3 + j) hr (by omega), if_neg (by omega)]
      by_cases e : j = r
      · rw [if_pos (by omega), if_pos e]
      · rw [if_neg (by omega), if_neg e]), dt_sgl _ _ (Nat.zero_le _) (by omega)]
    omega)
  have w2 : ∀ p, (u.1 1 ≤ p ∧ p < 3) ∨ (3 + u.1 0 ≤ p ∧ p < 6) → ∀ r, r < u.1 0 → dt (vL Y r) (fun t => if t = p then 1 else 0) 6 0 = 0 := fun p hp => r3.1 _ (fun r hr => by
    rw [dt_sgl 6 0 (Nat.zero_le _) (by omega), eR r p hr (by omega), if_neg (by omega), if_neg (by omega)]; rfl)
  have z1 : ∀ r p, r < u.1 0 → p < 6 → vL Z r p = vL Y r p := fun r p hr hp => t1 r p hp hr
  have zdz : dz (u.1 0) (fun r j => vL Z r (3 + j)) = dz (u.1 0) (fun r j => vL Y r (3 + j)) := dz_congr i2 (fun r c hr hc => z1 r (3 + c) hr (by omega))
  obtain ⟨a1, a2, a3, a4, a5, a6, a7⟩ := r2
  refine ⟨⟨a1, a2, a3, fun i hi => by rw [z1 i _ hi (a2 i hi)]; exact a4 i hi, fun i hi p hp => by rw [z1 i p hi (by have := a2 i hi; omega)]; exact a5 i hi p hp, fun a i hai hi => by rw [z1 a _ (by omega) (a2 i hi), z1 i _ hi (a2 i hi)]; exact a6 a i hai hi, fun i h1 h2 => absurd h2 (by omega)⟩, fun r hr => ⟨fun p hp => ?_, fun p hp1 hp2 => ?_, fun j hj1 hj2 => ?_⟩, ?_, fun r hr => ?_, ⟨fun p hp => ?_, fun p hp1 hp2 => ?_, fun j hj1 hj2 => ?_⟩, r5, fun r hr => ?_⟩
  · have h := w1 p hp r hr
    rw [dt_wF i1 i2 (by omega)] at h
    rw [z1 r p hr (by omega), dt_cx (y := fun j => vL Y r (3 + j)) _ _ (fun j _ hj => z1 r (3 + j) hr (by omega))]
    omega
  · have h := w2 p (.inl ⟨hp1, hp2⟩) r hr
    rw [dt_sgl 6 0 (Nat.zero_le _) (by omega)] at h
    rw [z1 r p hr (by omega)]
    omega
  · have h := w2 (3 + j) (.inr ⟨by omega, by omega⟩) r hr
    rw [dt_sgl 6 0 (Nat.zero_le _) (by omega)] at h
    rw [z1 r (3 + j) hr (by omega)]
    omega
  · rw [zdz]; exact hdz
  · rw [z1 r _ hr (a2 r hr)]; exact t2 r hr
  · have h := t3 _ (w1 p hp)
    rw [dt_wF i1 i2 (by omega), dt_wF i1 i2 (by omega), eT p (by omega), if_pos hp, dt_zero (x := fun j => vL X0 3 (3 + j)) _ _ (fun j _ hj => by rw [eT _ (by omega), if_neg (by omega)])] at h
    omega
  · have h := t3 _ (w2 p (.inl ⟨hp1, hp2⟩))
    rw [dt_sgl 6 0 (Nat.zero_le _) (by omega), dt_sgl 6 0 (Nat.zero_le _) (by omega), eT p (by omega), if_neg (by omega)] at h
    omega
  · have h := t3 _ (w2 (3 + j) (.inr ⟨by omega, by omega⟩))
    rw [dt_sgl 6 0 (Nat.zero_le _) (by omega), dt_sgl 6 0 (Nat.zero_le _) (by omega), eT _ (by omega), if_neg (by omega)] at h
    omega
  · rcases r6 r with h | h
    · rw [h]; exact i7 r hr
    · exact h
