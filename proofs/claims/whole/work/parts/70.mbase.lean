/-! Model's base is one in triangular form. -/
theorem dt_snoc {f x : Nat → Int} : ∀ (n i : Nat), dt f x (n + 1) i = dt f x n i + f (i + n) * x (i + n)
  | 0, i => by simp only [dt, Nat.add_zero]; omega
  | n + 1, i => by
    have h := dt_snoc (f := f) (x := x) n (i + 1)
    rw [show i + (n + 1) = i + 1 + n by omega]
    have e1 : dt f x (n + 1 + 1) i = f i * x i + dt f x (n + 1) (i + 1) := rfl
    have e2 : dt f x (n + 1) i = f i * x i + dt f x n (i + 1) := rfl
    rw [e1, e2, h]
    omega
abbrev lR (v : MS) (r : Nat) : Nat := (lk9 v).2.1 3 r
theorem ka_iff {u : TS} {v : MS} (hI : Inv u v) (y : Nat → Int) : kA u y ↔ ∀ r, r < (E9 u).1 → dt (aU u (lR v r)) y (u.1 0) 0 = 0 := by
  obtain ⟨h1, h2, h3, h4, h5, hB⟩ := eq_pack hI
  obtain ⟨g1, g2, g3, g4, ⟨g5, g6⟩, g7, g8⟩ := lk_pack hI
  have hd3 : (E9 u).1 ≤ 3 := by have := h1.2.1; have := hI.1.2.1; omega
  constructor
  · exact fun h r hr => h _ (g5 r hr)
  · intro h
    have ex : ∀ f, dt f (fun j => if j < u.1 0 then y j else 0) (u.1 0 + 1) 0 = dt f y (u.1 0) 0 := fun f => by
      rw [dt_snoc, Nat.zero_add, if_neg (Nat.lt_irrefl _), dt_cx (y := y) _ _ (fun j _ hj => if_pos (by omega))]
      omega
    have hk := rs_hom hd3 h1 h2 g6 g5 (fun j => if j < u.1 0 then y j else 0) (if_neg (Nat.lt_irrefl _)) (fun r hr => by rw [ex]; exact h r hr)
    intro p hp
    have := hk p hp
    rw [ex] at this
    exact this
theorem HB.congr {u : TS} {s : Nat} {β β' : Nat → Nat} {b b' : Nat → Nat → Int} (h : HB (u.1 0) s β b (kA u)) (hβ : ∀ k, k < s → β' k = β k) (hb : ∀ k, k < s → ∀ j, j < u.1 0 → b' k j = b k j) : HB (u.1 0) s β' b' (kA u) := by
  obtain ⟨a1, a2, a3, a4, a5, a6, a7⟩ := h
  refine ⟨fun k hk => by rw [hβ k hk]; exact a1 k hk, fun r t hrt ht => by rw [hβ r (by omega), hβ t ht]; exact a2 r t hrt ht, fun k hk => by rw [hβ k hk, hb k hk _ (a1 k hk)]; exact a3 k hk, fun k hk j hj => ?_, fun a k hak hk => by rw [hβ k hk, hb a (by omega) _ (a1 k hk), hb k hk _ (a1 k hk)]; exact a5 a k hak hk, fun k hk p hp => ?_, fun y hy => ?_⟩
  · rw [hβ k hk] at hj
    have := a1 k hk
    rw [hb k hk j (by omega)]; exact a4 k hk j hj
  · rw [dt_cx (y := b k) _ _ (fun j _ hj => hb k hk j (by omega))]
    exact a6 k hk p hp
  · obtain ⟨κ, hκ⟩ := a7 y hy
    refine ⟨κ, fun j hj => ?_⟩
    rw [hκ j hj]
    exact dt_congr _ _ (fun k _ hk => (hb k (by omega) j hj).symm)
/-- three numbers without a common divisor -/
def Prm3 (x y z : Int) : Prop := ∀ c d : Int, c ∣ d * x → c ∣ d * y → c ∣ d * z → c ∣ d
theorem gcd_p3 {x y z x' y' z' g : Int} (hg : g = (Int.gcd x (Int.gcd y z : Int) : Int) ∨ g = -(Int.gcd x (Int.gcd y z : Int) : Int)) (h0 : g ≠ 0) (hx : x = g * x') (hy : y = g * y') (hz : z = g * z') : Prm3 x' y' z' := by
  intro c d h1 h2 h3
  have k1 : c * g ∣ d * x := by
    obtain ⟨t, ht⟩ := h1
    exact ⟨t, by rw [hx]; grind⟩
  have k2 : c * g ∣ d * y := by
    obtain ⟨t, ht⟩ := h2
    exact ⟨t, by rw [hy]; grind⟩
  have k3 : c * g ∣ d * z := by
    obtain ⟨t, ht⟩ := h3
    exact ⟨t, by rw [hz]; grind⟩
  have k4 := Int.dvd_coe_gcd k2 k3
  rw [Int.gcd_mul_left] at k4
  have k5 : c * g ∣ d * (Int.gcd y z : Int) := by
    have : ((d.natAbs * Int.gcd y z : Nat) : Int) = d.natAbs * (Int.gcd y z : Int) := by push_cast; rfl
    rw [this] at k4
    rcases Int.natAbs_eq d with e | e
    · rw [e]; exact k4
    · rw [e, Int.neg_mul]; exact Int.dvd_neg.mpr k4
  have k6 := Int.dvd_coe_gcd k1 k5
  rw [Int.gcd_mul_left] at k6
  have k7 : c * g ∣ d * g := by
    have : ((d.natAbs * Int.gcd x (Int.gcd y z : Int) : Nat) : Int) = d.natAbs * (Int.gcd x (Int.gcd y z : Int) : Int) := by push_cast; rfl
    rw [this] at k6
    have k8 : c * g ∣ (d.natAbs : Int) * g := by
      rcases hg with hg | hg
      · rw [← hg] at k6; exact k6
      · have : (Int.gcd x (Int.gcd y z : Int) : Int) = -g := by omega
        rw [this, Int.mul_neg] at k6
        exact Int.dvd_neg.mp k6
    rcases Int.natAbs_eq d with e | e
    · rw [e]; exact k8
    · rw [e, Int.neg_mul]; exact Int.dvd_neg.mpr k8
  exact Int.dvd_of_mul_dvd_mul_right h0 k7
theorem lnG_int {x y z : Int64} (hx : -9223372036854775808 < x.toInt) (hy : -9223372036854775808 < y.toInt) (hz : -9223372036854775808 < z.toInt) : (lnG x y z).toInt = (Int.gcd x.toInt (Int.gcd y.toInt z.toInt : Int) : Int) ∧ okD y z ∧ okD x (dv64 y z) := by
  have e1 := dv_gcd hy hz
  have h1 : -9223372036854775808 < (dv64 y z).toInt := by rw [e1]; omega
  refine ⟨?_, okD_all hy hz, okD_all hx h1⟩
  unfold lnG
  rw [dv_gcd hx h1, e1]
theorem g3_dvd {x y z : Int} : (Int.gcd x (Int.gcd y z : Int) : Int) ∣ x ∧ (Int.gcd x (Int.gcd y z : Int) : Int) ∣ y ∧ (Int.gcd x (Int.gcd y z : Int) : Int) ∣ z :=
  ⟨Int.gcd_dvd_left .., Int.dvd_trans (Int.gcd_dvd_right ..) (Int.gcd_dvd_left ..), Int.dvd_trans (Int.gcd_dvd_right ..) (Int.gcd_dvd_right ..)⟩
theorem g3_pos {x y z : Int} (h : ¬ (x = 0 ∧ y = 0 ∧ z = 0)) : (0 : Int) < (Int.gcd x (Int.gcd y z : Int) : Int) := by
  have h1 : Int.gcd x (Int.gcd y z : Int) ≠ 0 := by
    intro e
    obtain ⟨h1, h2⟩ := Int.gcd_eq_zero_iff.mp e
    have h2 : Int.gcd y z = 0 := by omega
    obtain ⟨h3, h4⟩ := Int.gcd_eq_zero_iff.mp h2
    exact h ⟨h1, h3, h4⟩
  omega
theorem ex_div {x h : Int64} (hx : -9223372036854775808 < x.toInt) (hd : h.toInt ∣ x.toInt) : x.toInt = h.toInt * (x / h).toInt := by
  rw [t_div hx, tdiv_dvd hd]
  exact (Int.mul_ediv_cancel' hd).symm
theorem lnH_int {x y z : Int64} (hx : -9223372036854775808 < x.toInt) (hy : -9223372036854775808 < y.toInt) (hz : -9223372036854775808 < z.toInt) (h0 : ¬ (x.toInt = 0 ∧ y.toInt = 0 ∧ z.toInt = 0)) : okLn x y z ∧ (lnH x y z).toInt ≠ 0 ∧ x.toInt = (lnH x y z).toInt * (x / lnH x y z).toInt ∧ y.toInt = (lnH x y z).toInt * (y / lnH x y z).toInt ∧ z.toInt = (lnH x y z).toInt * (z / lnH x y z).toInt ∧ Prm3 (x / lnH x y z).toInt (y / lnH x y z).toInt (z / lnH x y z).toInt ∧ (0 < (x / lnH x y z).toInt ∨ ((x / lnH x y z).toInt = 0 ∧ 0 < (y / lnH x y z).toInt) ∨ ((x / lnH x y z).toInt = 0 ∧ (y / lnH x y z).toInt = 0 ∧ 0 < (z / lnH x y z).toInt)) := by
  obtain ⟨e, o1, o2⟩ := lnG_int hx hy hz
  have hp := g3_pos h0
  obtain ⟨d1, d2, d3⟩ := g3_dvd (x := x.toInt) (y := y.toInt) (z := z.toInt)
  have hH : ((lnH x y z).toInt = (Int.gcd x.toInt (Int.gcd y.toInt z.toInt : Int) : Int) ∧ ¬ (lnS x y z).toInt < 0) ∨ ((lnH x y z).toInt = -(Int.gcd x.toInt (Int.gcd y.toInt z.toInt : Int) : Int) ∧ (lnS x y z).toInt < 0) := by
    unfold lnH
    by_cases h : lnS x y z < 0
    · rw [if_pos h, t_neg (by rw [e]; omega), e]
      rw [i64l, z64] at h
      exact .inr ⟨rfl, h⟩
    · rw [if_neg h, e]
      rw [i64l, z64] at h
      exact .inl ⟨rfl, h⟩
  have hS : (x.toInt ≠ 0 ∧ (lnS x y z).toInt = x.toInt) ∨ (x.toInt = 0 ∧ y.toInt ≠ 0 ∧ (lnS x y z).toInt = y.toInt) ∨ (x.toInt = 0 ∧ y.toInt = 0 ∧ (lnS x y z).toInt = z.toInt) := by
    unfold lnS
    by_cases h1 : x = 0
    · have h1' : x.toInt = 0 := by rw [h1]; rfl
      by_cases h2 : y = 0
      · have h2' : y.toInt = 0 := by rw [h2]; rfl
        rw [if_neg (fun h => h h1), if_neg (fun h => h h2)]
        exact .inr (.inr ⟨h1', h2', rfl⟩)
      · have h2' : y.toInt ≠ 0 := fun h => h2 (Int64.toInt_inj.mp (h.trans z64.symm))
        rw [if_neg (fun h => h h1), if_pos h2]
        exact .inr (.inl ⟨h1', h2', rfl⟩)
    · have h1' : x.toInt ≠ 0 := fun h => h1 (Int64.toInt_inj.mp (h.trans z64.symm))
      rw [if_pos h1]
      exact .inl ⟨h1', rfl⟩
  obtain ⟨h, hh⟩ : ∃ h, h = lnH x y z := ⟨_, rfl⟩
  have hne : h.toInt ≠ 0 := by rw [hh]; omega
  have dv : ∀ t : Int, (Int.gcd x.toInt (Int.gcd y.toInt z.toInt : Int) : Int) ∣ t → h.toInt ∣ t := by
    intro t ht
    rw [hh]
    rcases hH with ⟨a, _⟩ | ⟨a, _⟩
    · rw [a]; exact ht
    · rw [a]; exact Int.neg_dvd.mpr ht
  have ex := ex_div hx (dv _ d1)
  have ey := ex_div hy (dv _ d2)
  have ez := ex_div hz (dv _ d3)
  refine ⟨⟨o1, o2, ?_⟩, ?_⟩
  · intro h'
    rw [← hh] at h'
    exact hne (by rw [h']; rfl)
  · rw [← hh] at hH ⊢
    refine ⟨hne, ex, ey, ez, gcd_p3 (hH.imp And.left And.left) hne ex ey ez, ?_⟩
    have sg : ∀ t t' : Int, t = h.toInt * t' → t ≠ 0 → (t < 0 ↔ h.toInt < 0) → 0 < t' := by
      intro t t' e1 e2 e3
      rcases Int.lt_trichotomy t' 0 with q | q | q
      · exfalso
        by_cases hneg : h.toInt < 0
        · have := Int.mul_pos_of_neg_of_neg hneg q
          omega
        · have := Int.mul_neg_of_pos_of_neg (show 0 < h.toInt by omega) q
          omega
      · rw [q, Int.mul_zero] at e1; omega
      · exact q
    have hneg : h.toInt < 0 ↔ (lnS x y z).toInt < 0 := by omega
    rcases hS with ⟨q1, q2⟩ | ⟨q1, q2, q3⟩ | ⟨q1, q2, q3⟩
    · exact .inl (sg _ _ ex q1 (by omega))
    · refine .inr (.inl ⟨?_, sg _ _ ey q2 (by omega)⟩)
      rw [q1] at ex
      rcases Int.mul_eq_zero.mp ex.symm with q | q
      · exact absurd q hne
      · exact q
    · refine .inr (.inr ⟨?_, ?_, sg _ _ ez (by omega) (by omega)⟩)
      · rw [q1] at ex
        rcases Int.mul_eq_zero.mp ex.symm with q | q
        · exact absurd q hne
        · exact q
      · rw [q2] at ey
        rcases Int.mul_eq_zero.mp ey.symm with q | q
        · exact absurd q hne
        · exact q
theorem memb_at (k : Nat) (x y z : Int64) (X : Nat → Nat → Int64) : memb k x y z X 9 (3 * k + 0) = x ∧ memb k x y z X 9 (3 * k + 1) = y ∧ memb k x y z X 9 (3 * k + 2) = z ∧ ∀ a b, (a ≠ 9 ∨ b < 3 * k ∨ 3 * k + 3 ≤ b) → memb k x y z X a b = X a b := by
  unfold memb
  refine ⟨?_, ?_, ?_, fun a b h => ?_⟩
  · rw [up2_n (by omega), up2_n (by omega), Nat.add_zero, up2_s]
  · rw [up2_n (by omega), up2_s]
  · rw [up2_s]
  · rw [up2_n (by omega), up2_n (by omega), up2_n (by omega)]
theorem bg_at {X : Nat → Nat → Int64} {k β : Nat} (hβ : β < 3) (h1 : (X 9 (3 * k + β)).toInt ≠ 0) (h2 : ∀ j, j < β → (X 9 (3 * k + j)).toInt = 0) : fnd (fun j => ¬ X 9 (3 * k + j) = 0) 3 0 = some β := by
  cases hf : fnd (fun j => ¬ X 9 (3 * k + j) = 0) 3 0 with
  | none =>
    have := fnd_none hf β (Nat.zero_le _) (by omega)
    exact absurd (by rw [Decidable.not_not.mp this]; rfl) h1
  | some c =>
    obtain ⟨_, g2, g3, g4⟩ := fnd_some hf
    rcases Nat.lt_trichotomy c β with h | h | h
    · exact absurd (Int64.toInt_inj.mp ((h2 c h).trans z64.symm)) g3
    · rw [h]
    · have := g4 β (Nat.zero_le _) h
      exact absurd (by rw [Decidable.not_not.mp this]; rfl) h1
/-- a base in Model's numbers -/
def FB (u : TS) (s : Nat) (β : Nat → Nat) (X : Nat → Nat → Int64) : Prop := s ≤ 3 ∧ HB (u.1 0) s β (fun k j => (X 9 (3 * k + j)).toInt) (kA u) ∧ (∀ k, k < s → fnd (fun j => ¬ X 9 (3 * k + j) = 0) 3 0 = some (β k)) ∧ ∀ k, k < s → ∀ j, j < 3 → (X 9 (3 * k + j)).toInt.natAbs ≤ 162
theorem fb_lead {u : TS} {s : Nat} {β : Nat → Nat} {X : Nat → Nat → Int64} (hn : u.1 0 ≤ 3) (h : HB (u.1 0) s β (fun k j => (X 9 (3 * k + j)).toInt) (kA u)) : ∀ k, k < s → fnd (fun j => ¬ X 9 (3 * k + j) = 0) 3 0 = some (β k) := fun k hk =>
  bg_at (by have := h.1 k hk; omega) (by have h2 := h.2.2.1 k hk; have h2 : 0 < (X 9 (3 * k + β k)).toInt := h2; omega) (fun j hj => h.2.2.2.1 k hk j hj)
theorem hb_one {u : TS} (hn : u.1 0 ≤ 3) {m0 m1 m2 : Int} {b : Nat → Nat → Int} (e0 : b 0 0 = m0) (e1 : b 0 1 = m1) (e2 : b 0 2 = m2) (hn1 : 2 ≤ u.1 0) (hP : Prm3 m0 m1 m2) (hpos : 0 < m0 ∨ (m0 = 0 ∧ 0 < m1) ∨ (m0 = 0 ∧ m1 = 0 ∧ 0 < m2)) (hm2 : u.1 0 = 2 → m2 = 0) (hK : kA u (b 0)) (hprop : ∀ y, kA u y → ∃ y2 : Int, (u.1 0 = 3 → y2 = y 2) ∧ y 0 * m1 = y 1 * m0 ∧ y 0 * m2 = y2 * m0 ∧ y 1 * m2 = y2 * m1) : ∃ β : Nat → Nat, HB (u.1 0) 1 β b (kA u) := by
  have gen : ∀ β : Nat, β < u.1 0 → 0 < b 0 β → (∀ j, j < β → b 0 j = 0) → (∀ y, kA u y → ∃ t : Int, ∀ j, j < u.1 0 → y j = b 0 j * t) → HB (u.1 0) 1 (fun _ => β) b (kA u) := by
    intro β h1 h2 h3 h4
    refine ⟨fun k hk => h1, fun r t hrt ht => by omega, fun k hk => ?_, fun k hk j hj => ?_, fun a k hak hk => by omega, fun k hk => ?_, fun y hy => ?_⟩
    · obtain rfl : k = 0 := by omega
      exact h2
    · obtain rfl : k = 0 := by omega
      exact h3 j hj
    · obtain rfl : k = 0 := by omega
      exact hK
    · obtain ⟨t, ht⟩ := h4 y hy
      refine ⟨fun _ => t, fun j hj => ?_⟩
      rw [ht j hj]
      simp only [dt]
      omega
  have canc : ∀ (a x y : Int), a ≠ 0 → a * x = a * y → x = y := fun a x y ha h => Int.eq_of_mul_eq_mul_left ha h
  have fin : ∀ (y : Nat → Int) (t : Int), (y 0 = m0 * t) → (y 1 = m1 * t) → (u.1 0 = 3 → y 2 = m2 * t) → ∀ j, j < u.1 0 → y j = b 0 j * t := by
    intro y t h0 h1 h2 j hj
    obtain rfl | rfl | rfl : j = 0 ∨ j = 1 ∨ j = 2 := by omega
    · rw [e0]; exact h0
    · rw [e1]; exact h1
    · rw [e2]; exact h2 (by omega)
  rcases hpos with h | ⟨h0, h⟩ | ⟨h0, h1, h⟩
  · refine ⟨_, gen 0 (by omega) (by rw [e0]; exact h) (fun j hj => absurd hj (by omega)) (fun y hy => ?_)⟩
    obtain ⟨y2, g1, g2, g3, g4⟩ := hprop y hy
    obtain ⟨t, ht⟩ := hP m0 (y 0) ⟨y 0, Int.mul_comm _ _⟩ ⟨y 1, by rw [g2, Int.mul_comm]⟩ ⟨y2, by rw [g3, Int.mul_comm]⟩
    refine ⟨t, fin y t ht (canc m0 _ _ (by omega) (by rw [Int.mul_comm, ← g2, ht]; grind)) (fun h3 => canc m0 _ _ (by omega) (by rw [← g1 h3, Int.mul_comm, ← g3, ht]; grind))⟩
  · refine ⟨_, gen 1 (by omega) (by rw [e1]; exact h) (fun j hj => by
      obtain rfl : j = 0 := by omega
      rw [e0]; exact h0) (fun y hy => ?_)⟩
    obtain ⟨y2, g1, g2, g3, g4⟩ := hprop y hy
    obtain ⟨t, ht⟩ := hP m1 (y 1) ⟨y 0, by rw [← g2, Int.mul_comm]⟩ ⟨y 1, Int.mul_comm _ _⟩ ⟨y2, by rw [g4, Int.mul_comm]⟩
    refine ⟨t, fin y t ?_ ht (fun h3 => canc m1 _ _ (by omega) (by rw [← g1 h3, Int.mul_comm, ← g4, ht]; grind))⟩
    rw [h0, Int.mul_zero] at g2
    rw [h0, Int.zero_mul]
    rcases Int.mul_eq_zero.mp g2 with q | q
    · exact q
    · omega
  · have hn3 : u.1 0 = 3 := by
      by_cases hh : u.1 0 = 2
      · have := hm2 hh; omega
      · omega
    refine ⟨_, gen 2 (by omega) (by rw [e2]; exact h) (fun j hj => by
      obtain rfl | rfl : j = 0 ∨ j = 1 := by omega
      · rw [e0]; exact h0
      · rw [e1]; exact h1) (fun y hy => ?_)⟩
    obtain ⟨y2, g1, g2, g3, g4⟩ := hprop y hy
    rw [h0, Int.mul_zero] at g3
    rw [h1, Int.mul_zero] at g4
    have y0 : y 0 = 0 := by
      rcases Int.mul_eq_zero.mp g3 with q | q
      · exact q
      · omega
    have y1 : y 1 = 0 := by
      rcases Int.mul_eq_zero.mp g4 with q | q
      · exact q
      · omega
    obtain ⟨t, ht⟩ := hP m2 (y 2) (by rw [h0, Int.mul_zero]; exact Int.dvd_zero _) (by rw [h1, Int.mul_zero]; exact Int.dvd_zero _) ⟨y 2, Int.mul_comm _ _⟩
    exact ⟨t, fin y t (by rw [y0, h0]; omega) (by rw [y1, h1]; omega) (fun _ => ht)⟩
theorem abs_div {x h m : Int} {B : Nat} (e : x = h * m) (h0 : h ≠ 0) (hb : x.natAbs ≤ B) : m.natAbs ≤ B := by
  have h1 : x.natAbs = h.natAbs * m.natAbs := by rw [e, Int.natAbs_mul]
  have h2 : 1 ≤ h.natAbs := Int.natAbs_pos.mpr h0
  have h3 : m.natAbs ≤ h.natAbs * m.natAbs := Nat.le_mul_of_pos_left _ h2
  omega
theorem nbr_int {u : TS} {v : MS} (hI : Inv u v) {r c : Nat} (hr : r < (E9 u).1) (hc : c < u.1 0) : (nbr (lk9 v).2.1 v.2.2.2.1 r c).toInt = aU u (lR v r) c ∧ -9 ≤ aU u (lR v r) c ∧ aU u (lR v r) c ≤ 9 := by
  obtain ⟨h1, h2, h3, h4, h5, hB⟩ := eq_pack hI
  obtain ⟨g1, g2, g3, g4, ⟨g5, g6⟩, g7, g8⟩ := lk_pack hI
  unfold nbr
  rw [t32_64, hB.1 _ _ (g5 r hr) hc]
  exact ⟨rfl, hB.2.2 _ _ (g5 r hr) (by omega)⟩
theorem fb_0 {u : TS} {v : MS} (hI : Inv u v) (hd : (E9 u).1 = 0) (AL : Nat → Nat → Int64) : FB u (u.1 0) (fun k => k) (fo (fun k X => memb k (if k = 0 then 1 else 0) (if k = 1 then 1 else 0) (if k = 2 then 1 else 0) X) (u.1 0) 0 AL) := by
  have at_ : ∀ (m i : Nat) (X : Nat → Nat → Int64) (k j : Nat), k < 3 → j < 3 → i + m ≤ 3 → (fo (fun k X => memb k (if k = 0 then 1 else 0) (if k = 1 then 1 else 0) (if k = 2 then 1 else 0) X) m i X 9 (3 * k + j)) = if i ≤ k ∧ k < i + m then (if j = k then 1 else 0) else X 9 (3 * k + j) := by
    intro m
    induction m with
    | zero => intro i X k j _ _ _; rw [fo_0, if_neg (by omega)]
    | succ m ih =>
      intro i X k j hk hj hi
      obtain ⟨c0, c1, c2, c3⟩ := memb_at i (if i = 0 then 1 else 0) (if i = 1 then 1 else 0) (if i = 2 then 1 else 0) X
      rw [fo_s, ih (i + 1) _ k j hk hj (by omega)]
      by_cases h : i + 1 ≤ k ∧ k < i + 1 + m
      · rw [if_pos h, if_pos (show i ≤ k ∧ k < i + (m + 1) by omega)]
      · rw [if_neg h]
        by_cases e : k = i
        · subst e
          rw [if_pos (show k ≤ k ∧ k < k + (m + 1) by omega)]
          obtain rfl | rfl | rfl : j = 0 ∨ j = 1 ∨ j = 2 := by omega
          · rw [c0]; by_cases e : k = 0
            · rw [if_pos e, if_pos e.symm]
            · rw [if_neg e, if_neg (fun h => e h.symm)]
          · rw [c1]; by_cases e : k = 1
            · rw [if_pos e, if_pos e.symm]
            · rw [if_neg e, if_neg (fun h => e h.symm)]
          · rw [c2]; by_cases e : k = 2
            · rw [if_pos e, if_pos e.symm]
            · rw [if_neg e, if_neg (fun h => e h.symm)]
        · rw [if_neg (show ¬ (i ≤ k ∧ k < i + (m + 1)) by omega), c3 9 _ (.inr (by omega))]
  obtain ⟨X, hX⟩ : ∃ X, X = fo (fun k X => memb k (if k = 0 then 1 else 0) (if k = 1 then 1 else 0) (if k = 2 then 1 else 0) X) (u.1 0) 0 AL := ⟨_, rfl⟩
  have hn := hI.1.2.1
  have e : ∀ k j, k < u.1 0 → j < 3 → (X 9 (3 * k + j)).toInt = if j = k then 1 else 0 := fun k j hk hj => by
    rw [hX, at_ _ _ _ k j (by omega) hj (by omega), if_pos (by omega)]
    by_cases h : j = k
    · rw [if_pos h, if_pos h, o64]
    · rw [if_neg h, if_neg h, z64]
  rw [← hX]
  have hb : HB (u.1 0) (u.1 0) (fun k => k) (fun k j => (X 9 (3 * k + j)).toInt) (kA u) := by
    refine ⟨fun k hk => hk, fun r t hrt _ => hrt, fun k hk => ?_, fun k hk j hj => ?_, fun a k hak hk => ?_, fun k hk => ?_, fun y hy => ?_⟩
    · show 0 < (X 9 (3 * k + k)).toInt
      rw [e k k hk (by omega), if_pos rfl]; omega
    · have hj : j < k := hj
      show (X 9 (3 * k + j)).toInt = 0
      rw [e k j hk (by omega), if_neg (by omega)]
    · show 0 ≤ (X 9 (3 * a + k)).toInt ∧ (X 9 (3 * a + k)).toInt < (X 9 (3 * k + k)).toInt
      rw [e a k (by omega) (by omega), e k k hk (by omega), if_neg (by omega), if_pos rfl]; omega
    · exact (ka_iff hI _).mpr (fun r hr => by omega)
    · refine ⟨y, fun j hj => ?_⟩
      rw [dt_f1 (k := j) _ _ (Nat.zero_le _) (by omega) (fun k _ hk hkj => by
        show (X 9 (3 * k + j)).toInt = 0
        rw [e k j (by omega) (by omega), if_neg (by omega)])]
      show y j = (X 9 (3 * j + j)).toInt * y j
      rw [e j j hj (by omega), if_pos rfl]
      omega
  refine ⟨hn, hb, fb_lead hn hb, fun k hk j hj => ?_⟩
  rw [e k j hk hj]
  by_cases h : j = k
  · rw [if_pos h]; decide
  · rw [if_neg h]; decide
theorem fb_n {u : TS} {v : MS} (hI : Inv u v) (hd : (E9 u).1 = u.1 0) (AL : Nat → Nat → Int64) : FB u 0 (fun k => k) AL := by
  obtain ⟨h1, h2, h3, h4, h5, hB⟩ := eq_pack hI
  obtain ⟨g1, g2, g3, g4, ⟨g5, g6⟩, g7, g8⟩ := lk_pack hI
  have hn := hI.1.2.1
  have hdec : ∀ c, c < (E9 u).1 → (E9 u).2.1 5 c = c := by
    intro c hc
    have a3 := h1.2.2.1
    have a4 := h1.2.2.2.1
    have ge := dec_ge a4 c hc
    obtain h | h | h : u.1 0 = 1 ∨ u.1 0 = 2 ∨ u.1 0 = 3 := by have := hI.1.1; omega
    · have := a3 c hc; omega
    · have := a3 c hc
      by_cases e : c = 1
      · omega
      · have q1 := a4 0 1 (by omega) (by omega)
        have q2 := a3 1 (by omega)
        obtain rfl : c = 0 := by omega
        omega
    · have := a3 c hc
      have q1 := a4 0 1 (by omega) (by omega)
      have q2 := a4 1 2 (by omega) (by omega)
      have q3 := a3 2 (by omega)
      obtain rfl | rfl | rfl : c = 0 ∨ c = 1 ∨ c = 2 := by omega
      · omega
      · omega
      · omega
  refine ⟨by omega, ⟨fun k hk => absurd hk (Nat.not_lt_zero _), fun r t _ ht => absurd ht (Nat.not_lt_zero _), fun k hk => absurd hk (Nat.not_lt_zero _), fun k hk => absurd hk (Nat.not_lt_zero _), fun a k _ hk => absurd hk (Nat.not_lt_zero _), fun k hk => absurd hk (Nat.not_lt_zero _), fun y hy => ⟨fun _ => 0, fun j hj => ?_⟩⟩, fun k hk => absurd hk (Nat.not_lt_zero _), fun k hk => absurd hk (Nat.not_lt_zero _)⟩
  have hy := (ka_iff hI y).mp hy
  have hu := dz_unique (y := y) (by omega) g6 (fun r hr => by
    have h := hy r hr
    rw [← hd] at h
    rw [← h]
    exact dt_congr _ _ (fun c _ hc => by show aU u _ ((E9 u).2.1 5 c) = _; rw [hdec c (by omega)]))
  show y j = 0
  exact hu j (by omega)
theorem fb_2 {u : TS} {v : MS} (hI : Inv u v) (hn2 : u.1 0 = 2) (hd : (E9 u).1 = 1) (AL : Nat → Nat → Int64) : okLn (nbr (lk9 v).2.1 v.2.2.2.1 0 1) (-nbr (lk9 v).2.1 v.2.2.2.1 0 0) 0 ∧ ∃ β, FB u 1 β (memb 0 (nbr (lk9 v).2.1 v.2.2.2.1 0 1 / lnH (nbr (lk9 v).2.1 v.2.2.2.1 0 1) (-nbr (lk9 v).2.1 v.2.2.2.1 0 0) 0) (-nbr (lk9 v).2.1 v.2.2.2.1 0 0 / lnH (nbr (lk9 v).2.1 v.2.2.2.1 0 1) (-nbr (lk9 v).2.1 v.2.2.2.1 0 0) 0) (0 / lnH (nbr (lk9 v).2.1 v.2.2.2.1 0 1) (-nbr (lk9 v).2.1 v.2.2.2.1 0 0) 0) AL) := by
  obtain ⟨g1, g2, g3, g4, ⟨g5, g6⟩, g7, g8⟩ := lk_pack hI
  obtain ⟨h1, _⟩ := eq_pack hI
  obtain ⟨p0, l0, u0⟩ := nbr_int hI (r := 0) (c := 0) (by omega) (by omega)
  obtain ⟨p1, l1, u1⟩ := nbr_int hI (r := 0) (c := 1) (by omega) (by omega)
  have n0 : (-nbr (lk9 v).2.1 v.2.2.2.1 0 0).toInt = -aU u (lR v 0) 0 := by rw [t_neg (by rw [p0]; omega), p0]
  have hne : ¬ (aU u (lR v 0) 1 = 0 ∧ -aU u (lR v 0) 0 = 0 ∧ (0 : Int) = 0) := by
    rintro ⟨q1, q2, _⟩
    refine g6 ?_
    rw [hd, dz_1]
    have := h1.2.2.1 0 (by omega)
    obtain e | e : (E9 u).2.1 5 0 = 0 ∨ (E9 u).2.1 5 0 = 1 := by omega
    · rw [e]; show aU u (lR v 0) 0 = 0; omega
    · rw [e]; exact q1
  obtain ⟨x, hx⟩ : ∃ x, x = nbr (lk9 v).2.1 v.2.2.2.1 0 1 := ⟨_, rfl⟩
  obtain ⟨y, hy⟩ : ∃ y, y = -nbr (lk9 v).2.1 v.2.2.2.1 0 0 := ⟨_, rfl⟩
  rw [← hx] at p1 ⊢
  rw [← hy] at n0 ⊢
  obtain ⟨o, h0, ex, ey, ez, hP, hpos⟩ := lnH_int (x := x) (y := y) (z := 0) (by rw [p1]; omega) (by rw [n0]; omega) (by decide) (by rw [p1, n0, z64]; exact hne)
  refine ⟨o, ?_⟩
  obtain ⟨c0, c1, c2, c3⟩ := memb_at 0 (x / lnH x y 0) (y / lnH x y 0) (0 / lnH x y 0) AL
  rw [p1] at ex
  rw [n0] at ey
  rw [z64] at ez
  have m2 : ((0 : Int64) / lnH x y 0).toInt = 0 := by
    rcases Int.mul_eq_zero.mp ez.symm with q | q
    · exact absurd q h0
    · exact q
  obtain ⟨X, hX⟩ : ∃ X, X = memb 0 (x / lnH x y 0) (y / lnH x y 0) (0 / lnH x y 0) AL := ⟨_, rfl⟩
  rw [← hX] at c0 c1 c2 ⊢
  have hn := hI.1.2.1
  have ka2 : ∀ y : Nat → Int, kA u y ↔ aU u (lR v 0) 0 * y 0 + aU u (lR v 0) 1 * y 1 = 0 := fun y => by
    rw [ka_iff hI, hd, hn2]
    constructor
    · intro h; have := h 0 (by omega); simp only [dt, Nat.zero_add, Nat.reduceAdd] at this; omega
    · intro h r hr; obtain rfl : r = 0 := by omega
      simp only [dt, Nat.zero_add, Nat.reduceAdd]; omega
  have hpr : ∀ w, kA u w → w 0 * (y / lnH x y 0).toInt = w 1 * (x / lnH x y 0).toInt := fun w hw => by
    have hw := (ka2 w).mp hw
    have : (lnH x y 0).toInt * (w 0 * (y / lnH x y 0).toInt) = (lnH x y 0).toInt * (w 1 * (x / lnH x y 0).toInt) := by grind
    exact Int.eq_of_mul_eq_mul_left h0 this
  obtain ⟨β, hb⟩ := hb_one (u := u) (b := fun k j => (X 9 (3 * k + j)).toInt) hn (m0 := (x / lnH x y 0).toInt) (m1 := (y / lnH x y 0).toInt) (m2 := ((0 : Int64) / lnH x y 0).toInt) (by show (X 9 (3 * 0 + 0)).toInt = _; rw [c0]) (by show (X 9 (3 * 0 + 1)).toInt = _; rw [c1]) (by show (X 9 (3 * 0 + 2)).toInt = _; rw [c2]) (by omega) hP hpos (fun _ => m2) ((ka2 _).mpr (by
      show aU u (lR v 0) 0 * (X 9 (3 * 0 + 0)).toInt + aU u (lR v 0) 1 * (X 9 (3 * 0 + 1)).toInt = 0
      rw [c0, c1]
      have : (lnH x y 0).toInt * (aU u (lR v 0) 0 * (x / lnH x y 0).toInt + aU u (lR v 0) 1 * (y / lnH x y 0).toInt) = 0 := by grind
      rcases Int.mul_eq_zero.mp this with q | q
      · exact absurd q h0
      · exact q)) (fun w hw => ⟨0, fun h => by omega, hpr w hw, by rw [m2]; omega, by rw [m2]; omega⟩)
  · refine ⟨β, by omega, hb, fb_lead hn hb, fun k hk j hj => ?_⟩
    obtain rfl : k = 0 := by omega
    obtain rfl | rfl | rfl : j = 0 ∨ j = 1 ∨ j = 2 := by omega
    · rw [c0]; exact abs_div ex h0 (by omega)
    · rw [c1]; exact abs_div ey h0 (by omega)
    · rw [c2, m2]; decide
theorem fb_3 {u : TS} {v : MS} (hI : Inv u v) (hn3 : u.1 0 = 3) (hd : (E9 u).1 = 2) (AL : Nat → Nat → Int64) : okLn (crs (lk9 v).2.1 v.2.2.2.1 1 2) (crs (lk9 v).2.1 v.2.2.2.1 2 0) (crs (lk9 v).2.1 v.2.2.2.1 0 1) ∧ ∃ β, FB u 1 β (memb 0 (crs (lk9 v).2.1 v.2.2.2.1 1 2 / lnH (crs (lk9 v).2.1 v.2.2.2.1 1 2) (crs (lk9 v).2.1 v.2.2.2.1 2 0) (crs (lk9 v).2.1 v.2.2.2.1 0 1)) (crs (lk9 v).2.1 v.2.2.2.1 2 0 / lnH (crs (lk9 v).2.1 v.2.2.2.1 1 2) (crs (lk9 v).2.1 v.2.2.2.1 2 0) (crs (lk9 v).2.1 v.2.2.2.1 0 1)) (crs (lk9 v).2.1 v.2.2.2.1 0 1 / lnH (crs (lk9 v).2.1 v.2.2.2.1 1 2) (crs (lk9 v).2.1 v.2.2.2.1 2 0) (crs (lk9 v).2.1 v.2.2.2.1 0 1)) AL) := by
  obtain ⟨g1, g2, g3, g4, ⟨g5, g6⟩, g7, g8⟩ := lk_pack hI
  obtain ⟨h1, _⟩ := eq_pack hI
  have cr : ∀ i j, i < 3 → j < 3 → (crs (lk9 v).2.1 v.2.2.2.1 i j).toInt = aU u (lR v 0) i * aU u (lR v 1) j - aU u (lR v 0) j * aU u (lR v 1) i ∧ -162 ≤ aU u (lR v 0) i * aU u (lR v 1) j - aU u (lR v 0) j * aU u (lR v 1) i ∧ aU u (lR v 0) i * aU u (lR v 1) j - aU u (lR v 0) j * aU u (lR v 1) i ≤ 162 := by
    intro i j hi hj
    obtain ⟨a1, a2, a3⟩ := nbr_int hI (r := 0) (c := i) (by omega) (by omega)
    obtain ⟨b1, b2, b3⟩ := nbr_int hI (r := 1) (c := j) (by omega) (by omega)
    obtain ⟨c1, c2, c3⟩ := nbr_int hI (r := 0) (c := j) (by omega) (by omega)
    obtain ⟨d1, d2, d3⟩ := nbr_int hI (r := 1) (c := i) (by omega) (by omega)
    have q1 := ab_mul a2 a3 b2 b3
    have q2 := ab_mul c2 c3 d2 d3
    have m1 : (nbr (lk9 v).2.1 v.2.2.2.1 0 i * nbr (lk9 v).2.1 v.2.2.2.1 1 j).toInt = aU u (lR v 0) i * aU u (lR v 1) j := by rw [t_mul (by rw [a1, b1]; omega) (by rw [a1, b1]; omega), a1, b1]
    have m2 : (nbr (lk9 v).2.1 v.2.2.2.1 0 j * nbr (lk9 v).2.1 v.2.2.2.1 1 i).toInt = aU u (lR v 0) j * aU u (lR v 1) i := by rw [t_mul (by rw [c1, d1]; omega) (by rw [c1, d1]; omega), c1, d1]
    unfold crs
    rw [t_sub (by rw [m1, m2]; omega) (by rw [m1, m2]; omega), m1, m2]
    omega
  obtain ⟨p0, l0, u0⟩ := cr 1 2 (by omega) (by omega)
  obtain ⟨p1, l1, u1⟩ := cr 2 0 (by omega) (by omega)
  obtain ⟨p2, l2, u2⟩ := cr 0 1 (by omega) (by omega)
  have hdec : ((E9 u).2.1 5 0 = 0 ∧ (E9 u).2.1 5 1 = 1) ∨ ((E9 u).2.1 5 0 = 0 ∧ (E9 u).2.1 5 1 = 2) ∨ ((E9 u).2.1 5 0 = 1 ∧ (E9 u).2.1 5 1 = 2) := by
    have q1 := h1.2.2.2.1 0 1 (by omega) (by omega)
    have q2 := h1.2.2.1 1 (by omega)
    omega
  obtain ⟨x, hx⟩ : ∃ x, x = crs (lk9 v).2.1 v.2.2.2.1 1 2 := ⟨_, rfl⟩
  obtain ⟨y, hy⟩ : ∃ y, y = crs (lk9 v).2.1 v.2.2.2.1 2 0 := ⟨_, rfl⟩
  obtain ⟨z, hz⟩ : ∃ z, z = crs (lk9 v).2.1 v.2.2.2.1 0 1 := ⟨_, rfl⟩
  rw [← hx] at p0 ⊢
  rw [← hy] at p1 ⊢
  rw [← hz] at p2 ⊢
  have g6 : dz (E9 u).1 (fun r c => aU u (lR v r) ((E9 u).2.1 5 c)) ≠ 0 := g6
  rw [hd, dz_2] at g6
  obtain ⟨a0, ha0⟩ : ∃ a, a = aU u (lR v 0) 0 := ⟨_, rfl⟩
  obtain ⟨a1, ha1⟩ : ∃ a, a = aU u (lR v 0) 1 := ⟨_, rfl⟩
  obtain ⟨a2, ha2⟩ : ∃ a, a = aU u (lR v 0) 2 := ⟨_, rfl⟩
  obtain ⟨b0, hb0⟩ : ∃ a, a = aU u (lR v 1) 0 := ⟨_, rfl⟩
  obtain ⟨b1, hb1⟩ : ∃ a, a = aU u (lR v 1) 1 := ⟨_, rfl⟩
  obtain ⟨b2, hb2⟩ : ∃ a, a = aU u (lR v 1) 2 := ⟨_, rfl⟩
  have ka3 : ∀ y : Nat → Int, kA u y ↔ a0 * y 0 + a1 * y 1 + a2 * y 2 = 0 ∧ b0 * y 0 + b1 * y 1 + b2 * y 2 = 0 := fun y => by
    rw [ka_iff hI, hd, hn3, ha0, ha1, ha2, hb0, hb1, hb2]
    constructor
    · intro h; have q1 := h 0 (by omega); have q2 := h 1 (by omega); simp only [dt, Nat.zero_add, Nat.reduceAdd] at q1 q2; omega
    · intro h r hr
      obtain rfl | rfl : r = 0 ∨ r = 1 := by omega
      all_goals simp only [dt, Nat.zero_add, Nat.reduceAdd]; omega
  have hne : ¬ (x.toInt = 0 ∧ y.toInt = 0 ∧ z.toInt = 0) := by
    rintro ⟨q1, q2, q3⟩
    rw [p0] at q1
    rw [p1] at q2
    rw [p2] at q3
    refine g6 ?_
    rcases hdec with ⟨e1, e2⟩ | ⟨e1, e2⟩ | ⟨e1, e2⟩
    all_goals rw [e1, e2]
    · exact q3
    · omega
    · exact q1
  rw [← ha1, ← ha2, ← hb1, ← hb2] at p0
  rw [← ha2, ← ha0, ← hb2, ← hb0] at p1
  rw [← ha0, ← ha1, ← hb0, ← hb1] at p2
  have bx : x.toInt.natAbs ≤ 162 := by rw [p0, ha1, ha2, hb1, hb2]; omega
  have by' : y.toInt.natAbs ≤ 162 := by rw [p1, ha2, ha0, hb2, hb0]; omega
  have bz' : z.toInt.natAbs ≤ 162 := by rw [p2, ha0, ha1, hb0, hb1]; omega
  obtain ⟨o, h0, ex, ey, ez, hP, hpos⟩ := lnH_int (x := x) (y := y) (z := z) (by omega) (by omega) (by omega) hne
  refine ⟨o, ?_⟩
  obtain ⟨c0, c1, c2, c3⟩ := memb_at 0 (x / lnH x y z) (y / lnH x y z) (z / lnH x y z) AL
  obtain ⟨X, hX⟩ : ∃ X, X = memb 0 (x / lnH x y z) (y / lnH x y z) (z / lnH x y z) AL := ⟨_, rfl⟩
  rw [← hX] at c0 c1 c2 ⊢
  have hn := hI.1.2.1
  obtain ⟨h, hh⟩ : ∃ h, h = (lnH x y z).toInt := ⟨_, rfl⟩
  obtain ⟨m0, hm0⟩ : ∃ m, m = (x / lnH x y z).toInt := ⟨_, rfl⟩
  obtain ⟨m1, hm1⟩ : ∃ m, m = (y / lnH x y z).toInt := ⟨_, rfl⟩
  obtain ⟨m2, hm2⟩ : ∃ m, m = (z / lnH x y z).toInt := ⟨_, rfl⟩
  rw [← hh, ← hm0] at ex
  rw [← hh, ← hm1] at ey
  rw [← hh, ← hm2] at ez
  rw [← hh] at h0
  rw [← hm0, ← hm1, ← hm2] at hP hpos
  have canc : ∀ t : Int, h * t = 0 → t = 0 := fun t ht => by
    rcases Int.mul_eq_zero.mp ht with q | q
    · exact absurd q h0
    · exact q
  have hpr : ∀ w, kA u w → w 0 * m1 = w 1 * m0 ∧ w 0 * m2 = w 2 * m0 ∧ w 1 * m2 = w 2 * m1 := fun w hw => by
    obtain ⟨w1, w2⟩ := (ka3 w).mp hw
    have k1 : w 0 * y.toInt = w 1 * x.toInt := by rw [p0, p1]; grind
    have k2 : w 0 * z.toInt = w 2 * x.toInt := by rw [p0, p2]; grind
    have k3 : w 1 * z.toInt = w 2 * y.toInt := by rw [p1, p2]; grind
    rw [ex, ey] at k1
    rw [ex, ez] at k2
    rw [ey, ez] at k3
    refine ⟨?_, ?_, ?_⟩
    · have := canc (w 0 * m1 - w 1 * m0) (by grind); omega
    · have := canc (w 0 * m2 - w 2 * m0) (by grind); omega
    · have := canc (w 1 * m2 - w 2 * m1) (by grind); omega
  obtain ⟨β, hb⟩ := hb_one (u := u) (b := fun k j => (X 9 (3 * k + j)).toInt) hn (m0 := m0) (m1 := m1) (m2 := m2) (by show (X 9 (3 * 0 + 0)).toInt = _; rw [c0, hm0]) (by show (X 9 (3 * 0 + 1)).toInt = _; rw [c1, hm1]) (by show (X 9 (3 * 0 + 2)).toInt = _; rw [c2, hm2]) (by omega) hP hpos (fun h => by omega) ((ka3 _).mpr (by
      show a0 * (X 9 (3 * 0 + 0)).toInt + a1 * (X 9 (3 * 0 + 1)).toInt + a2 * (X 9 (3 * 0 + 2)).toInt = 0 ∧ b0 * (X 9 (3 * 0 + 0)).toInt + b1 * (X 9 (3 * 0 + 1)).toInt + b2 * (X 9 (3 * 0 + 2)).toInt = 0
      rw [c0, c1, c2, ← hm0, ← hm1, ← hm2]
      exact ⟨canc _ (by grind), canc _ (by grind)⟩)) (fun w hw => ⟨w 2, fun _ => rfl, hpr w hw⟩)
  · refine ⟨β, by omega, hb, fb_lead hn hb, fun k hk j hj => ?_⟩
    obtain rfl : k = 0 := by omega
    obtain rfl | rfl | rfl : j = 0 ∨ j = 1 ∨ j = 2 := by omega
    · rw [c0, ← hm0]; exact abs_div ex h0 bx
    · rw [c1, ← hm1]; exact abs_div ey h0 by'
    · rw [c2, ← hm2]; exact abs_div ez h0 bz'
