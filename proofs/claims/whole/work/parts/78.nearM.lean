/-! Model's nearest. -/
theorem sq_gen {q rk : Nat} {G : Nat → Nat → Int64} (hk : rk ≤ 3) : ∀ (m i : Nat) (X : Nat → Nat → Int64) (a b : Nat), fo (fun g X => fo (fun r Y => up2 Y q (3 * g + r) (G g r)) rk 0 X) m i X a b = if a = q ∧ i ≤ b / 3 ∧ b / 3 < i + m ∧ b % 3 < rk then G (b / 3) (b % 3) else X a b
  | 0, i, X, a, b => by rw [fo_0, if_neg (by omega)]
  | m + 1, i, X, a, b => by
    rw [fo_s, sq_gen hk m (i + 1), fo_sh (g := fun r => G i r)]
    by_cases h : a = q ∧ i + 1 ≤ b / 3 ∧ b / 3 < i + 1 + m ∧ b % 3 < rk
    · rw [if_pos h, if_pos (by omega)]
    · rw [if_neg h]
      by_cases h2 : a = q ∧ 3 * i + 0 ≤ b ∧ b < 3 * i + 0 + rk
      · rw [if_pos h2, if_pos (by omega), show b / 3 = i by omega, show b % 3 = b - 3 * i by omega]
      · rw [if_neg h2, if_neg (by omega)]
theorem acc_run {a b : Nat} {U T : Nat → (Nat → Nat → Int64) → Int64} {F G : Nat → Int} {α β : Int} : ∀ (m i : Nat) (X : Nat → Nat → Int64) (Z : Int), (∀ g X', i ≤ g → g < i + m → (∀ x y, (x ≠ a ∨ y ≠ b) → X' x y = X x y) → (U g X').toInt = F g ∧ (T g X').toInt = G g) → (∀ g, i ≤ g → g < i + m → (-α ≤ F g ∧ F g ≤ α) ∧ -β ≤ G g ∧ G g ≤ β) → -Z ≤ (X a b).toInt → (X a b).toInt ≤ Z → Z + m * (α * β) < 9223372036854775808 → 0 ≤ α * β →
    (fo (fun g X => up2 X a b (X a b + U g X * T g X)) m i X a b).toInt = (X a b).toInt + dt F G m i ∧ (-(Z + m * (α * β)) ≤ (X a b).toInt + dt F G m i ∧ (X a b).toInt + dt F G m i ≤ Z + m * (α * β)) ∧ ∀ x y, (x ≠ a ∨ y ≠ b) → fo (fun g X => up2 X a b (X a b + U g X * T g X)) m i X x y = X x y
  | 0, i, X, Z, _, _, h1, h2, _, _ => by
    have e : dt F G 0 i = 0 := rfl
    rw [e]
    exact ⟨by rw [fo_0]; omega, ⟨by simp; omega, by simp; omega⟩, fun _ _ _ => rfl⟩
  | m + 1, i, X, Z, hU, hb, h1, h2, h3, h0 => by
    obtain ⟨e1, e2⟩ := hU i X (by omega) (by omega) (fun _ _ _ => rfl)
    obtain ⟨⟨f1, f2⟩, g1, g2⟩ := hb i (by omega) (by omega)
    have p := ab_mul f1 f2 g1 g2
    have en : ((m + 1 : Nat) : Int) * (α * β) = m * (α * β) + α * β := by push_cast; grind
    rw [en] at h3 ⊢
    have hnn : 0 ≤ (m : Int) * (α * β) := Int.mul_nonneg (by omega) h0
    have m1 : (U i X * T i X).toInt = F i * G i := by rw [t_mul (by rw [e1, e2]; omega) (by rw [e1, e2]; omega), e1, e2]
    have m2 : (X a b + U i X * T i X).toInt = (X a b).toInt + F i * G i := by rw [t_add (by rw [m1]; omega) (by rw [m1]; omega), m1]
    obtain ⟨W, hW⟩ : ∃ W, W = up2 X a b (X a b + U i X * T i X) := ⟨_, rfl⟩
    have w1 : (W a b).toInt = (X a b).toInt + F i * G i := by rw [hW, up2_s, m2]
    have w2 : ∀ x y, (x ≠ a ∨ y ≠ b) → W x y = X x y := fun x y h => by rw [hW, up2_n (by omega)]
    obtain ⟨i1, i2, i3⟩ := acc_run (U := U) (T := T) (F := F) (G := G) m (i + 1) W (Z + α * β) (fun g X' h1 h2 hX' => hU g X' (by omega) (by omega) (fun x y h => by rw [hX' x y h, w2 x y h])) (fun g h1 h2 => hb g (by omega) (by omega)) (by rw [w1]; omega) (by rw [w1]; omega) (by omega) h0
    rw [fo_s]
    rw [← hW]
    simp only [dt]
    rw [w1] at i1 i2
    exact ⟨by omega, by omega, fun x y h => by rw [i3 x y h, w2 x y h]⟩
/-- products of the equations with the chosen lines -/
abbrev tU (u : TS) (v : MS) (g r : Nat) : Int := dt (aU u g) (aU u (lR v r)) (u.1 0) 0
abbrev nM (u : TS) (v : MS) (r c : Nat) : Int := dt (fun g => tU u v g r) (fun g => tU u v g c) (u.1 1) 0
abbrev nC (u : TS) (v : MS) (r : Nat) : Int := dt (fun g => tU u v g r) (fun g => aU u g (u.1 0)) (u.1 1) 0
theorem tU_bd {u : TS} {v : MS} (hI : Inv u v) {g r : Nat} (hg : g < u.1 1) (hr : r < (E9 u).1) : -243 ≤ tU u v g r ∧ tU u v g r ≤ 243 := by
  have hB := (eq_pack hI).2.2.2.2.2
  have g5 := (lk_pack hI).2.2.2.2.1.1
  have hn := hI.1.2.1
  have := dt_bd (f := aU u g) (x := aU u (lR v r)) (a := 81) (by decide) (u.1 0) 0 (fun p _ hp => by
    have a1 := hB.2.2 g p hg (by omega)
    have a2 := hB.2.2 (lR v r) p (g5 r hr) (by omega)
    have := ab_mul a1.1 a1.2 a2.1 a2.2
    omega)
  show -243 ≤ dt (aU u g) (aU u (lR v r)) (u.1 0) 0 ∧ dt (aU u g) (aU u (lR v r)) (u.1 0) 0 ≤ 243
  omega
theorem nM_bd {u : TS} {v : MS} (hI : Inv u v) {r c : Nat} (hr : r < (E9 u).1) (hc : c < (E9 u).1) : -177147 ≤ nM u v r c ∧ nM u v r c ≤ 177147 := by
  have hm := hI.1.2.2
  have := dt_bd (f := fun g => tU u v g r) (x := fun g => tU u v g c) (a := 59049) (by decide) (u.1 1) 0 (fun p _ hp => by
    have a1 := tU_bd hI (g := p) (by omega) hr
    have a2 := tU_bd hI (g := p) (by omega) hc
    have := ab_mul a1.1 a1.2 a2.1 a2.2
    show -59049 ≤ tU u v p r * tU u v p c ∧ tU u v p r * tU u v p c ≤ 59049
    omega)
  show -177147 ≤ dt (fun g => tU u v g r) (fun g => tU u v g c) (u.1 1) 0 ∧ dt (fun g => tU u v g r) (fun g => tU u v g c) (u.1 1) 0 ≤ 177147
  omega
theorem nC_bd {u : TS} {v : MS} (hI : Inv u v) {r : Nat} (hr : r < (E9 u).1) : -177147 ≤ nC u v r ∧ nC u v r ≤ 177147 := by
  have hm := hI.1.2.2
  have hB := (eq_pack hI).2.2.2.2.2
  have := dt_bd (f := fun g => tU u v g r) (x := fun g => aU u g (u.1 0)) (a := 2187) (by decide) (u.1 1) 0 (fun p _ hp => by
    have a1 := tU_bd hI (g := p) (by omega) hr
    have a2 := hB.2.2 p (u.1 0) (by omega) (Nat.le_refl _)
    have := ab_mul a1.1 a1.2 a2.1 a2.2
    show -2187 ≤ tU u v p r * aU u p (u.1 0) ∧ tU u v p r * aU u p (u.1 0) ≤ 2187
    omega)
  show -177147 ≤ dt (fun g => tU u v g r) (fun g => aU u g (u.1 0)) (u.1 1) 0 ∧ dt (fun g => tU u v g r) (fun g => aU u g (u.1 0)) (u.1 1) 0 ≤ 177147
  omega
theorem prd_int {u : TS} {v : MS} (hI : Inv u v) {g r : Nat} (hg : g < u.1 1) (hr : r < (E9 u).1) : (prd (u.1 0) v.2.2.2.1 g ((lk9 v).2.1 3 r)).toInt = tU u v g r := by
  have hB := (eq_pack hI).2.2.2.2.2
  have g5 := (lk_pack hI).2.2.2.2.1.1
  have hn := hI.1.2.1
  have := fo_dt (f := fun c => Int32.toInt64 (v.2.2.2.1 (4 * g + c))) (g := fun c => Int32.toInt64 (v.2.2.2.1 (4 * (lk9 v).2.1 3 r + c))) (F := aU u g) (G := aU u (lR v r)) (a := 9) (b := 9) (u.1 0) 0 0 0 (fun c _ hc => by
    show (Int32.toInt64 (v.2.2.2.1 (4 * g + c))).toInt = _ ∧ _
    rw [t32_64, hB.1 g c hg (by omega)]
    exact ⟨rfl, hB.2.2 g c hg (by omega)⟩) (fun c _ hc => by
    show (Int32.toInt64 (v.2.2.2.1 (4 * (lk9 v).2.1 3 r + c))).toInt = _ ∧ _
    rw [t32_64, hB.1 _ c (g5 r hr) (by omega)]
    exact ⟨rfl, hB.2.2 _ c (g5 r hr) (by omega)⟩) (by rw [z64]; omega) (by rw [z64]; omega) (by omega) (by omega)
  rw [z64, Int.zero_add] at this
  exact this.1
theorem nesq_run {u : TS} {v : MS} (hI : Inv u v) {r : Nat} (hr : r < (E9 u).1) (hd : (E9 u).1 ≤ 3) : ∀ (m c : Nat) (X : Nat → Nat → Int64), c + m = (E9 u).1 → (∀ g r, g < u.1 1 → r < (E9 u).1 → (X 14 (3 * g + r)).toInt = tU u v g r) → (∀ c', c ≤ c' → c' < c + m → (fo (fun c Y => nesq (u.1 1) r c Y) m c X 5 (3 * r + c')).toInt = nM u v r c') ∧ ∀ x y, (x ≠ 5 ∨ ¬ (3 * r + c ≤ y ∧ y < 3 * r + c + m)) → fo (fun c Y => nesq (u.1 1) r c Y) m c X x y = X x y
  | 0, c, X, _, _ => ⟨fun c' h1 h2 => absurd h2 (by omega), fun _ _ _ => rfl⟩
  | m + 1, c, X, hc, h14 => by
    have hm := hI.1.2.2
    have q := acc_run (a := 5) (b := 3 * r + c) (U := fun g X => X 14 (3 * g + r)) (T := fun g X => X 14 (3 * g + c)) (F := fun g => tU u v g r) (G := fun g => tU u v g c) (α := 243) (β := 243) (u.1 1) 0 (up2 X 5 (3 * r + c) 0) 0 (fun g X' _ hg hX' => by
      show (X' 14 (3 * g + r)).toInt = _ ∧ (X' 14 (3 * g + c)).toInt = _
      rw [hX' 14 _ (.inl (by omega)), hX' 14 _ (.inl (by omega)), up2_n (by omega), up2_n (by omega)]
      exact ⟨h14 g r (by omega) hr, h14 g c (by omega) (by omega)⟩) (fun g _ hg => ⟨tU_bd hI (by omega) hr, tU_bd hI (by omega) (by omega)⟩) (by rw [up2_s, z64]; omega) (by rw [up2_s, z64]; omega) (by omega) (by omega)
    have e : fo (fun g X => up2 X 5 (3 * r + c) (X 5 (3 * r + c) + X 14 (3 * g + r) * X 14 (3 * g + c))) (u.1 1) 0 (up2 X 5 (3 * r + c) 0) = nesq (u.1 1) r c X := rfl
    rw [e] at q
    obtain ⟨q1, _, q3⟩ := q
    rw [up2_s, z64, Int.zero_add] at q1
    obtain ⟨Y, hY⟩ : ∃ Y, Y = nesq (u.1 1) r c X := ⟨_, rfl⟩
    rw [← hY] at q1 q3
    have y2 : ∀ x y, (x ≠ 5 ∨ y ≠ 3 * r + c) → Y x y = X x y := fun x y h => by rw [q3 x y h, up2_n (by omega)]
    obtain ⟨i1, i2⟩ := nesq_run hI hr hd m (c + 1) Y (by omega) (fun g r hg hr => by rw [y2 14 _ (.inl (by omega))]; exact h14 g r hg hr)
    rw [fo_s]
    rw [← hY]
    refine ⟨fun c' h1 h2 => ?_, fun x y h => ?_⟩
    · by_cases e : c' = c
      · rw [e, i2 5 _ (.inr (by omega))]; exact q1
      · exact i1 c' (by omega) (by omega)
    · rw [i2 x y (by omega), y2 x y (by omega)]
theorem nero_run {u : TS} {v : MS} (hI : Inv u v) (hd : (E9 u).1 ≤ 3) : ∀ (m r : Nat) (X : Nat → Nat → Int64), r + m = (E9 u).1 → (∀ g r, g < u.1 1 → r < (E9 u).1 → (X 14 (3 * g + r)).toInt = tU u v g r) → (∀ r', r ≤ r' → r' < r + m → (fo (fun r X => fo (fun c Y => nesq (u.1 1) r c Y) (E9 u).1 0 (neco (u.1 1) r v.2.2.2.1 X)) m r X 6 r').toInt = nC u v r' ∧ ∀ c, c < (E9 u).1 → (fo (fun r X => fo (fun c Y => nesq (u.1 1) r c Y) (E9 u).1 0 (neco (u.1 1) r v.2.2.2.1 X)) m r X 5 (3 * r' + c)).toInt = nM u v r' c) ∧ (∀ y, y < r → fo (fun r X => fo (fun c Y => nesq (u.1 1) r c Y) (E9 u).1 0 (neco (u.1 1) r v.2.2.2.1 X)) m r X 6 y = X 6 y) ∧ (∀ y, y < 3 * r → fo (fun r X => fo (fun c Y => nesq (u.1 1) r c Y) (E9 u).1 0 (neco (u.1 1) r v.2.2.2.1 X)) m r X 5 y = X 5 y) ∧ ∀ a, a ≠ 5 → a ≠ 6 → fo (fun r X => fo (fun c Y => nesq (u.1 1) r c Y) (E9 u).1 0 (neco (u.1 1) r v.2.2.2.1 X)) m r X a = X a
  | 0, r, X, _, _ => ⟨fun c' h1 h2 => absurd h2 (by omega), fun _ _ => rfl, fun _ _ => rfl, fun _ _ _ => rfl⟩
  | m + 1, r, X, hr, h14 => by
    have hm := hI.1.2.2
    have hB := (eq_pack hI).2.2.2.2.2
    have q := acc_run (a := 6) (b := r) (U := fun g X => X 14 (3 * g + r)) (T := fun g _ => Int32.toInt64 (v.2.2.2.1 (4 * g + 3))) (F := fun g => tU u v g r) (G := fun g => aU u g (u.1 0)) (α := 243) (β := 9) (u.1 1) 0 (up2 X 6 r 0) 0 (fun g X' _ hg hX' => by
      show (X' 14 (3 * g + r)).toInt = _ ∧ (Int32.toInt64 (v.2.2.2.1 (4 * g + 3))).toInt = _
      rw [hX' 14 _ (.inl (by omega)), up2_n (by omega), t32_64, hB.2.1 g (by omega)]
      exact ⟨h14 g r (by omega) (by omega), rfl⟩) (fun g _ hg => ⟨tU_bd hI (by omega) (by omega), hB.2.2 g _ (by omega) (Nat.le_refl _)⟩) (by rw [up2_s, z64]; omega) (by rw [up2_s, z64]; omega) (by omega) (by omega)
    have e : fo (fun g X => up2 X 6 r (X 6 r + X 14 (3 * g + r) * Int32.toInt64 (v.2.2.2.1 (4 * g + 3)))) (u.1 1) 0 (up2 X 6 r 0) = neco (u.1 1) r v.2.2.2.1 X := rfl
    rw [e] at q
    obtain ⟨q1, _, q3⟩ := q
    rw [up2_s, z64, Int.zero_add] at q1
    obtain ⟨Y, hY⟩ : ∃ Y, Y = neco (u.1 1) r v.2.2.2.1 X := ⟨_, rfl⟩
    rw [← hY] at q1 q3
    have y2 : ∀ x y, (x ≠ 6 ∨ y ≠ r) → Y x y = X x y := fun x y h => by rw [q3 x y h, up2_n (by omega)]
    have y14 : ∀ g r, g < u.1 1 → r < (E9 u).1 → (Y 14 (3 * g + r)).toInt = tU u v g r := fun g r hg hr => by rw [y2 14 _ (.inl (by omega))]; exact h14 g r hg hr
    obtain ⟨s1, s2⟩ := nesq_run hI (show r < (E9 u).1 by omega) hd (E9 u).1 0 Y (by omega) y14
    obtain ⟨Z, hZ⟩ : ∃ Z, Z = fo (fun c Y => nesq (u.1 1) r c Y) (E9 u).1 0 Y := ⟨_, rfl⟩
    rw [← hZ] at s1 s2
    obtain ⟨i1, i2, i3, i4⟩ := nero_run hI hd m (r + 1) Z (by omega) (fun g r hg hr => by rw [s2 14 _ (.inl (by omega))]; exact y14 g r hg hr)
    rw [fo_s]
    rw [← hY, ← hZ]
    refine ⟨fun r' h1 h2 => ?_, fun y hy => ?_, fun y hy => ?_, fun a h5 h6 => ?_⟩
    · by_cases e : r' = r
      · rw [e]
        refine ⟨?_, fun c hc => ?_⟩
        · rw [i2 r (by omega), s2 6 r (.inl (by omega))]; exact q1
        · rw [i3 _ (by omega)]; exact s1 c (Nat.zero_le _) (by omega)
      · exact i1 r' (by omega) (by omega)
    · rw [i2 y (by omega), s2 6 y (.inl (by omega)), y2 6 y (.inr (by omega))]
    · rw [i3 y (by omega), s2 5 y (.inr (by omega)), y2 5 y (.inl (by omega))]
    · funext b
      rw [i4 a h5 h6, s2 a b (.inl h5), y2 a b (.inl h6)]
theorem dz_bd2 {k : Nat} {M : Nat → Nat → Int} {B : Int} (hk : k ≤ 2) (hB : 1 ≤ B) (h : ∀ r c, r < k → c < k → -B ≤ M r c ∧ M r c ≤ B) : -(2 * (B * B)) ≤ dz k M ∧ dz k M ≤ 2 * (B * B) := by
  have hBB : B ≤ B * B := by
    have := Int.mul_le_mul_of_nonneg_right hB (show 0 ≤ B by omega)
    omega
  obtain rfl | rfl | rfl : k = 0 ∨ k = 1 ∨ k = 2 := by omega
  · show -(2 * (B * B)) ≤ (1 : Int) ∧ (1 : Int) ≤ 2 * (B * B)
    omega
  · have := h 0 0 (by omega) (by omega)
    rw [dz_1]
    omega
  · have a := h 0 0 (by omega) (by omega)
    have b := h 0 1 (by omega) (by omega)
    have c := h 1 0 (by omega) (by omega)
    have d := h 1 1 (by omega) (by omega)
    have p1 := ab_mul a.1 a.2 d.1 d.2
    have p2 := ab_mul b.1 b.2 c.1 c.2
    rw [dz_2]
    omega
theorem neou_run {u : TS} {v : MS} (hI : Inv u v) {y : Nat → Int} {Bz : Int} (h0 : 0 ≤ Bz) (hBz : 27 * Bz < 9223372036854775808) : ∀ (m t : Nat) (X : Nat → Nat → Int64), t + m = u.1 0 → (∀ r, r < (E9 u).1 → (X 7 r).toInt = y r ∧ -Bz ≤ y r ∧ y r ≤ Bz) → (∀ j, j < 3 → t ≤ j → (X 13 j).toInt = 0) → (∀ j, t ≤ j → j < t + m → (fo (fun t X => fo (fun r Y => up2 Y 13 t (Y 13 t + nbr (lk9 v).2.1 v.2.2.2.1 r t * Y 7 r)) (E9 u).1 0 X) m t X 13 j).toInt = dt (fun r => aU u (lR v r) j) y (E9 u).1 0 ∧ -(27 * Bz) ≤ dt (fun r => aU u (lR v r) j) y (E9 u).1 0 ∧ dt (fun r => aU u (lR v r) j) y (E9 u).1 0 ≤ 27 * Bz) ∧ ∀ j, j < t → fo (fun t X => fo (fun r Y => up2 Y 13 t (Y 13 t + nbr (lk9 v).2.1 v.2.2.2.1 r t * Y 7 r)) (E9 u).1 0 X) m t X 13 j = X 13 j
  | 0, t, X, _, _, _ => ⟨fun c' h1 h2 => absurd h2 (by omega), fun _ _ => rfl⟩
  | m + 1, t, X, ht, h7, h13 => by
    have hn := hI.1.2.1
    have hdn := (eq_pack hI).1.2.1
    have q := acc_run (a := 13) (b := t) (U := fun r _ => nbr (lk9 v).2.1 v.2.2.2.1 r t) (T := fun r X => X 7 r) (F := fun r => aU u (lR v r) t) (G := y) (α := 9) (β := Bz) (E9 u).1 0 X 0 (fun r X' _ hr hX' => by
      show (nbr (lk9 v).2.1 v.2.2.2.1 r t).toInt = _ ∧ (X' 7 r).toInt = _
      rw [hX' 7 _ (.inl (by omega))]
      exact ⟨(nbr_int hI (by omega) (by omega)).1, (h7 r (by omega)).1⟩) (fun r _ hr => ⟨(nbr_int hI (by omega) (by omega)).2, (h7 r (by omega)).2⟩) (by rw [h13 t (by omega) (Nat.le_refl _)]; omega) (by rw [h13 t (by omega) (Nat.le_refl _)]; omega) (by
        obtain h | h | h | h : (E9 u).1 = 0 ∨ (E9 u).1 = 1 ∨ (E9 u).1 = 2 ∨ (E9 u).1 = 3 := by omega
        all_goals rw [h]; omega) (by omega)
    obtain ⟨q1, q2, q3⟩ := q
    rw [h13 t (by omega) (Nat.le_refl _), Int.zero_add] at q1 q2
    obtain ⟨Y, hY⟩ : ∃ Y, Y = fo (fun r Y => up2 Y 13 t (Y 13 t + nbr (lk9 v).2.1 v.2.2.2.1 r t * Y 7 r)) (E9 u).1 0 X := ⟨_, rfl⟩
    rw [← hY] at q1 q3
    obtain ⟨i1, i2⟩ := neou_run hI (y := y) h0 hBz m (t + 1) Y (by omega) (fun r hr => by rw [q3 7 r (.inl (by omega))]; exact h7 r hr) (fun j hj htj => by rw [q3 13 j (.inr (by omega))]; exact h13 j hj (by omega))
    rw [fo_s]
    rw [← hY]
    refine ⟨fun j h1 h2 => ?_, fun j hj => ?_⟩
    · by_cases e : j = t
      · rw [e, i2 t (by omega)]
        refine ⟨q1, ?_⟩
        obtain h | h | h | h : (E9 u).1 = 0 ∨ (E9 u).1 = 1 ∨ (E9 u).1 = 2 ∨ (E9 u).1 = 3 := by omega
        all_goals rw [h] at q2 ⊢; omega
      · exact i1 j (by omega) (by omega)
    · rw [i2 j (by omega), q3 13 j (.inr (by omega))]
/-- what Model's nearest is -/
def NP (u : TS) (N : Nat → Int) (D : Int) : Prop := D ≠ 0 ∧ (∀ c, c < u.1 0 → dt (fun p => aU u p c) (fun p => dt (aU u p) N (u.1 0) 0 + -D * aU u p (u.1 0)) (u.1 1) 0 = 0) ∧ ∀ y, kA u y → dt y N (u.1 0) 0 = 0
theorem np_low {u : TS} {v : MS} (hI : Inv u v) (hd2 : (E9 u).1 ≤ 2) : NP u (fun j => dt (fun r => aU u (lR v r) j) (fun c => dz (E9 u).1 (rp (nM u v) c (nC u v))) (E9 u).1 0) (dz (E9 u).1 (nM u v)) := by
  obtain ⟨h1, h2, h3, h4, h5, hB⟩ := eq_pack hI
  obtain ⟨g1, g2, g3, g4, ⟨g5, g6⟩, g7, g8⟩ := lk_pack hI
  have hd3 : (E9 u).1 ≤ 3 := by omega
  have hAN : ∀ (y : Nat → Int) (f : Nat → Int), dt f (fun j => dt (fun r => aU u (lR v r) j) y (E9 u).1 0) (u.1 0) 0 = dt (fun r => dt f (aU u (lR v r)) (u.1 0) 0) y (E9 u).1 0 := fun y f => dt_swap (f := f) (g := fun r j => aU u (lR v r) j) (k := y) (m := (E9 u).1) (u.1 0) 0
  refine ⟨fun h0 => ?_, fun c hc => ?_, fun y hy => ?_⟩
  · by_cases hd0 : (E9 u).1 = 0
    · rw [hd0] at h0
      exact absurd h0 (by show (1 : Int) ≠ 0; decide)
    · obtain ⟨y, ⟨c, hc, hyc⟩, hy⟩ := sing (by omega) h0
      have ht : dt (fun p => dt (fun c => tU u v p c) y (E9 u).1 0) (fun p => dt (fun c => tU u v p c) y (E9 u).1 0) (u.1 1) 0 = 0 := by
        have e1 := dt_swap (f := fun p => dt (fun c => tU u v p c) y (E9 u).1 0) (g := fun c p => tU u v p c) (k := y) (m := (E9 u).1) (u.1 1) 0
        rw [e1]
        refine dt_f0 _ _ (fun r _ hr => ?_)
        rw [dt_comm]
        have e2 := dt_swap (f := fun p => tU u v p r) (g := fun c p => tU u v p c) (k := y) (m := (E9 u).1) (u.1 1) 0
        rw [e2]
        exact hy r (by omega)
      have ht0 := (dt_sq (u.1 1) 0).2 ht
      have hk : kA u (fun j => dt (fun r => aU u (lR v r) j) y (E9 u).1 0) := fun p hp => by
        rw [hAN]
        exact ht0 p (Nat.zero_le _) (by omega)
      have hnn : dt (fun j => dt (fun r => aU u (lR v r) j) y (E9 u).1 0) (fun j => dt (fun r => aU u (lR v r) j) y (E9 u).1 0) (u.1 0) 0 = 0 := by
        rw [hAN]
        refine dt_f0 _ _ (fun r _ hr => ?_)
        rw [dt_comm]
        exact hk _ (g5 r (by omega))
      have hn0 := (dt_sq (u.1 0) 0).2 hnn
      have hu := dz_unique (k := (E9 u).1) (M := fun c r => aU u (lR v r) ((E9 u).2.1 5 c)) (y := y) hd3 (by
        rw [dz_tr (M := fun r c => aU u (lR v r) ((E9 u).2.1 5 c)) hd3]; exact g6) (fun c hc => hn0 _ (Nat.zero_le _) (by have := h1.2.2.1 c hc; omega)) c hc
      exact hyc hu
  · have hρ : ∀ r, r < (E9 u).1 → dt (fun p => tU u v p r) (fun p => dt (aU u p) (fun j => dt (fun r => aU u (lR v r) j) (fun c => dz (E9 u).1 (rp (nM u v) c (nC u v))) (E9 u).1 0) (u.1 0) 0 + -dz (E9 u).1 (nM u v) * aU u p (u.1 0)) (u.1 1) 0 = 0 := fun r hr => by
      have e0 : dt (fun p => tU u v p r) (fun p => dt (aU u p) (fun j => dt (fun r => aU u (lR v r) j) (fun c => dz (E9 u).1 (rp (nM u v) c (nC u v))) (E9 u).1 0) (u.1 0) 0 + -dz (E9 u).1 (nM u v) * aU u p (u.1 0)) (u.1 1) 0 = dt (fun p => tU u v p r) (fun p => 1 * dt (fun c => tU u v p c) (fun c => dz (E9 u).1 (rp (nM u v) c (nC u v))) (E9 u).1 0 + -dz (E9 u).1 (nM u v) * aU u p (u.1 0)) (u.1 1) 0 := dt_cx _ _ (fun p _ _ => by
        have e9 : dt (aU u p) (fun j => dt (fun r => aU u (lR v r) j) (fun c => dz (E9 u).1 (rp (nM u v) c (nC u v))) (E9 u).1 0) (u.1 0) 0 = dt (fun c => tU u v p c) (fun c => dz (E9 u).1 (rp (nM u v) c (nC u v))) (E9 u).1 0 := hAN _ _
        rw [e9]; omega)
      rw [e0, dt_comb]
      have e2 := dt_swap (f := fun p => tU u v p r) (g := fun c p => tU u v p c) (k := fun c => dz (E9 u).1 (rp (nM u v) c (nC u v))) (m := (E9 u).1) (u.1 1) 0
      have e3 := dz_solves (M := nM u v) (b := nC u v) hd3 r hr
      have e4 : dt (fun c => dt (fun p => tU u v p r) (fun p => tU u v p c) (u.1 1) 0) (fun c => dz (E9 u).1 (rp (nM u v) c (nC u v))) (E9 u).1 0 = nC u v r * dz (E9 u).1 (nM u v) := e3
      rw [e2, e4]
      show 1 * (nC u v r * dz (E9 u).1 (nM u v)) + -dz (E9 u).1 (nM u v) * nC u v r = 0
      rw [Int.neg_mul, Int.mul_comm (dz (E9 u).1 (nM u v))]
      omega
    obtain ⟨ρ, hρe⟩ : ∃ ρ : Nat → Int, ρ = fun p => dt (aU u p) (fun j => dt (fun r => aU u (lR v r) j) (fun c => dz (E9 u).1 (rp (nM u v) c (nC u v))) (E9 u).1 0) (u.1 0) 0 + -dz (E9 u).1 (nM u v) * aU u p (u.1 0) := ⟨_, rfl⟩
    rw [← hρe] at hρ ⊢
    have hsw : ∀ f, dt f (fun c => dt (fun p => aU u p c) ρ (u.1 1) 0) (u.1 0) 0 = dt (fun p => dt f (aU u p) (u.1 0) 0) ρ (u.1 1) 0 := fun f => dt_swap (f := f) (g := aU u) (k := ρ) (m := u.1 1) (u.1 0) 0
    have hk : kA u (fun c => dt (fun p => aU u p c) ρ (u.1 1) 0) := (ka_iff hI _).mpr (fun r hr => by
      rw [hsw, ← hρ r hr]
      exact dt_congr _ _ (fun p _ _ => dt_comm _ _))
    have hvv : dt (fun c => dt (fun p => aU u p c) ρ (u.1 1) 0) (fun c => dt (fun p => aU u p c) ρ (u.1 1) 0) (u.1 0) 0 = 0 := by
      rw [hsw]
      refine dt_f0 _ _ (fun p _ hp => ?_)
      rw [dt_comm]
      exact hk p (by omega)
    exact (dt_sq (u.1 0) 0).2 hvv c (Nat.zero_le _) (by omega)
  · rw [hAN]
    refine dt_f0 _ _ (fun r _ hr => ?_)
    rw [dt_comm]
    exact hy _ (g5 r (by omega))
theorem nr_pack {u : TS} {v : MS} (hI : Inv u v) : ∃ (N : Nat → Int) (D : Int), NP u N D ∧ (nr9 v).1.toInt = D ∧ (-62762119218 ≤ D ∧ D ≤ 62762119218) ∧ ∀ j, j < u.1 0 → ((nr9 v).2 13 j).toInt = N j ∧ -1694577218886 ≤ N j ∧ N j ≤ 1694577218886 := by
  obtain ⟨h1, h2, h3, h4, h5, hB⟩ := eq_pack hI
  obtain ⟨g1, g2, g3, g4, ⟨g5, g6⟩, g7, g8⟩ := lk_pack hI
  have hn := hI.1.2.1
  have hdn := h1.2.1
  have hd3 : (E9 u).1 ≤ 3 := by omega
  have eN : nr9 v = neF (u.1 0) (u.1 1) (E9 u).1 (lk9 v).2.1 v.2.2.2.1 (lk9 v).2.2 := by
    show neF (v.1 1) (v.1 2) (lk9 v).1 (lk9 v).2.1 v.2.2.2.1 (lk9 v).2.2 = _
    rw [hI.2.1.1, hI.2.1.2, g1]
  rw [eN]
  unfold neF
  by_cases hd : (E9 u).1 = 3
  · rw [if_pos hd]
    have hn3 : u.1 0 = 3 := by omega
    have hm3 : u.1 1 = 3 := by have := h1.1; have := hI.1.2.2; omega
    have e3 : ∀ X a b, ne3 (lk9 v).2.1 v.2.2.2.1 X a b = if a = 6 ∧ b < 3 then Int32.toInt64 (v.2.2.2.1 (4 * (lk9 v).2.1 3 b + 3)) else X a b := fun X a b => by
      unfold ne3
      rw [fo_fil (g := fun r => Int32.toInt64 (v.2.2.2.1 (4 * (lk9 v).2.1 3 r + 3)))]
      by_cases h : a = 6 ∧ b < 3
      · rw [if_pos h, if_pos (by omega)]
      · rw [if_neg h, if_neg (by omega)]
    have cr := cr_pack hI (X0 := ne3 (lk9 v).2.1 v.2.2.2.1 (ne0 (lk9 v).2.2)) (b := lB u v) (fun r hr => by
      rw [e3, if_pos (by omega), t32_64, hB.2.1 _ (g5 r hr)]
      exact ⟨rfl, hB.2.2 _ _ (g5 r hr) (Nat.le_refl _)⟩)
    have q1 := h1.2.2.2.1 0 1 (by omega) (by omega)
    have q2 := h1.2.2.2.1 1 2 (by omega) (by omega)
    have q3 := h1.2.2.1 2 (by omega)
    have hdec : ∀ c, c < 3 → (E9 u).2.1 5 c = c := lt3 (by omega) (by omega) (by omega)
    have h2c : ∀ c, c < 3 → (lk9 v).2.1 2 c = c := fun c hc => by rw [g2 c (by omega)]; exact hdec c hc
    rw [hd] at cr
    obtain ⟨⟨c1, c1l, c1u⟩, c2, _⟩ := cr
    have e13 : ∀ (X : Nat → Nat → Int64) (c : Nat), c < 3 → ne3a (lk9 v).2.1 X 13 c = X 7 c := by
      intro X c hc
      have e : ne3a (lk9 v).2.1 X = up2 (up2 (up2 X 13 ((lk9 v).2.1 2 0) (X 7 0)) 13 ((lk9 v).2.1 2 1) ((up2 X 13 ((lk9 v).2.1 2 0) (X 7 0)) 7 1)) 13 ((lk9 v).2.1 2 2) ((up2 (up2 X 13 ((lk9 v).2.1 2 0) (X 7 0)) 13 ((lk9 v).2.1 2 1) ((up2 X 13 ((lk9 v).2.1 2 0) (X 7 0)) 7 1)) 7 2) := rfl
      rw [e, h2c 0 (by omega), h2c 1 (by omega), h2c 2 (by omega)]
      obtain rfl | rfl | rfl : c = 0 ∨ c = 1 ∨ c = 2 := by omega
      · rw [up2_n (by omega), up2_n (by omega), up2_s]
      · rw [up2_n (by omega), up2_s, up2_n (by omega)]
      · rw [up2_s, up2_n (by omega), up2_n (by omega)]
    have hsolve : ∀ p, p < u.1 1 → dt (aU u p) (fun c => dz 3 (rp (lM u v) c (lB u v))) (u.1 0) 0 + -dz 3 (lM u v) * aU u p (u.1 0) = 0 := by
      have hk := rs_inh hd3 h1 h2 g6 g5 (fun i hi1 hi2 => absurd hi2 (by omega)) (fun j => if j < u.1 0 then dz 3 (rp (lM u v) j (lB u v)) else -dz 3 (lM u v)) (fun r hr => by
        rw [dt_snoc, Nat.zero_add, if_neg (Nat.lt_irrefl _), dt_cx (y := fun c => dz 3 (rp (lM u v) c (lB u v))) _ _ (fun j _ hj => if_pos (by omega))]
        have e5 := dz_solves (M := lM u v) (b := lB u v) (show 3 ≤ 3 by omega) r (by omega)
        have e6 : dt (aU u (lR v r)) (fun c => dz 3 (rp (lM u v) c (lB u v))) (u.1 0) 0 = dt (lM u v r) (fun c => dz 3 (rp (lM u v) c (lB u v))) 3 0 := by
          rw [hn3]
          exact dt_congr _ _ (fun c _ hc => by show aU u (lR v r) c = aU u (lR v r) ((E9 u).2.1 5 c); rw [hdec c (by omega)])
        show dt (aU u (lR v r)) _ _ 0 + aU u (lR v r) (u.1 0) * -dz 3 (lM u v) = 0
        rw [e6, e5, Int.mul_neg]
        show aU u (lR v r) (u.1 0) * _ + _ = 0
        omega)
      intro p hp
      have h := hk p hp
      rw [dt_snoc, Nat.zero_add, if_neg (Nat.lt_irrefl _), dt_cx (y := fun c => dz 3 (rp (lM u v) c (lB u v))) _ _ (fun j _ hj => if_pos (by omega)), Int.mul_comm (aU u p (u.1 0))] at h
      exact h
    refine ⟨fun c => dz 3 (rp (lM u v) c (lB u v)), dz 3 (lM u v), ⟨?_, fun c hc => ?_, fun y hy => ?_⟩, c1, by omega, fun j hj => ?_⟩
    · have := g6; rw [hd] at this; exact this
    · exact dt_zero _ _ (fun p _ hp => hsolve p (by omega))
    · have hy0 := (fb_n hI (by omega) (lk9 v).2.2).2.1.2.2.2.2.2.2 y hy
      obtain ⟨κ, hκ⟩ := hy0
      exact dt_f0 _ _ (fun j _ hj => by have := hκ j (by omega); exact this)
    · dsimp only
      rw [e13 _ j (by omega)]
      have := c2 j (by omega)
      exact ⟨this.1, by omega, by omega⟩
  · rw [if_neg hd]
    have hd2 : (E9 u).1 ≤ 2 := by omega
    obtain ⟨X2, hX2⟩ : ∃ X2, X2 = netu (u.1 0) (u.1 1) (E9 u).1 (lk9 v).2.1 v.2.2.2.1 (ne0 (lk9 v).2.2) := ⟨_, rfl⟩
    have at2 : ∀ a b, X2 a b = if a = 14 ∧ 0 ≤ b / 3 ∧ b / 3 < 0 + u.1 1 ∧ b % 3 < (E9 u).1 then prd (u.1 0) v.2.2.2.1 (b / 3) ((lk9 v).2.1 3 (b % 3)) else ne0 (lk9 v).2.2 a b := fun a b => by
      rw [hX2]
      exact sq_gen (G := fun g r => prd (u.1 0) v.2.2.2.1 g ((lk9 v).2.1 3 r)) hd3 _ _ _ a b
    have h14 : ∀ g r, g < u.1 1 → r < (E9 u).1 → (X2 14 (3 * g + r)).toInt = tU u v g r := fun g r hg hr => by
      rw [at2, if_pos (by omega), show (3 * g + r) / 3 = g by omega, show (3 * g + r) % 3 = r by omega]
      exact prd_int hI hg hr
    have h13 : ∀ j, j < 3 → X2 13 j = 0 := fun j hj => by
      rw [at2, if_neg (by omega)]
      unfold ne0
      rw [fo_fil (g := fun _ => (0 : Int64)), if_pos (by omega)]
    rw [← hX2]
    obtain ⟨r1, _, _, r4⟩ := nero_run hI hd3 (E9 u).1 0 X2 (by omega) h14
    obtain ⟨X3, hX3⟩ : ∃ X3, X3 = nero (u.1 1) (E9 u).1 v.2.2.2.1 X2 := ⟨_, rfl⟩
    have e3 : fo (fun r X => fo (fun c Y => nesq (u.1 1) r c Y) (E9 u).1 0 (neco (u.1 1) r v.2.2.2.1 X)) (E9 u).1 0 X2 = X3 := by rw [hX3]; rfl
    rw [e3] at r1 r4
    rw [← hX3]
    have hM : ∀ r c, r < (E9 u).1 → c < (E9 u).1 → (X3 5 (3 * r + c)).toInt = nM u v r c ∧ -177147 ≤ nM u v r c ∧ nM u v r c ≤ 177147 := fun r c hr hc => ⟨(r1 r (Nat.zero_le _) (by omega)).2 c hc, nM_bd hI hr hc⟩
    have hC : ∀ r, r < (E9 u).1 → (X3 6 r).toInt = nC u v r ∧ -177147 ≤ nC u v r ∧ nC u v r ≤ 177147 := fun r hr => ⟨(r1 r (Nat.zero_le _) (by omega)).1, nC_bd hI hr⟩
    have hdet := det_int (k := (E9 u).1) (q := X3 5) (M := nM u v) (B := 177147) hd3 (by decide) (by decide) hM
    obtain ⟨s1, s2⟩ := ssq_int (X := X3) (M := nM u v) (b := nC u v) (B := 177147) hd3 (by decide) (by decide) hM hC
    have bD := dz_bd2 (k := (E9 u).1) (M := nM u v) (B := 177147) hd2 (by decide) (fun r c hr hc => (hM r c hr hc).2)
    have bY : ∀ c, c < (E9 u).1 → -62762119218 ≤ dz (E9 u).1 (rp (nM u v) c (nC u v)) ∧ dz (E9 u).1 (rp (nM u v) c (nC u v)) ≤ 62762119218 := fun c hc => by
      have := dz_bd2 (k := (E9 u).1) (M := rp (nM u v) c (nC u v)) (B := 177147) hd2 (by decide) (fun r t hr ht => by
        show -177147 ≤ (if t = c then nC u v r else nM u v r t) ∧ (if t = c then nC u v r else nM u v r t) ≤ 177147
        by_cases e : t = c
        · rw [if_pos e]; exact (hC r hr).2
        · rw [if_neg e]; exact (hM r t hr ht).2)
      omega
    obtain ⟨o1, _⟩ := neou_run hI (y := fun c => dz (E9 u).1 (rp (nM u v) c (nC u v))) (Bz := 62762119218) (by decide) (by decide) (u.1 0) 0 (ssq (E9 u).1 X3) (by omega) (fun r hr => ⟨(s2 r hr).1, bY r hr⟩) (fun j hj _ => by
      rw [s1 13 (by omega) (by omega), r4 13 (by omega) (by omega), h13 j hj]; rfl)
    refine ⟨_, _, np_low hI hd2, hdet.1, by omega, fun j hj => ?_⟩
    have := o1 j (Nat.zero_le _) (by omega)
    exact ⟨this.1, by omega, by omega⟩
theorem sqS_in {u : TS} {v : MS} (hI : Inv u v) {X : Nat → Nat → Int64} {N : Nat → Int} (hX : ∀ j, j < u.1 0 → (X 13 j).toInt = N j ∧ -1694577218886 ≤ N j ∧ N j ≤ 1694577218886) {g : Nat} (hg : g < u.1 1) : ∀ (m i : Nat) (z : Int64) (Z : Int), i + m = u.1 0 → -Z ≤ z.toInt → z.toInt ≤ Z → Z + m * 137260754729766 < 1000000000000000000 → (fo (fun t z => z - Int32.toInt64 (v.2.2.2.1 (4 * g + 3)) * Int32.toInt64 (v.2.2.2.1 (4 * g + t)) * X 13 t) m i z).toInt = z.toInt - aU u g (u.1 0) * dt (aU u g) N m i ∧ (-(Z + m * 137260754729766) ≤ z.toInt - aU u g (u.1 0) * dt (aU u g) N m i ∧ z.toInt - aU u g (u.1 0) * dt (aU u g) N m i ≤ Z + m * 137260754729766)
  | 0, i, z, Z, _, h1, h2, _ => by
    have e : dt (aU u g) N 0 i = 0 := rfl
    rw [e, fo_0, Int.mul_zero]
    refine ⟨by omega, by simp; omega, by simp; omega⟩
  | m + 1, i, z, Z, hi, h1, h2, h3 => by
    have hB := (eq_pack hI).2.2.2.2.2
    have b1 := hB.2.2 g (u.1 0) hg (Nat.le_refl _)
    have b2 := hB.2.2 g i hg (by omega)
    obtain ⟨x1, x2, x3⟩ := hX i (by omega)
    have p1 := ab_mul b1.1 b1.2 b2.1 b2.2
    have p2 := ab_mul p1.1 p1.2 x2 x3
    have e1 : (Int32.toInt64 (v.2.2.2.1 (4 * g + 3))).toInt = aU u g (u.1 0) := by rw [t32_64, hB.2.1 g hg]
    have e2 : (Int32.toInt64 (v.2.2.2.1 (4 * g + i))).toInt = aU u g i := by rw [t32_64, hB.1 g i hg (by omega)]
    have m1 : (Int32.toInt64 (v.2.2.2.1 (4 * g + 3)) * Int32.toInt64 (v.2.2.2.1 (4 * g + i))).toInt = aU u g (u.1 0) * aU u g i := by rw [t_mul (by rw [e1, e2]; omega) (by rw [e1, e2]; omega), e1, e2]
    have m2 : (Int32.toInt64 (v.2.2.2.1 (4 * g + 3)) * Int32.toInt64 (v.2.2.2.1 (4 * g + i)) * X 13 i).toInt = aU u g (u.1 0) * aU u g i * N i := by rw [t_mul (by rw [m1, x1]; omega) (by rw [m1, x1]; omega), m1, x1]
    have en : ((m + 1 : Nat) : Int) * 137260754729766 = m * 137260754729766 + 137260754729766 := by push_cast; grind
    rw [en] at h3 ⊢
    have m3 : (z - Int32.toInt64 (v.2.2.2.1 (4 * g + 3)) * Int32.toInt64 (v.2.2.2.1 (4 * g + i)) * X 13 i).toInt = z.toInt - aU u g (u.1 0) * aU u g i * N i := by rw [t_sub (by rw [m2]; omega) (by rw [m2]; omega), m2]
    obtain ⟨i1, i2⟩ := sqS_in hI hX hg m (i + 1) _ (Z + 137260754729766) (by omega) (by rw [m3]; omega) (by rw [m3]; omega) (by omega)
    rw [fo_s, i1]
    rw [m3] at i2 ⊢
    have e5 : aU u g (u.1 0) * dt (aU u g) N (m + 1) i = aU u g (u.1 0) * aU u g i * N i + aU u g (u.1 0) * dt (aU u g) N m (i + 1) := by
      simp only [dt]; grind
    rw [e5]
    omega
theorem sqS_int {u : TS} {v : MS} (hI : Inv u v) {X : Nat → Nat → Int64} {N : Nat → Int} {be : Int64} {D : Int} (hX : ∀ j, j < u.1 0 → (X 13 j).toInt = N j ∧ -1694577218886 ≤ N j ∧ N j ≤ 1694577218886) (hD : be.toInt = D) (hD1 : -62762119218 ≤ D) (hD2 : D ≤ 62762119218) : (sqS (u.1 0) (u.1 1) v.2.2.2.1 be X).toInt = gr u (u.1 0) (u.1 0) * D - dt (gr u (u.1 0)) N (u.1 0) 0 ∧ -9000000000000000 ≤ (sqS (u.1 0) (u.1 1) v.2.2.2.1 be X).toInt := by
  have hB := (eq_pack hI).2.2.2.2.2
  have hn := hI.1.2.1
  have hm := hI.1.2.2
  have gen : ∀ (m g : Nat) (z : Int64) (Z : Int), g + m = u.1 1 → -Z ≤ z.toInt → z.toInt ≤ Z → Z + m * 500000000000000 ≤ 1500000000000000 → (fo (fun g z => fo (fun t z => z - Int32.toInt64 (v.2.2.2.1 (4 * g + 3)) * Int32.toInt64 (v.2.2.2.1 (4 * g + t)) * X 13 t) (u.1 0) 0 (z + Int32.toInt64 (v.2.2.2.1 (4 * g + 3)) * Int32.toInt64 (v.2.2.2.1 (4 * g + 3)) * be)) m g z).toInt = z.toInt + dt (fun p => aU u p (u.1 0)) (fun p => aU u p (u.1 0) * D + -1 * dt (aU u p) N (u.1 0) 0) m g ∧ -1500000000000000 ≤ (fo (fun g z => fo (fun t z => z - Int32.toInt64 (v.2.2.2.1 (4 * g + 3)) * Int32.toInt64 (v.2.2.2.1 (4 * g + t)) * X 13 t) (u.1 0) 0 (z + Int32.toInt64 (v.2.2.2.1 (4 * g + 3)) * Int32.toInt64 (v.2.2.2.1 (4 * g + 3)) * be)) m g z).toInt := by
    intro m
    induction m with
    | zero =>
      intro g z Z _ h1 h2 h3
      have e : dt (fun p => aU u p (u.1 0)) (fun p => aU u p (u.1 0) * D + -1 * dt (aU u p) N (u.1 0) 0) 0 g = 0 := rfl
      rw [fo_0, e]
      have h3 : Z ≤ 1500000000000000 := by simpa using h3
      omega
    | succ m ih =>
      intro g z Z hg h1 h2 h3
      have b1 := hB.2.2 g (u.1 0) (by omega) (Nat.le_refl _)
      have p1 := ab_mul b1.1 b1.2 b1.1 b1.2
      have p2 := ab_mul p1.1 p1.2 hD1 hD2
      have e1 : (Int32.toInt64 (v.2.2.2.1 (4 * g + 3))).toInt = aU u g (u.1 0) := by rw [t32_64, hB.2.1 g (by omega)]
      have m1 : (Int32.toInt64 (v.2.2.2.1 (4 * g + 3)) * Int32.toInt64 (v.2.2.2.1 (4 * g + 3))).toInt = aU u g (u.1 0) * aU u g (u.1 0) := by rw [t_mul (by rw [e1]; omega) (by rw [e1]; omega), e1]
      have m2 : (Int32.toInt64 (v.2.2.2.1 (4 * g + 3)) * Int32.toInt64 (v.2.2.2.1 (4 * g + 3)) * be).toInt = aU u g (u.1 0) * aU u g (u.1 0) * D := by rw [t_mul (by rw [m1, hD]; omega) (by rw [m1, hD]; omega), m1, hD]
      have en : ((m + 1 : Nat) : Int) * 500000000000000 = m * 500000000000000 + 500000000000000 := by push_cast; grind
      rw [en] at h3
      have hnn : 0 ≤ (m : Int) * 500000000000000 := by omega
      have m3 : (z + Int32.toInt64 (v.2.2.2.1 (4 * g + 3)) * Int32.toInt64 (v.2.2.2.1 (4 * g + 3)) * be).toInt = z.toInt + aU u g (u.1 0) * aU u g (u.1 0) * D := by rw [t_add (by rw [m2]; omega) (by rw [m2]; omega), m2]
      obtain ⟨i1, i2⟩ := sqS_in hI hX (show g < u.1 1 by omega) (u.1 0) 0 (z + Int32.toInt64 (v.2.2.2.1 (4 * g + 3)) * Int32.toInt64 (v.2.2.2.1 (4 * g + 3)) * be) (Z + 5083731656658) (by omega) (by rw [m3]; omega) (by rw [m3]; omega) (by omega)
      obtain ⟨j1, j2⟩ := ih (g + 1) (fo (fun t z => z - Int32.toInt64 (v.2.2.2.1 (4 * g + 3)) * Int32.toInt64 (v.2.2.2.1 (4 * g + t)) * X 13 t) (u.1 0) 0 (z + Int32.toInt64 (v.2.2.2.1 (4 * g + 3)) * Int32.toInt64 (v.2.2.2.1 (4 * g + 3)) * be)) (Z + 500000000000000) (by omega) (by rw [i1]; omega) (by rw [i1]; omega) (by omega)
      rw [fo_s]
      refine ⟨?_, j2⟩
      rw [j1, i1, m3]
      simp only [dt]
      grind
  have hq := gen (u.1 1) 0 0 0 (by omega) (by rw [z64]; omega) (by rw [z64]; omega) (by omega)
  have e : fo (fun g z => fo (fun t z => z - Int32.toInt64 (v.2.2.2.1 (4 * g + 3)) * Int32.toInt64 (v.2.2.2.1 (4 * g + t)) * X 13 t) (u.1 0) 0 (z + Int32.toInt64 (v.2.2.2.1 (4 * g + 3)) * Int32.toInt64 (v.2.2.2.1 (4 * g + 3)) * be)) (u.1 1) 0 0 = sqS (u.1 0) (u.1 1) v.2.2.2.1 be X := rfl
  rw [e, z64, Int.zero_add] at hq
  refine ⟨?_, by omega⟩
  rw [hq.1, gr_dot]
  have e2 : dt (fun p => aU u p (u.1 0)) (fun p => aU u p (u.1 0) * D + -1 * dt (aU u p) N (u.1 0) 0) (u.1 1) 0 = dt (fun p => aU u p (u.1 0)) (fun p => D * aU u p (u.1 0) + -1 * dt (aU u p) N (u.1 0) 0) (u.1 1) 0 := dt_cx _ _ (fun p _ _ => by rw [Int.mul_comm])
  rw [e2, dt_comb]
  show D * gr u (u.1 0) (u.1 0) + -1 * _ = _
  rw [Int.mul_comm D]
  omega
theorem ne_vec {u : TS} {v : MS} (hI : Inv u v) {N : Nat → Int} {D : Int} (hN : NP u N D) : ∃ x : Nat → Int, Ker (u.1 0 + 1) (u.1 0 + 1 + sM u) (vE (X9 u)) x ∧ (∀ j, j < u.1 0 → x j = N j) ∧ x (u.1 0) = gr u (u.1 0) (u.1 0) * D - dt (gr u (u.1 0)) N (u.1 0) 0 ∧ x (u.1 0 + 1) = -D := by
  obtain ⟨x1, x2⟩ := x9_at hI
  obtain ⟨hD0, hls, hbase⟩ := hN
  have hb := (sp_hb hI).2.2
  refine ⟨fun t => if t < u.1 0 then N t else if t = u.1 0 then gr u (u.1 0) (u.1 0) * D - dt (gr u (u.1 0)) N (u.1 0) 0 else -D, fun i hi => ?_, fun j hj => if_pos hj, ?_, ?_⟩
  · rw [dt_two, if_neg (Nat.lt_irrefl _), if_pos rfl, if_neg (show ¬ u.1 0 + 1 < u.1 0 by omega), if_neg (show ¬ u.1 0 + 1 = u.1 0 by omega), dt_cx (y := N) _ _ (fun j _ hj => if_pos (by omega))]
    by_cases h : i ≤ u.1 0
    · rw [dt_congr (f := gr u i) _ _ (fun c _ hc => (x1 i h).1 c (by omega)), (x1 i h).2.1, (x1 i h).2.2]
      by_cases e : i = u.1 0
      · rw [if_pos e, e, Int.mul_neg]; omega
      · rw [if_neg e]
        have h1 := hls i (by omega)
        have e1 : dt (fun p => aU u p i) (fun p => dt (aU u p) N (u.1 0) 0 + -D * aU u p (u.1 0)) (u.1 1) 0 = dt (fun p => aU u p i) (fun p => 1 * dt (aU u p) N (u.1 0) 0 + -D * aU u p (u.1 0)) (u.1 1) 0 := dt_cx _ _ (fun p _ _ => by omega)
        rw [e1, dt_comb, ← gr_dot] at h1
        have h1 : 1 * dt (gr u i) N (u.1 0) 0 + -D * gr u i (u.1 0) = 0 := h1
        rw [Int.mul_comm (gr u i (u.1 0))]
        omega
    · obtain ⟨k, hk, rfl⟩ : ∃ k, k < sM u ∧ i = u.1 0 + 1 + k := ⟨i - (u.1 0 + 1), by omega, by omega⟩
      rw [dt_congr (f := bM u k) _ _ (fun c _ hc => (x2 k hk).1 c (by omega)), (x2 k hk).2.1, (x2 k hk).2.2, hbase _ (hb.2.2.2.2.2.1 k hk)]
      omega
  · show (if u.1 0 < u.1 0 then N (u.1 0) else if u.1 0 = u.1 0 then _ else _) = _
    rw [if_neg (Nat.lt_irrefl _), if_pos rfl]
  · show (if u.1 0 + 1 < u.1 0 then N (u.1 0 + 1) else if u.1 0 + 1 = u.1 0 then _ else _) = _
    rw [if_neg (by omega), if_neg (by omega)]
theorem m_near : M_near := fun u v x q hI => by
  obtain ⟨N, D, hN, e1, ⟨d1, d2⟩, e2⟩ := nr_pack hI
  obtain ⟨w, w1, w2, w3, w4⟩ := ne_vec hI hN
  have g3 := (lk_pack hI).2.2.1
  refine ⟨fun y hy => ?_, ?_⟩
  · rw [hI.2.1.1] at hy
    obtain ⟨a1, a2, a3⟩ := e2 y hy
    exact okLow_all (by rw [a1]; omega) (by rw [e1]; omega) (by rw [e1]; exact hN.1)
  · unfold clNear neaR neaS
    rw [un_eq (n := u.1 0) hI.2.1.1 hI.1.2.1, pt_eq]
    by_cases hU : isU (u.1 0) x = true
    · rw [if_pos hU, if_pos hU]
      by_cases hq : isPt q = true
      · rw [if_pos hq, if_pos hq, if_pos ⟨hU, hq⟩]
        refine ag0 rfl ?_ (inv_tN hI rfl rfl g3)
        obtain ⟨x1, x2⟩ := (isU_iff hI.1.2.1).mp hU
        have cx := clamp_toInt x1
        obtain ⟨a1, a2, a3⟩ := e2 x.toNatClampNeg (by omega)
        have h := ne_part hI (x := w) (c := (nr9 v).2 13 x.toNatClampNeg) (d := (nr9 v).1) (t := x.toNatClampNeg) (q := q) (by omega) w1 (by rw [w2 _ (by omega), a1]) (by rw [w4, e1]) (by rw [e1]; exact hN.1) (by rw [a1]; omega) (by rw [e1]; omega)
        show ppart (N9 u).2.1 (N9 u).2.2 (N9 u).1 (u.1 0 + 1) x.toNatClampNeg q = if q = 0 then lowG (up1 (up1 v.2.1 3 (nr9 v).1) 0 (nr9 v).1) ((nr9 v).2 13 x.toNatClampNeg) (nr9 v).1 1 else lowG (up1 (up1 v.2.1 3 (nr9 v).1) 0 (nr9 v).1) ((nr9 v).2 13 x.toNatClampNeg) (nr9 v).1 2
        unfold lowG
        rw [up1_n (by omega), up1_s, up1_s]
        exact h
      · rw [if_neg hq, if_neg hq]
        exact agk (by decide) (by decide) rfl (hI.code 2)
    · rw [if_neg hU, if_neg hU]
      exact agk (by decide) (by decide) rfl (hI.code 1)
theorem m_squ : M_squ := fun u v q hI => by
  obtain ⟨N, D, hN, e1, ⟨d1, d2⟩, e2⟩ := nr_pack hI
  obtain ⟨w, w1, w2, w3, w4⟩ := ne_vec hI hN
  have g3 := (lk_pack hI).2.2.1
  have hs := sqS_int hI (X := (nr9 v).2) (be := (nr9 v).1) e2 e1 d1 d2
  have eS : squV (v.1 1) (v.1 2) v.2.2.2.1 v.2.2.1 v.2.2.2.2 = sqS (u.1 0) (u.1 1) v.2.2.2.1 (nr9 v).1 (nr9 v).2 := by
    show sqS (v.1 1) (v.1 2) v.2.2.2.1 (nr9 v).1 (nr9 v).2 = _
    rw [hI.2.1.1, hI.2.1.2]
  rw [← eS] at hs
  refine ⟨okLow_all (by omega) (by rw [e1]; omega) (by rw [e1]; exact hN.1), ?_⟩
  unfold clSqu squR squS
  rw [pt_eq]
  by_cases hq : isPt q = true
  · rw [if_pos hq, if_pos hq, if_pos hq]
    refine ag0 rfl ?_ (inv_tN hI rfl rfl g3)
    have h := ne_part hI (x := w) (c := squV (v.1 1) (v.1 2) v.2.2.2.1 v.2.2.1 v.2.2.2.2) (d := (nr9 v).1) (t := u.1 0) (q := q) (Nat.le_refl _) w1 (by rw [w3, hs.1]) (by rw [w4, e1]) (by rw [e1]; exact hN.1) (by omega) (by rw [e1]; omega)
    show ppart (N9 u).2.1 (N9 u).2.2 (N9 u).1 (u.1 0 + 1) (u.1 0) q = if q = 0 then lowG (up1 (up1 v.2.1 3 (nr9 v).1) 0 (nr9 v).1) (squV (v.1 1) (v.1 2) v.2.2.2.1 v.2.2.1 v.2.2.2.2) (nr9 v).1 1 else lowG (up1 (up1 v.2.1 3 (nr9 v).1) 0 (nr9 v).1) (squV (v.1 1) (v.1 2) v.2.2.2.1 v.2.2.1 v.2.2.2.2) (nr9 v).1 2
    unfold lowG
    rw [up1_n (by omega), up1_s, up1_s]
    exact h
  · rw [if_neg hq, if_neg hq, if_neg hq]
    exact agk (by decide) (by decide) rfl (hI.code 1)
