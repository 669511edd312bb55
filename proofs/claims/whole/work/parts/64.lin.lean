/-! Sums, kernels, Cramer's rule over the whole numbers. -/
theorem dt_comb {f x y : Nat → Int} {a b : Int} : ∀ (n i : Nat), dt f (fun t => a * x t + b * y t) n i = a * dt f x n i + b * dt f y n i
  | 0, _ => by simp only [dt]; omega
  | n + 1, i => by simp only [dt, dt_comb n (i + 1)]; grind
theorem dt_zero {f x : Nat → Int} : ∀ (n i : Nat), (∀ j, i ≤ j → j < i + n → x j = 0) → dt f x n i = 0
  | 0, _, _ => rfl
  | n + 1, i, h => by
    simp only [dt]
    rw [h i (by omega) (by omega), dt_zero n (i + 1) (fun j h1 h2 => h j (by omega) (by omega))]
    omega
theorem dt_cx {f x y : Nat → Int} : ∀ (n i : Nat), (∀ j, i ≤ j → j < i + n → x j = y j) → dt f x n i = dt f y n i
  | 0, _, _ => rfl
  | n + 1, i, h => by
    simp only [dt]
    rw [h i (by omega) (by omega), dt_cx n (i + 1) (fun j h1 h2 => h j (by omega) (by omega))]
theorem dt_sgl {f : Nat → Int} {k : Nat} {a : Int} : ∀ (n i : Nat), i ≤ k → k < i + n → dt f (fun t => if t = k then a else 0) n i = f k * a
  | 0, _, _, h => absurd h (by omega)
  | n + 1, i, h1, h2 => by
    simp only [dt]
    by_cases e : i = k
    · subst e
      rw [if_pos rfl, dt_zero n (i + 1) (fun j h1 _ => if_neg (by omega))]
      omega
    · rw [if_neg e, dt_sgl n (i + 1) (by omega) (by omega)]
      omega
/-- a sum over few columns -/
theorem dt_sup {f : Nat → Int} {dec : Nat → Nat} {N : Nat} : ∀ (d i : Nat) (y : Nat → Int), (∀ r s, i ≤ r → r < s → s < i + d → dec r ≠ dec s) → (∀ r, i ≤ r → r < i + d → dec r < N) → (∀ t, t < N → (∀ c, i ≤ c → c < i + d → t ≠ dec c) → y t = 0) → dt f y N 0 = dt (fun c => f (dec c)) (fun c => y (dec c)) d i
  | 0, i, y, _, _, h3 => by
    simp only [dt]
    exact dt_zero N 0 (fun j _ hj => h3 j (by omega) (fun c h1 h2 => absurd h2 (by omega)))
  | d + 1, i, y, h1, h2, h3 => by
    simp only [dt]
    have h := dt_sup d (i + 1) (fun t => if t = dec i then 0 else y t) (f := f) (dec := dec) (N := N) (fun r s a b c => h1 r s (by omega) b (by omega)) (fun r a b => h2 r (by omega) (by omega)) (fun t ht hc => by
      show (if t = dec i then 0 else y t) = 0
      by_cases e : t = dec i
      · rw [if_pos e]
      · rw [if_neg e]
        exact h3 t ht (fun c c1 c2 => by
          by_cases e2 : c = i
          · rw [e2]; exact e
          · exact hc c (by omega) (by omega)))
    have e1 : dt (fun c => f (dec c)) (fun c => if dec c = dec i then 0 else y (dec c)) d (i + 1) = dt (fun c => f (dec c)) (fun c => y (dec c)) d (i + 1) := dt_cx d (i + 1) (fun j a b => if_neg (fun e => h1 i j (by omega) (by omega) (by omega) e.symm))
    rw [← e1, ← h, ← dt_sgl (f := f) (k := dec i) (a := y (dec i)) N 0 (Nat.zero_le _) (by have := h2 i (by omega) (by omega); omega)]
    have e2 := dt_comb (f := f) (x := fun t => if t = dec i then y (dec i) else 0) (y := fun t => if t = dec i then 0 else y t) (a := 1) (b := 1) N 0
    have e3 : dt f y N 0 = dt f (fun t => 1 * (if t = dec i then y (dec i) else 0) + 1 * (if t = dec i then 0 else y t)) N 0 := dt_cx N 0 (fun j _ _ => by
      by_cases e : j = dec i
      · rw [if_pos e, if_pos e, e]; omega
      · rw [if_neg e, if_neg e]; omega)
    rw [e3, e2]
    omega
def dz (k : Nat) (M : Nat → Nat → Int) : Int :=
  if k = 0 then 1 else if k = 1 then M 0 0 else if k = 2 then M 0 0 * M 1 1 - M 0 1 * M 1 0
  else M 0 0 * (M 1 1 * M 2 2 - M 1 2 * M 2 1) - M 0 1 * (M 1 0 * M 2 2 - M 1 2 * M 2 0) + M 0 2 * (M 1 0 * M 2 1 - M 1 1 * M 2 0)
/-- column c of M replaced by b -/
def rp (M : Nat → Nat → Int) (c : Nat) (b : Nat → Int) : Nat → Nat → Int := fun r t => if t = c then b r else M r t
theorem dz_cramer {k : Nat} {M : Nat → Nat → Int} {y b : Nat → Int} (hk : k ≤ 3) (h : ∀ r, r < k → dt (M r) y k 0 = b r) : ∀ c, c < k → dz k M * y c = dz k (rp M c b) := by
  intro c hc
  obtain rfl | rfl | rfl : k = 1 ∨ k = 2 ∨ k = 3 := by omega
  · obtain rfl : c = 0 := by omega
    have h0 := h 0 (by omega)
    simp only [dt, dz, rp] at h0 ⊢
    grind
  · have h0 := h 0 (by omega)
    have h1 := h 1 (by omega)
    simp only [dt] at h0 h1
    obtain rfl | rfl : c = 0 ∨ c = 1 := by omega
    all_goals simp only [dz, rp]; simp; grind
  · have h0 := h 0 (by omega)
    have h1 := h 1 (by omega)
    have h2 := h 2 (by omega)
    simp only [dt] at h0 h1 h2
    obtain rfl | rfl | rfl : c = 0 ∨ c = 1 ∨ c = 2 := by omega
    all_goals simp only [dz, rp]; simp; grind
theorem dz_solves {k : Nat} {M : Nat → Nat → Int} {b : Nat → Int} (hk : k ≤ 3) : ∀ r, r < k → dt (M r) (fun c => dz k (rp M c b)) k 0 = b r * dz k M := by
  intro r hr
  obtain rfl | rfl | rfl : k = 1 ∨ k = 2 ∨ k = 3 := by omega
  · obtain rfl : r = 0 := by omega
    simp only [dt, dz, rp]; simp; grind
  · obtain rfl | rfl : r = 0 ∨ r = 1 := by omega
    all_goals simp only [dt, dz, rp]; simp; grind
  · obtain rfl | rfl | rfl : r = 0 ∨ r = 1 ∨ r = 2 := by omega
    all_goals simp only [dt, dz, rp]; simp; grind
theorem dz_b0 {k : Nat} {M : Nat → Nat → Int} {b : Nat → Int} (hk : k ≤ 3) (hb : ∀ r, r < k → b r = 0) : ∀ c, c < k → dz k (rp M c b) = 0 := by
  intro c hc
  obtain rfl | rfl | rfl : k = 1 ∨ k = 2 ∨ k = 3 := by omega
  · obtain rfl : c = 0 := by omega
    have h0 := hb 0 (by omega)
    simp only [dz, rp]; simp [h0]
  · have h0 := hb 0 (by omega)
    have h1 := hb 1 (by omega)
    obtain rfl | rfl : c = 0 ∨ c = 1 := by omega
    all_goals simp only [dz, rp]; simp [h0, h1]
  · have h0 := hb 0 (by omega)
    have h1 := hb 1 (by omega)
    have h2 := hb 2 (by omega)
    obtain rfl | rfl | rfl : c = 0 ∨ c = 1 ∨ c = 2 := by omega
    all_goals simp only [dz, rp]; simp [h0, h1, h2]
theorem dz_unique {k : Nat} {M : Nat → Nat → Int} {y : Nat → Int} (hk : k ≤ 3) (hD : dz k M ≠ 0) (h : ∀ r, r < k → dt (M r) y k 0 = 0) : ∀ c, c < k → y c = 0 := by
  intro c hc
  have h1 := dz_cramer hk (b := fun _ => 0) h c hc
  rw [dz_b0 hk (fun _ _ => rfl) c hc] at h1
  rcases Int.mul_eq_zero.mp h1 with h2 | h2
  · exact absurd h2 hD
  · exact h2
theorem dt_f0 {f x : Nat → Int} : ∀ (n i : Nat), (∀ j, i ≤ j → j < i + n → f j = 0) → dt f x n i = 0
  | 0, _, _ => rfl
  | n + 1, i, h => by
    simp only [dt]
    rw [h i (by omega) (by omega), dt_f0 n (i + 1) (fun j h1 h2 => h j (by omega) (by omega))]
    omega
theorem dt_f1 {f x : Nat → Int} {k : Nat} : ∀ (n i : Nat), i ≤ k → k < i + n → (∀ j, i ≤ j → j < i + n → j ≠ k → f j = 0) → dt f x n i = f k * x k
  | 0, _, _, h, _ => absurd h (by omega)
  | n + 1, i, h1, h2, h => by
    simp only [dt]
    by_cases e : i = k
    · subst e
      rw [dt_f0 n (i + 1) (fun j h1 h2 => h j (by omega) (by omega) (by omega))]
      omega
    · rw [h i (by omega) (by omega) e, dt_f1 n (i + 1) (by omega) (by omega) (fun j h1 h2 => h j (by omega) (by omega))]
      omega
theorem cofs {p : Nat → Int} : ∀ (d : Nat), (∀ c, c < d → 0 < p c) → ∃ (P : Int) (cf : Nat → Int), 0 < P ∧ ∀ c, c < d → cf c * p c = P
  | 0, _ => ⟨1, fun _ => 0, by omega, fun c h => absurd h (by omega)⟩
  | d + 1, h => by
    obtain ⟨P, cf, h1, h2⟩ := cofs d (fun c hc => h c (by omega))
    have hp := h d (by omega)
    refine ⟨P * p d, fun c => if c = d then P else cf c * p d, Int.mul_pos h1 hp, fun c hc => ?_⟩
    by_cases e : c = d
    · subst e
      simp
    · show (if c = d then P else cf c * p d) * p c = _
      rw [if_neg e, ← h2 c (by omega)]
      grind
/-- a kernel vector for each column that isn't decided -/
theorem ei_kv {w h q d : Nat} {dec : Nat → Nat} {V : Nat → Nat → Int} (hq : q ≤ w) (hE : EI w h q d dec V) : ∃ P : Int, 0 < P ∧ ∀ j, j ≤ w → (∀ i, d ≤ i → i < h → V i j = 0) → (∀ c, c < d → dec c ≠ j) → ∃ z : Nat → Int, Ker w h V z ∧ z j = P ∧ (∀ t, t ≠ j → (∀ c, c < d → t ≠ dec c) → z t = 0) ∧ ∀ c, c < d → V c j = 0 → z (dec c) = 0 := by
  obtain ⟨a1, a2, a3, a4, a5, a6, a7, a8⟩ := hE
  obtain ⟨P, cf, hP, hcf⟩ := cofs (p := fun c => V c (dec c)) d a5
  refine ⟨P, hP, fun j hj h0 hjd => ?_⟩
  have hinj : ∀ r s, 0 ≤ r → r < s → s < 0 + d → dec r ≠ dec s := fun r s _ h1 h2 => Nat.ne_of_lt (a4 r s h1 (by omega))
  let y : Nat → Int := fun t => match fnd (fun c => dec c = t) d 0 with
    | some c => -(cf c * V c j)
    | none => 0
  have hy1 : ∀ c, c < d → y (dec c) = -(cf c * V c j) := by
    intro c hc
    show (match fnd (fun c' => dec c' = dec c) d 0 with | some c => -(cf c * V c j) | none => 0) = _
    cases hf : fnd (fun c' => dec c' = dec c) d 0 with
    | none => exact absurd rfl (fnd_none hf c (Nat.zero_le _) (by omega))
    | some c' =>
      obtain ⟨_, g2, g3, _⟩ := fnd_some hf
      have : c' = c := by
        rcases Nat.lt_trichotomy c' c with h | h | h
        · have := a4 c' c h hc; omega
        · exact h
        · have := a4 c c' h (by omega); omega
      rw [this]
  have hy2 : ∀ t, (∀ c, c < d → t ≠ dec c) → y t = 0 := by
    intro t ht
    show (match fnd (fun c' => dec c' = t) d 0 with | some c => -(cf c * V c j) | none => 0) = _
    cases hf : fnd (fun c' => dec c' = t) d 0 with
    | none => rfl
    | some c' =>
      obtain ⟨_, g2, g3, _⟩ := fnd_some hf
      exact absurd g3.symm (ht c' (by omega))
  have hyj : y j = 0 := hy2 j (fun c hc e => hjd c hc e.symm)
  refine ⟨fun t => 1 * (if t = j then P else 0) + 1 * y t, ?_, ?_, ?_, ?_⟩
  · intro i hi
    rw [dt_comb, dt_sgl (w + 1) 0 (Nat.zero_le _) (by omega), dt_sup d 0 y hinj (fun r _ h2 => by have := a3 r (by omega); omega) (fun t _ ht => hy2 t (fun c hc => ht c (Nat.zero_le _) (by omega)))]
    by_cases hid : i < d
    · rw [dt_f1 (k := i) d 0 (Nat.zero_le _) (by omega) (fun c _ hc hci => a6 c (by omega) i hi (fun e => hci e.symm))]
      have h1 := hcf i hid
      rw [hy1 i hid, ← h1]
      grind
    · rw [dt_f0 d 0 (fun c _ hc => a6 c (by omega) i hi (by omega)), h0 i (by omega) hi]
      omega
  · simp [hyj]
  · intro t ht1 ht2
    show 1 * (if t = j then P else 0) + 1 * y t = 0
    rw [if_neg ht1, hy2 t ht2]; omega
  · intro c hc hv
    show 1 * (if dec c = j then P else 0) + 1 * y (dec c) = 0
    rw [if_neg (hjd c hc), hy1 c hc, hv]; omega
/-- what annihilates few good rows annihilates all -/
theorem rs_hom {w h d : Nat} {dec l : Nat → Nat} {V A : Nat → Nat → Int} (hd3 : d ≤ 3) (hE : EI w h w d dec V) (hK : ∀ x, Ker w h A x ↔ Ker w h V x) (hD : dz d (fun r c => A (l r) (dec c)) ≠ 0) (hl : ∀ r, r < d → l r < h) (x : Nat → Int) (hx : x w = 0) (hr : ∀ r, r < d → dt (A (l r)) x (w + 1) 0 = 0) : Ker w h A x := by
  obtain ⟨P, hP, hz⟩ := ei_kv (Nat.le_refl _) hE
  obtain ⟨a1, a2, a3, a4, a5, a6, a7, a8⟩ := hE
  have key : ∀ m, m ≤ w → ∃ y : Nat → Int, y w = 0 ∧ (∀ r, r < d → dt (A (l r)) y (w + 1) 0 = 0) ∧ (∀ t, t < m → (∀ c, c < d → t ≠ dec c) → y t = 0) ∧ (Ker w h A y → Ker w h A x) := by
    intro m
    induction m with
    | zero => exact fun _ => ⟨x, hx, hr, fun t ht => absurd ht (by omega), id⟩
    | succ m ih =>
      intro hm
      obtain ⟨y, b1, b2, b3, b4⟩ := ih (by omega)
      by_cases hf : ∀ c, c < d → dec c ≠ m
      · obtain ⟨z, z1, z2, z3, _⟩ := hz m (by omega) (fun i hi1 hi2 => a8 i hi1 hi2 m (by omega)) hf
        have z1 := (hK z).mpr z1
        have zw : z w = 0 := z3 w (by omega) (fun c hc e => by have := a3 c hc; omega)
        refine ⟨fun t => P * y t + -(y m) * z t, ?_, ?_, ?_, ?_⟩
        · show P * y w + -(y m) * z w = 0
          rw [b1, zw]; omega
        · intro r hr
          rw [dt_comb, b2 r hr, z1 (l r) (hl r hr)]
          omega
        · intro t ht htc
          show P * y t + -(y m) * z t = 0
          by_cases e : t = m
          · rw [e, z2, Int.mul_comm P, Int.neg_mul]; omega
          · rw [b3 t (by omega) htc, z3 t e htc]; omega
        · intro hk
          refine b4 (fun i hi => ?_)
          have h1 := hk i hi
          rw [dt_comb, z1 i hi] at h1
          have h2 : P * dt (A i) y (w + 1) 0 = 0 := by omega
          rcases Int.mul_eq_zero.mp h2 with h3 | h3
          · omega
          · exact h3
      · refine ⟨y, b1, b2, fun t ht htc => ?_, b4⟩
        by_cases e : t = m
        · exfalso
          refine hf (fun c hc e2 => htc c hc (by omega))
        · exact b3 t (by omega) htc
  obtain ⟨y, b1, b2, b3, b4⟩ := key w (Nat.le_refl _)
  refine b4 (fun i hi => ?_)
  have hinj : ∀ r s, 0 ≤ r → r < s → s < 0 + d → dec r ≠ dec s := fun r s _ h1 h2 => Nat.ne_of_lt (a4 r s h1 (by omega))
  have hsup : ∀ f, dt f y (w + 1) 0 = dt (fun c => f (dec c)) (fun c => y (dec c)) d 0 := fun f => dt_sup d 0 y hinj (fun r _ h2 => by have := a3 r (by omega); omega) (fun t ht htc => by
    by_cases e : t = w
    · rw [e]; exact b1
    · exact b3 t (by omega) (fun c hc => htc c (Nat.zero_le _) (by omega)))
  have h0 := dz_unique hd3 hD (y := fun c => y (dec c)) (fun r hr => by rw [← b2 r hr]; exact (hsup _).symm)
  rw [hsup]
  exact dt_zero d 0 (fun c _ hc => h0 c (by omega))
/-- the same with what the rows come to, where they agree -/
theorem rs_inh {w h d : Nat} {dec l : Nat → Nat} {V A : Nat → Nat → Int} (hd3 : d ≤ 3) (hE : EI w h w d dec V) (hK : ∀ x, Ker w h A x ↔ Ker w h V x) (hD : dz d (fun r c => A (l r) (dec c)) ≠ 0) (hl : ∀ r, r < d → l r < h) (ha : ∀ i, d ≤ i → i < h → V i w = 0) (x : Nat → Int) (hr : ∀ r, r < d → dt (A (l r)) x (w + 1) 0 = 0) : Ker w h A x := by
  obtain ⟨P, hP, hz⟩ := ei_kv (Nat.le_refl _) hE
  obtain ⟨z, z1, z2, z3, _⟩ := hz w (Nat.le_refl _) ha (fun c hc => by have := hE.2.2.1 c hc; omega)
  have z1 := (hK z).mpr z1
  have h := rs_hom hd3 hE hK hD hl (fun t => P * x t + -(x w) * z t) (by show P * x w + -(x w) * z w = 0; rw [z2, Int.mul_comm P, Int.neg_mul]; omega) (fun r hr' => by rw [dt_comb, hr r hr', z1 (l r) (hl r hr')]; omega)
  intro i hi
  have h1 := h i hi
  rw [dt_comb, z1 i hi] at h1
  have h2 : P * dt (A i) x (w + 1) 0 = 0 := by omega
  rcases Int.mul_eq_zero.mp h2 with h3 | h3
  · omega
  · exact h3
