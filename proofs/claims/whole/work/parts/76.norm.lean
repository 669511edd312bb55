/-! The elimination of the normal equations. -/
theorem dt_comm {f x : Nat → Int} : ∀ (n i : Nat), dt f x n i = dt x f n i
  | 0, _ => rfl
  | n + 1, i => by
    simp only [dt]
    rw [dt_comm n (i + 1), Int.mul_comm]
theorem dt_sq {y : Nat → Int} : ∀ (n i : Nat), 0 ≤ dt y y n i ∧ (dt y y n i = 0 → ∀ p, i ≤ p → p < i + n → y p = 0)
  | 0, i => ⟨Int.le_refl _, fun _ p h1 h2 => absurd h2 (by omega)⟩
  | n + 1, i => by
    obtain ⟨h1, h2⟩ := dt_sq (y := y) n (i + 1)
    have h3 : 0 ≤ y i * y i := by
      rcases Int.le_total 0 (y i) with h | h
      · exact Int.mul_nonneg h h
      · exact Int.mul_nonneg_of_nonpos_of_nonpos h h
    simp only [dt]
    refine ⟨by omega, fun h p hp1 hp2 => ?_⟩
    by_cases e : p = i
    · have : y i * y i = 0 := by omega
      rw [e]
      rcases Int.mul_eq_zero.mp this with q | q <;> exact q
    · exact h2 (by omega) p (by omega) (by omega)
/-- row i comes from the equations: g times it is A' η -/
def Src (n e : Nat) (A : Nat → Nat → Int) (f η : Nat → Int) (g : Int) : Prop := 1 ≤ g ∧ ∀ c, c < n → g * f c = dt (fun p => A p c) η e 0
theorem src_dot {n e : Nat} {A : Nat → Nat → Int} {f η z : Nat → Int} {g : Int} (h : Src n e A f η g) : g * dt f z n 0 = dt (fun p => dt (A p) z n 0) η e 0 := by
  have e1 : dt z (fun c => g * f c + 0 * 0) n 0 = g * dt z f n 0 + 0 * dt z (fun _ => 0) n 0 := dt_comb (f := z) (x := f) (y := fun _ => 0) (a := g) (b := 0) n 0
  have e2 : dt z (fun c => g * f c + 0 * 0) n 0 = dt z (fun c => dt (fun p => A p c) η e 0) n 0 := dt_cx _ _ (fun c _ hc => by rw [h.2 c (by omega)]; omega)
  have e3 := dt_swap (f := z) (g := A) (k := η) (m := e) n 0
  have e4 : dt (fun p => dt z (A p) n 0) η e 0 = dt (fun p => dt (A p) z n 0) η e 0 := dt_congr _ _ (fun p _ _ => dt_comm n 0)
  rw [dt_comm n 0 (f := f)]
  have e5 : g * dt z f n 0 + 0 * dt z (fun _ => 0) n 0 = g * dt z f n 0 := by omega
  rw [← e5, ← e1, e2, e3, e4]
/-- rows j .. n before column j -/
def NI (n e j : Nat) (A V : Nat → Nat → Int) : Prop :=
  ∀ i, j ≤ i → i ≤ n → ∃ (η : Nat → Int) (g : Int), Src n e A (V i) η g ∧ (i < n → ∃ z : Nat → Int, 0 < z i ∧ (∀ t, t < n → j ≤ t → t ≠ i → z t = 0) ∧ ∀ p, p < e → η p = dt (A p) z n 0)
/-- where the first row with a number in column j stands -/
theorem ni_piv {n e h j k : Nat} {A V : Nat → Nat → Int} {dec : Nat → Nat} (hN : NI n e j A V) (hE : EI (n + 1) h j j dec V) (hj : j < n) (hh : n < h) (hk1 : j ≤ k) (hk2 : V k j ≠ 0) (hk3 : ∀ i, j ≤ i → i < k → V i j = 0) : k = j ∨ n < k := by
  by_cases ekj : k = j
  · exact .inl ekj
  · right
    refine Nat.lt_of_not_le (fun hkn => ?_)
    have hjj : V j j = 0 := hk3 j (Nat.le_refl _) (by omega)
    have hz8 := hE.2.2.2.2.2.2.2
    obtain ⟨η, g, hs, hz⟩ := hN j (Nat.le_refl _) (by omega)
    obtain ⟨z, z1, z2, z3⟩ := hz hj
    have hdot : ∀ i, j ≤ i → i ≤ n → dt (V i) z n 0 = V i j * z j := fun i hi1 hi2 => by
      have e1 : dt (V i) z n 0 = dt (V i) (fun t => if t = j then z j else 0) n 0 := by
        have gen : ∀ (m t : Nat), t + m = n → dt (V i) z m t = dt (V i) (fun t => if t = j then z j else 0) m t := by
          intro m
          induction m with
          | zero => intro t _; rfl
          | succ m ih =>
            intro t ht
            simp only [dt]
            rw [ih (t + 1) (by omega)]
            by_cases e : t = j
            · rw [if_pos e, e]
            · rw [if_neg e]
              by_cases e2 : t < j
              · rw [hz8 i hi1 (by omega) t e2]; omega
              · rw [z2 t (by omega) (by omega) e]
        exact gen n 0 (by omega)
      rw [e1, dt_sgl n 0 (Nat.zero_le _) (by omega)]
    have q1 := src_dot (z := z) hs
    rw [hdot j (Nat.le_refl _) (by omega), hjj, Int.zero_mul, Int.mul_zero] at q1
    have q2 : dt η η e 0 = 0 := by
      rw [q1]
      exact dt_congr _ _ (fun p _ hp => z3 p (by omega))
    have q3 := (dt_sq (y := η) e 0).2 q2
    obtain ⟨η', g', hs', _⟩ := hN k hk1 hkn
    have q4 := src_dot (z := z) hs'
    rw [hdot k hk1 hkn, dt_f0 e 0 (fun p _ hp => by rw [← z3 p (by omega)]; exact q3 p (Nat.zero_le _) (by omega))] at q4
    rcases Int.mul_eq_zero.mp q4 with q | q
    · have := hs'.1; omega
    · rcases Int.mul_eq_zero.mp q with q' | q'
      · exact hk2 q'
      · omega
theorem ni_next {n e h j k : Nat} {A V W : Nat → Nat → Int} (hN : NI n e j A V) (hP : Pv (n + 1) h j k j V W) (hk : k = j ∨ n < k) (hj : j < n) (hh : n < h) : NI n e (j + 1) A W := by
  obtain ⟨p1, p2, p3, p4, ⟨s, hs, p5, p6⟩, p7⟩ := hP
  intro i hi1 hi2
  have hcl := p7 i (by omega) (by omega)
  rw [if_neg (show ¬ i = k by omega)] at hcl
  obtain ⟨η, g, h1, h2⟩ := hN i (by omega) hi2
  rcases hcl with ⟨c1, c2⟩ | ⟨c1, t, c2, c3, _⟩
  · refine ⟨η, g, ⟨h1.1, fun c hc => by rw [c2 c (by omega)]; exact h1.2 c hc⟩, fun hin => ?_⟩
    obtain ⟨z, z1, z2, z3⟩ := h2 hin
    exact ⟨z, z1, fun t ht1 ht2 ht3 => z2 t ht1 (by omega) ht3, z3⟩
  · have hkj : k = j := by
      rcases hk with h | h
      · exact h
      · exact absurd (p4 i (by omega) (by omega)) c1
    rw [hkj] at p5
    obtain ⟨η', g', h1', h2'⟩ := hN j (Nat.le_refl _) (by omega)
    refine ⟨fun p => (g' * W j j) * η p + (-(g * V i j * s)) * η' p, g * g' * t, ⟨?_, fun c hc => ?_⟩, fun hin => ?_⟩
    · have a1 := h1.1
      have a2 := h1'.1
      have b1 : 1 * 1 ≤ g * g' := Int.mul_le_mul a1 a2 (by omega) (by omega)
      have b2 : 1 * 1 ≤ g * g' * t := Int.mul_le_mul (by omega) c2 (by omega) (by omega)
      omega
    · rw [dt_comb, ← h1.2 c hc, ← h1'.2 c hc]
      have e1 := c3 c (by omega)
      rw [p5 c (by omega)] at e1
      have e2 : g * g' * t * W i c = g * g' * (t * W i c) := Int.mul_assoc _ _ _
      rw [e2, e1]
      grind
    · obtain ⟨z, z1, z2, z3⟩ := h2 hin
      obtain ⟨z', z1', z2', z3'⟩ := h2' hj
      refine ⟨fun t => (g' * W j j) * z t + (-(g * V i j * s)) * z' t, ?_, fun t ht1 ht2 ht3 => ?_, fun p hp => ?_⟩
      · show 0 < (g' * W j j) * z i + (-(g * V i j * s)) * z' i
        rw [z2' i hin (by omega) (by omega), Int.mul_zero, Int.add_zero]
        exact Int.mul_pos (Int.mul_pos (by have := h1'.1; omega) p6) z1
      · show (g' * W j j) * z t + (-(g * V i j * s)) * z' t = 0
        rw [z2 t ht1 (by omega) ht3, z2' t ht1 (by omega) (by omega)]
        omega
      · rw [dt_comb, ← z3 p hp, ← z3' p hp]
/-- a row without common divisor is no greater than what it is proportional to -/
theorem prm_bd {w : Nat} {x m : Nat → Int} {G p : Int} (hG : 1 ≤ G) (hp : 1 ≤ p) (h : ∀ c, c ≤ w → G * x c = p * m c) (hx : Prm w x) : ∀ c, c ≤ w → (x c).natAbs ≤ (m c).natAbs := by
  have ht : (Int.gcd G p : Int) ≠ 0 := by
    intro h0
    have : Int.gcd G p = 0 := by omega
    have := (Int.gcd_eq_zero_iff.mp this).1
    omega
  obtain ⟨G', hG'⟩ : (Int.gcd G p : Int) ∣ G := Int.gcd_dvd_left ..
  obtain ⟨p', hp'⟩ : (Int.gcd G p : Int) ∣ p := Int.gcd_dvd_right ..
  have hcop : Int.gcd p' G' = 1 := by
    have h1 : Int.gcd ((Int.gcd G p : Int) * G') ((Int.gcd G p : Int) * p') = Int.gcd G p := by rw [← hG', ← hp']
    rw [Int.gcd_mul_left, Int.natAbs_natCast] at h1
    have h2 : Int.gcd G p * Int.gcd G' p' = Int.gcd G p * 1 := by omega
    rw [Int.gcd_comm]
    exact Nat.eq_of_mul_eq_mul_left (by omega) h2
  have hgp : (0 : Int) < (Int.gcd G p : Int) := by omega
  have hred : ∀ c, c ≤ w → G' * x c = p' * m c := fun c hc => by
    have e : (Int.gcd G p : Int) * (G' * x c) = (Int.gcd G p : Int) * (p' * m c) := by
      rw [← Int.mul_assoc, ← Int.mul_assoc, ← hG', ← hp']
      exact h c hc
    exact Int.eq_of_mul_eq_mul_left ht e
  have hp1 : p' ∣ 1 := hx p' (fun c hc => dvd_cop (c := G') ⟨m c, hred c hc⟩ hcop)
  have hpos : 0 < p' := by
    rcases Int.lt_trichotomy p' 0 with q | q | q
    · have := Int.mul_neg_of_pos_of_neg hgp q; omega
    · rw [q, Int.mul_zero] at hp'; omega
    · exact q
  have hp2 : p' = 1 := by
    have := Int.le_of_dvd (by omega) hp1
    omega
  have hGpos : 1 ≤ G'.natAbs := by
    refine Int.natAbs_pos.mpr (fun q => ?_)
    rw [q, Int.mul_zero] at hG'; omega
  intro c hc
  have e := hred c hc
  rw [hp2, Int.one_mul] at e
  rw [← e, Int.natAbs_mul]
  exact Nat.le_mul_of_pos_left _ hGpos
/-- rows behind the first pivot, as they come from the beginning -/
def Q1 (w : Nat) (P0 f : Nat → Int) : Prop := ∃ (ρ : Nat → Int) (s : Int), 1 ≤ s ∧ Bd 243 ρ w ∧ ∀ c, c ≤ w → s * f c = ρ c * P0 0 - P0 c * ρ 0
def BN (w h j : Nat) (V : Nat → Nat → Int) : Prop :=
  if j = 0 then ∀ i, i < h → Bd 243 (V i) w
  else if j = 1 then ∃ P0, Bd 243 P0 w ∧ 0 < P0 0 ∧ Bd 243 (V 0) w ∧ ∀ i, 1 ≤ i → i < h → Bd 118098 (V i) w ∧ Q1 w P0 (V i)
  else if j = 2 then Bd 57395628 (V 0) w ∧ Bd 118098 (V 1) w ∧ ∀ i, 2 ≤ i → i < h → Bd 86093442 (V i) w
  else ∀ i, i < h → Bd 14824161510814728 (V i) w
theorem bd_mono {B C : Int} {f : Nat → Int} {w : Nat} (h : Bd B f w) (hBC : B ≤ C) : Bd C f w := fun j hj => by
  have := h j hj
  omega
theorem bn_all {w h j : Nat} {V : Nat → Nat → Int} (hB : BN w h j V) : ∀ i, i < h → Bd 14824161510814728 (V i) w := by
  intro i hi
  unfold BN at hB
  by_cases h0 : j = 0
  · rw [if_pos h0] at hB; exact bd_mono (hB i hi) (by decide)
  · rw [if_neg h0] at hB
    by_cases h1 : j = 1
    · rw [if_pos h1] at hB
      obtain ⟨P0, _, _, b0, b1⟩ := hB
      by_cases e : i = 0
      · rw [e]; exact bd_mono b0 (by decide)
      · exact bd_mono (b1 i (by omega) hi).1 (by decide)
    · rw [if_neg h1] at hB
      by_cases h2 : j = 2
      · rw [if_pos h2] at hB
        obtain ⟨b0, b1, b2⟩ := hB
        by_cases e : i = 0
        · rw [e]; exact bd_mono b0 (by decide)
        · by_cases e1 : i = 1
          · rw [e1]; exact bd_mono b1 (by decide)
          · exact bd_mono (b2 i (by omega) hi) (by decide)
      · rw [if_neg h2] at hB; exact hB i hi
def bfN (j i : Nat) : Int := if j = 0 then 243 else if j = 1 then (if i = 0 then 243 else 118098) else (if i = 0 then 57395628 else if i = 1 then 118098 else 86093442)
def bPN (j : Nat) : Int := if j = 0 then 243 else if j = 1 then 118098 else 86093442
theorem bn_pre {w h j : Nat} {V : Nat → Nat → Int} (hj : j < 3) (hB : BN w h j V) : (∀ i, i < h → Bd (bfN j i) (V i) w) ∧ (∀ i, j ≤ i → bfN j i = bPN j) ∧ bPN j < 9223372036854775808 ∧ ∀ i, 2 * (bfN j i * bPN j) < 9223372036854775808 ∧ 0 ≤ bfN j i := by
  obtain rfl | rfl | rfl : j = 0 ∨ j = 1 ∨ j = 2 := by omega
  · have hB : ∀ i, i < h → Bd 243 (V i) w := hB
    exact ⟨hB, fun i _ => rfl, by decide, fun i => by show 2 * (243 * 243 : Int) < _ ∧ (0 : Int) ≤ 243; omega⟩
  · obtain ⟨P0, _, _, b0, b1⟩ : ∃ P0, Bd 243 P0 w ∧ 0 < P0 0 ∧ Bd 243 (V 0) w ∧ ∀ i, 1 ≤ i → i < h → Bd 118098 (V i) w ∧ Q1 w P0 (V i) := hB
    refine ⟨fun i hi => ?_, fun i hi => ?_, by decide, fun i => ?_⟩
    · show Bd (if i = 0 then 243 else 118098) (V i) w
      by_cases e : i = 0
      · rw [if_pos e, e]; exact b0
      · rw [if_neg e]; exact (b1 i (by omega) hi).1
    · show (if i = 0 then 243 else 118098 : Int) = 118098
      rw [if_neg (by omega)]
    · show 2 * ((if i = 0 then 243 else 118098 : Int) * 118098) < _ ∧ 0 ≤ (if i = 0 then 243 else 118098 : Int)
      by_cases e : i = 0
      · rw [if_pos e]; omega
      · rw [if_neg e]; omega
  · obtain ⟨b0, b1, b2⟩ : Bd 57395628 (V 0) w ∧ Bd 118098 (V 1) w ∧ ∀ i, 2 ≤ i → i < h → Bd 86093442 (V i) w := hB
    refine ⟨fun i hi => ?_, fun i hi => ?_, by decide, fun i => ?_⟩
    · show Bd (if i = 0 then 57395628 else if i = 1 then 118098 else 86093442) (V i) w
      by_cases e : i = 0
      · rw [if_pos e, e]; exact b0
      · rw [if_neg e]
        by_cases e1 : i = 1
        · rw [if_pos e1, e1]; exact b1
        · rw [if_neg e1]; exact b2 i (by omega) hi
    · show (if i = 0 then 57395628 else if i = 1 then 118098 else 86093442 : Int) = 86093442
      rw [if_neg (by omega), if_neg (by omega)]
    · show 2 * ((if i = 0 then 57395628 else if i = 1 then 118098 else 86093442 : Int) * 86093442) < _ ∧ 0 ≤ (if i = 0 then 57395628 else if i = 1 then 118098 else 86093442 : Int)
      by_cases e : i = 0
      · rw [if_pos e]; omega
      · rw [if_neg e]
        by_cases e1 : i = 1
        · rw [if_pos e1]; omega
        · rw [if_neg e1]; omega
/-- the determinant of three rows at columns 0, 1, c -/
theorem m3_bd {a b d : Nat → Int} {w c : Nat} (ha : Bd 243 a w) (hb : Bd 243 b w) (hd : Bd 243 d w) (h1 : 1 ≤ w) (hc : c ≤ w) : (a 0 * (b 1 * d c - b c * d 1) - a 1 * (b 0 * d c - b c * d 0) + a c * (b 0 * d 1 - b 1 * d 0)).natAbs ≤ 86093442 := by
  have t3 : ∀ x y z : Int, (-243 ≤ x ∧ x ≤ 243) → (-243 ≤ y ∧ y ≤ 243) → (-243 ≤ z ∧ z ≤ 243) → -14348907 ≤ x * (y * z) ∧ x * (y * z) ≤ 14348907 := fun x y z hx hy hz => by
    have h1 := ab_mul hy.1 hy.2 hz.1 hz.2
    have h2 := ab_mul hx.1 hx.2 h1.1 h1.2
    omega
  have a0 := ha 0 (by omega)
  have a1 := ha 1 h1
  have ac := ha c hc
  have b0 := hb 0 (by omega)
  have b1 := hb 1 h1
  have bc := hb c hc
  have d0 := hd 0 (by omega)
  have d1 := hd 1 h1
  have dc := hd c hc
  have e1 := t3 _ _ _ a0 b1 dc
  have e2 := t3 _ _ _ a0 bc d1
  have e3 := t3 _ _ _ a1 b0 dc
  have e4 := t3 _ _ _ a1 bc d0
  have e5 := t3 _ _ _ ac b0 d1
  have e6 := t3 _ _ _ ac b1 d0
  rw [Int.mul_sub, Int.mul_sub, Int.mul_sub]
  omega
theorem bn_next {n h j k : Nat} {V W : Nat → Nat → Int} {dec : Nat → Nat} (hj : j < 3) (hjn : j < n) (hE : EI (n + 1) h j j dec V) (hB : BN (n + 1) h j V) (hP : Pv (n + 1) h j k j V W) : BN (n + 1) h (j + 1) W := by
  obtain ⟨f1, f2, f3, f4⟩ := bn_pre hj hB
  obtain ⟨p1, p2, p3, p4, ⟨s, hs, p5, p6⟩, p7⟩ := hP
  have hWj : Bd (bPN j) (W j) (n + 1) := fun c hc => by
    have := f1 k p2 c hc
    rw [f2 k p1] at this
    rw [p5 c hc]
    rcases hs with rfl | rfl <;> omega
  have hsrc : ∀ i, i < h → i ≠ j → (if i = k then j else i) < h := fun i hi _ => sg_lt hi (by omega)
  have hgen : ∀ i, i < h → i ≠ j → ∀ C, 2 * (bfN j (if i = k then j else i) * bPN j) ≤ C → bfN j (if i = k then j else i) ≤ C → Bd C (W i) (n + 1) := fun i hi hij C h1 h2 => cl_bd (p7 i hi hij) (by omega) (f1 _ (hsrc i hi hij)) hWj h1 h2
  have hge : ∀ i, j < i → i < h → bfN j (if i = k then j else i) = bPN j := fun i hi1 hi2 => f2 _ (by by_cases e : i = k <;> simp [e] <;> omega)
  have hlo : ∀ i, i < j → (if i = k then j else i) = i := fun i hi => if_neg (by omega)
  obtain rfl | rfl | rfl : j = 0 ∨ j = 1 ∨ j = 2 := by omega
  · have hB : ∀ i, i < h → Bd 243 (V i) (n + 1) := hB
    refine ⟨W 0, hWj, p6, hWj, fun i hi1 hi2 => ⟨hgen i hi2 (by omega) _ (by rw [hge i hi1 hi2]; decide) (by rw [hge i hi1 hi2]; decide), ?_⟩⟩
    rcases p7 i hi2 (by omega) with ⟨c1, c2⟩ | ⟨c1, t, c2, c3, _⟩
    · exact ⟨V (if i = k then 0 else i), W 0 0, by omega, hB _ (hsrc i hi2 (by omega)), fun c hc => by rw [c2 c hc, c1]; grind⟩
    · exact ⟨V (if i = k then 0 else i), t, c2, hB _ (hsrc i hi2 (by omega)), fun c hc => c3 c hc⟩
  · obtain ⟨P0, q1, q2, q3, q4⟩ : ∃ P0, Bd 243 P0 (n + 1) ∧ 0 < P0 0 ∧ Bd 243 (V 0) (n + 1) ∧ ∀ i, 1 ≤ i → i < h → Bd 118098 (V i) (n + 1) ∧ Q1 (n + 1) P0 (V i) := hB
    refine ⟨hgen 0 (by omega) (by omega) _ (by rw [hlo 0 (by omega)]; decide) (by rw [hlo 0 (by omega)]; decide), hWj, fun i hi1 hi2 => ?_⟩
    have hsi : 1 ≤ (if i = k then 1 else i) := by by_cases e : i = k <;> simp [e] <;> omega
    rcases p7 i hi2 (by omega) with ⟨c1, c2⟩ | ⟨c1, t, c2, c3, c4⟩
    · exact bd_mono (fun c hc => by rw [c2 c hc]; exact (q4 _ hsi (hsrc i hi2 (by omega))).1 c hc) (by decide)
    · obtain ⟨ρ1, s1, a1, a2, a3⟩ := (q4 k p1 p2).2
      obtain ⟨ρ2, s2, b1, b2, b3⟩ := (q4 _ hsi (hsrc i hi2 (by omega))).2
      by_cases hz : ∃ c, c ≤ n + 1 ∧ W i c ≠ 0
      · have hprm := c4 hz
        have key : ∀ c, c ≤ n + 1 → (s1 * s2 * t) * W i c = P0 0 * (s * (P0 0 * (ρ1 1 * ρ2 c - ρ1 c * ρ2 1) - P0 1 * (ρ1 0 * ρ2 c - ρ1 c * ρ2 0) + P0 c * (ρ1 0 * ρ2 1 - ρ1 1 * ρ2 0))) := by
          intro c hc
          have e1 := c3 c hc
          rw [p5 c hc, p5 1 (by omega)] at e1
          have x1 := a3 c hc
          have x2 := a3 1 (by omega)
          have x3 := b3 c hc
          have x4 := b3 1 (by omega)
          have e2 : s1 * s2 * t * W i c = s1 * s2 * (t * W i c) := Int.mul_assoc _ _ _
          rw [e2, e1]
          have e3 : s1 * s2 * (V (if i = k then 1 else i) c * (s * V k 1) - s * V k c * V (if i = k then 1 else i) 1) = s * ((s2 * V (if i = k then 1 else i) c) * (s1 * V k 1) - (s1 * V k c) * (s2 * V (if i = k then 1 else i) 1)) := by grind
          rw [e3, x1, x2, x3, x4]
          grind
        have hGp : 1 ≤ s1 * s2 * t := by
          have y1 : 1 * 1 ≤ s1 * s2 := Int.mul_le_mul a1 b1 (by omega) (by omega)
          have y2 : 1 * 1 ≤ s1 * s2 * t := Int.mul_le_mul (by omega) c2 (by omega) (by omega)
          omega
        have hb := prm_bd hGp (by omega) key hprm
        intro c hc
        have h1 := hb c hc
        have h2 := m3_bd q1 a2 b2 (show 1 ≤ n + 1 by omega) hc
        have h3 : (s * (P0 0 * (ρ1 1 * ρ2 c - ρ1 c * ρ2 1) - P0 1 * (ρ1 0 * ρ2 c - ρ1 c * ρ2 0) + P0 c * (ρ1 0 * ρ2 1 - ρ1 1 * ρ2 0))).natAbs = (P0 0 * (ρ1 1 * ρ2 c - ρ1 c * ρ2 1) - P0 1 * (ρ1 0 * ρ2 c - ρ1 c * ρ2 0) + P0 c * (ρ1 0 * ρ2 1 - ρ1 1 * ρ2 0)).natAbs := by
          rw [Int.natAbs_mul]
          rcases hs with rfl | rfl <;> simp
        omega
      · intro c hc
        have : W i c = 0 := Decidable.byContradiction (fun hne => hz ⟨c, hc, hne⟩)
        omega
  · intro i hi
    by_cases e : i = 2
    · rw [e]; exact bd_mono hWj (by decide)
    · refine hgen i hi e _ ?_ ?_
      · by_cases e2 : 2 < i
        · rw [hge i e2 hi]; decide
        · rw [hlo i (by omega)]
          obtain rfl | rfl : i = 0 ∨ i = 1 := by omega
          · decide
          · decide
      · by_cases e2 : 2 < i
        · rw [hge i e2 hi]; decide
        · rw [hlo i (by omega)]
          obtain rfl | rfl : i = 0 ∨ i = 1 := by omega
          · decide
          · decide
theorem fo_snoc {σ : Type} {f : Nat → σ → σ} : ∀ (m i : Nat) (x : σ), fo f (m + 1) i x = f (i + m) (fo f m i x)
  | 0, i, x => rfl
  | m + 1, i, x => by
    rw [fo_s, fo_snoc m (i + 1), fo_s, show i + 1 + m = i + (m + 1) by omega]
/-- what stands before column j of the normal equations -/
def NJ (n e h j : Nat) (A R0 : Nat → Nat → Int) (AN : Nat → Nat → Nat) (V : Nat → Nat → Int) : Prop :=
  EI (n + 1) h j j (AN 5) V ∧ (∀ c, c < j → AN 5 c = c) ∧ (∀ x, Ker (n + 1) h R0 x ↔ Ker (n + 1) h V x) ∧ ((∀ i, i < h → i ≠ n → V i n = 0) ∧ 0 < V n n) ∧ NI n e j A V ∧ BN (n + 1) h j V
theorem near_run {n e h : Nat} {A R0 : Nat → Nat → Int} (hn : n ≤ 3) (hh : n < h) (hDef : ∀ z : Nat → Int, Ker (n + 1) h R0 z → z (n + 1) = 0 → z n = 0 → ∀ c, c < n → z c = 0) : ∀ (m j : Nat) (AN : Nat → Nat → Nat) (X : Nat → Nat → Int64), j + m = n → NJ n e h j A R0 AN (vE X) →
    ∃ AN' Y, fo (estep (n + 1) h) m j (j, AN, X) = (n, AN', Y) ∧ NJ n e h n A R0 AN' (vE Y) ∧ (∀ a, a ≠ 5 → AN' a = AN a) ∧ ∀ k, AN' 5 k = AN 5 k ∨ AN' 5 k < n + 1
  | 0, j, AN, X, hj, h => by
    obtain rfl : j = n := by omega
    exact ⟨AN, X, rfl, h, fun _ _ => rfl, fun _ => .inl rfl⟩
  | m + 1, j, AN, X, hj, h0 => by
    obtain ⟨hE, hid, hK, ⟨hc1, hc2⟩, hN, hB⟩ := h0
    have hjn : j < n := by omega
    rw [fo_s]
    cases hf : fnd (fun k => X (k + 11) j ≠ 0) (h - j) j with
    | none =>
      exfalso
      have hz0 : ∀ i, j ≤ i → i < h → vE X i j = 0 := fun i h1 h2 => by
        have := Decidable.not_not.mp (fnd_none hf i h1 (by omega))
        show (X (i + 11) j).toInt = 0
        rw [this]; rfl
      obtain ⟨P, hP, hz⟩ := ei_kv (show j ≤ n + 1 by omega) hE
      obtain ⟨z, z1, z2, z3, _⟩ := hz j (by omega) hz0 (fun c hc e => by rw [hid c hc] at e; omega)
      have zt : ∀ t, j < t → z t = 0 := fun t ht => z3 t (by omega) (fun c hc e => by rw [hid c hc] at e; omega)
      have := hDef z ((hK z).mpr z1) (zt _ (by omega)) (zt _ (by omega)) j hjn
      omega
    | some k =>
      obtain ⟨hk1, hk2, hk3, hk4⟩ := fnd_some hf
      obtain ⟨f1, f2, f3, f4⟩ := bn_pre (by omega) hB
      have hkh : k < h := by omega
      obtain ⟨Y, hY, hP⟩ := estep_pv (w := n + 1) (AN := AN) (P := bPN j) (bf := fun i => bfN j (if i = k then j else i)) (show j < h by omega) hf (by omega) (by have := f1 k hkh; rw [f2 k hk1] at this; exact this) f3 (fun i hi hij _ => ⟨f1 _ (sg_lt hi (by omega)), (f4 _).1⟩)
      have hpv := hP
      obtain ⟨p1, p2, p3, p4, ⟨s, hs, p5, p6⟩, p7⟩ := hP
      have hkk := ni_piv hN hE hjn hh p1 p3 p4
      rw [hY]
      have hWj : vE Y j n = 0 := by rw [p5 n (by omega), hc1 k p2 (by omega), Int.mul_zero]
      obtain ⟨AN', Y', r1, r2, r3, r4⟩ := near_run hn hh hDef m (j + 1) (up2 AN 5 j j) Y (by omega) ⟨ei_pv hE (by omega) hpv (fun r hr => up2_n (by omega)) up2_s, fun c hc => by
        by_cases e : c = j
        · rw [e, up2_s]
        · rw [up2_n (by omega)]; exact hid c (by omega), fun x => (hK x).trans (ker_pv hpv x), ⟨fun i hi hin => by
          by_cases e : i = j
          · rw [e]; exact hWj
          · refine cl_zero (p7 i hi e) (by omega) (hc1 _ (sg_lt hi (by omega)) ?_) hWj
            by_cases e2 : i = k
            · rw [if_pos e2]; omega
            · rw [if_neg e2]; exact hin, by
          have := p7 n hh (by omega)
          rw [if_neg (show ¬ n = k by omega)] at this
          exact cl_pos this (by omega) p6 hc2 hWj⟩, ni_next hN hpv hkk hjn hh, bn_next (by omega) hjn hE hB hpv⟩
      refine ⟨AN', Y', r1, r2, fun a ha => by rw [r3 a ha, up2_row ha], fun k' => ?_⟩
      rcases r4 k' with h | h
      · by_cases e : k' = j
        · rw [e, up2_s] at h; right; rw [e]; omega
        · rw [up2_n (by omega)] at h; exact .inl h
      · exact .inr h
theorem near_fin {n e h : Nat} {A R0 : Nat → Nat → Int} (hn : n ≤ 3) (hh : n < h) (hDef : ∀ z : Nat → Int, Ker (n + 1) h R0 z → z (n + 1) = 0 → z n = 0 → ∀ c, c < n → z c = 0) (AN : Nat → Nat → Nat) (X : Nat → Nat → Int64) (h0 : NJ n e h 0 A R0 AN (vE X)) :
    ∃ AN' Y, fo (estep (n + 1) h) (n + 1) 0 (0, AN, X) = (n + 1, AN', Y) ∧ EI (n + 1) h (n + 1) (n + 1) (AN' 5) (vE Y) ∧ (∀ c, c < n + 1 → AN' 5 c = c) ∧ (∀ x, Ker (n + 1) h R0 x ↔ Ker (n + 1) h (vE Y) x) ∧ (∀ i, i < h → Bd 14824161510814728 (vE Y i) (n + 1)) ∧ (∀ a, a ≠ 5 → AN' a = AN a) ∧ ∀ k, AN' 5 k = AN 5 k ∨ AN' 5 k < n + 1 := by
  obtain ⟨AN', Y', r1, ⟨hE, hid, hK, ⟨hc1, hc2⟩, hN, hB⟩, r3, r4⟩ := near_run hn hh hDef n 0 AN X (by omega) h0
  rw [fo_snoc, r1, Nat.zero_add]
  have hb := bn_all hB
  have hf : fnd (fun k => Y' (k + 11) n ≠ 0) (h - n) n = some n := by
    rw [show h - n = (h - n - 1) + 1 by omega]
    exact fnd_t (fun h' => by
      have : vE Y' n n = 0 := by show (Y' (n + 11) n).toInt = 0; rw [h']; rfl
      omega)
  obtain ⟨Y, hY, hP⟩ := estep_pv (w := n + 1) (AN := AN') (P := 14824161510814728) (bf := fun _ => 0) hh hf (by omega) (hb n hh) (by decide) (fun i hi hij hne => by
    exfalso
    rw [if_neg hij] at hne
    exact hne (hc1 i hi hij))
  have hpv := hP
  obtain ⟨p1, p2, p3, p4, ⟨s, hs, p5, p6⟩, p7⟩ := hP
  refine ⟨up2 AN' 5 n n, Y, hY, ei_pv hE (by omega) hpv (fun r hr => up2_n (by omega)) up2_s, fun c hc => ?_, fun x => (hK x).trans (ker_pv hpv x), fun i hi => ?_, fun a ha => by rw [up2_row ha, r3 a ha], fun k => ?_⟩
  · by_cases e : c = n
    · rw [e, up2_s]
    · rw [up2_n (by omega)]; exact hid c (by omega)
  · by_cases e : i = n
    · rw [e]
      intro c hc
      have := hb n hh c hc
      rw [p5 c hc]
      rcases hs with rfl | rfl <;> omega
    · rcases p7 i hi e with ⟨_, c2⟩ | ⟨c1, _⟩
      · intro c hc
        rw [c2 c hc, if_neg e]
        exact hb i hi c hc
      · rw [if_neg e] at c1
        exact absurd (hc1 i hi e) c1
  · by_cases e : k = n
    · right; rw [e, up2_s]; omega
    · rw [up2_n (by omega)]; exact r4 k
