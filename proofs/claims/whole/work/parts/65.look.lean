/-! Model's determinants and its search for lines that stand. -/
theorem b3 {a b c B : Int} (h1 : -B ≤ a) (h2 : a ≤ B) (h3 : -B ≤ b) (h4 : b ≤ B) (h5 : -B ≤ c) (h6 : c ≤ B) : (-(B * B) ≤ b * c ∧ b * c ≤ B * B) ∧ -(B * (B * B)) ≤ a * (b * c) ∧ a * (b * c) ≤ B * (B * B) := by
  have e := ab_mul h3 h4 h5 h6
  exact ⟨e, ab_mul h1 h2 e.1 e.2⟩
theorem det_1 (q : Nat → Int64) : det 1 q = q 0 := rfl
theorem det_2 (q : Nat → Int64) : det 2 q = q 0 * q 4 - q 1 * q 3 := rfl
theorem det_3 (q : Nat → Int64) : det 3 q = q 0 * (q 4 * q 8 - q 5 * q 7) - q 1 * (q 3 * q 8 - q 5 * q 6) + q 2 * (q 3 * q 7 - q 4 * q 6) := rfl
theorem dz_1 (M : Nat → Nat → Int) : dz 1 M = M 0 0 := rfl
theorem dz_2 (M : Nat → Nat → Int) : dz 2 M = M 0 0 * M 1 1 - M 0 1 * M 1 0 := rfl
theorem dz_3 (M : Nat → Nat → Int) : dz 3 M = M 0 0 * (M 1 1 * M 2 2 - M 1 2 * M 2 1) - M 0 1 * (M 1 0 * M 2 2 - M 1 2 * M 2 0) + M 0 2 * (M 1 0 * M 2 1 - M 1 1 * M 2 0) := rfl
theorem det_int {k : Nat} {q : Nat → Int64} {M : Nat → Nat → Int} {B : Int} (hk : k ≤ 3) (hB : 1 ≤ B) (hB3 : 6 * (B * (B * B)) < 9223372036854775808) (h : ∀ r c, r < k → c < k → (q (3 * r + c)).toInt = M r c ∧ -B ≤ M r c ∧ M r c ≤ B) : (det k q).toInt = dz k M ∧ -(6 * (B * (B * B))) ≤ dz k M ∧ dz k M ≤ 6 * (B * (B * B)) := by
  have hBB : B ≤ B * B := by
    have := Int.mul_le_mul_of_nonneg_right hB (show 0 ≤ B by omega)
    omega
  have hBBB : B * B ≤ B * (B * B) := by
    have := Int.mul_le_mul_of_nonneg_right hB (show 0 ≤ B * B by omega)
    omega
  obtain rfl | rfl | rfl | rfl : k = 0 ∨ k = 1 ∨ k = 2 ∨ k = 3 := by omega
  · simp only [det, dz, if_true]
    rw [o64]
    omega
  · obtain ⟨e, b1, b2⟩ := h 0 0 (by omega) (by omega)
    have e : (q 0).toInt = M 0 0 := e
    rw [det_1, dz_1, e]
    omega
  · obtain ⟨e0, l0, u0⟩ := h 0 0 (by omega) (by omega)
    obtain ⟨e1, l1, u1⟩ := h 0 1 (by omega) (by omega)
    obtain ⟨e3, l3, u3⟩ := h 1 0 (by omega) (by omega)
    obtain ⟨e4, l4, u4⟩ := h 1 1 (by omega) (by omega)
    have e0 : (q 0).toInt = M 0 0 := e0
    have e1 : (q 1).toInt = M 0 1 := e1
    have e3 : (q 3).toInt = M 1 0 := e3
    have e4 : (q 4).toInt = M 1 1 := e4
    have p1 := ab_mul l0 u0 l4 u4
    have p2 := ab_mul l1 u1 l3 u3
    rw [det_2, dz_2]
    have m1 : (q 0 * q 4).toInt = M 0 0 * M 1 1 := by rw [← e0, ← e4]; exact t_mul (by rw [e0, e4]; omega) (by rw [e0, e4]; omega)
    have m2 : (q 1 * q 3).toInt = M 0 1 * M 1 0 := by rw [← e1, ← e3]; exact t_mul (by rw [e1, e3]; omega) (by rw [e1, e3]; omega)
    rw [t_sub (by rw [m1, m2]; omega) (by rw [m1, m2]; omega), m1, m2]
    omega
  · obtain ⟨e0, l0, u0⟩ := h 0 0 (by omega) (by omega)
    obtain ⟨e1, l1, u1⟩ := h 0 1 (by omega) (by omega)
    obtain ⟨e2, l2, u2⟩ := h 0 2 (by omega) (by omega)
    obtain ⟨e3, l3, u3⟩ := h 1 0 (by omega) (by omega)
    obtain ⟨e4, l4, u4⟩ := h 1 1 (by omega) (by omega)
    obtain ⟨e5, l5, u5⟩ := h 1 2 (by omega) (by omega)
    obtain ⟨e6, l6, u6⟩ := h 2 0 (by omega) (by omega)
    obtain ⟨e7, l7, u7⟩ := h 2 1 (by omega) (by omega)
    obtain ⟨e8, l8, u8⟩ := h 2 2 (by omega) (by omega)
    have e0 : (q 0).toInt = M 0 0 := e0
    have e1 : (q 1).toInt = M 0 1 := e1
    have e2 : (q 2).toInt = M 0 2 := e2
    have e3 : (q 3).toInt = M 1 0 := e3
    have e4 : (q 4).toInt = M 1 1 := e4
    have e5 : (q 5).toInt = M 1 2 := e5
    have e6 : (q 6).toInt = M 2 0 := e6
    have e7 : (q 7).toInt = M 2 1 := e7
    have e8 : (q 8).toInt = M 2 2 := e8
    have sub2 : ∀ (a b c d : Int64) (x y z t : Int), a.toInt = x → b.toInt = y → c.toInt = z → d.toInt = t → -B ≤ x → x ≤ B → -B ≤ y → y ≤ B → -B ≤ z → z ≤ B → -B ≤ t → t ≤ B → (a * b - c * d).toInt = x * y - z * t ∧ -(2 * (B * B)) ≤ x * y - z * t ∧ x * y - z * t ≤ 2 * (B * B) := by
      intro a b c d x y z t ha hb hc hd x1 x2 y1 y2 z1 z2 t1 t2
      have p1 := ab_mul x1 x2 y1 y2
      have p2 := ab_mul z1 z2 t1 t2
      have m1 : (a * b).toInt = x * y := by rw [← ha, ← hb]; exact t_mul (by rw [ha, hb]; omega) (by rw [ha, hb]; omega)
      have m2 : (c * d).toInt = z * t := by rw [← hc, ← hd]; exact t_mul (by rw [hc, hd]; omega) (by rw [hc, hd]; omega)
      rw [t_sub (by rw [m1, m2]; omega) (by rw [m1, m2]; omega), m1, m2]
      omega
    have mul3 : ∀ (a b : Int64) (x y : Int), a.toInt = x → b.toInt = y → -B ≤ x → x ≤ B → -(2 * (B * B)) ≤ y → y ≤ 2 * (B * B) → (a * b).toInt = x * y ∧ -(2 * (B * (B * B))) ≤ x * y ∧ x * y ≤ 2 * (B * (B * B)) := by
      intro a b x y ha hb x1 x2 y1 y2
      have p1 := ab_mul x1 x2 y1 y2
      have e : B * (2 * (B * B)) = 2 * (B * (B * B)) := by grind
      rw [e] at p1
      exact ⟨by rw [← ha, ← hb]; exact t_mul (by rw [ha, hb]; omega) (by rw [ha, hb]; omega), p1⟩
    obtain ⟨s1, s1l, s1u⟩ := sub2 _ _ _ _ _ _ _ _ e4 e8 e5 e7 l4 u4 l8 u8 l5 u5 l7 u7
    obtain ⟨s2, s2l, s2u⟩ := sub2 _ _ _ _ _ _ _ _ e3 e8 e5 e6 l3 u3 l8 u8 l5 u5 l6 u6
    obtain ⟨s3, s3l, s3u⟩ := sub2 _ _ _ _ _ _ _ _ e3 e7 e4 e6 l3 u3 l7 u7 l4 u4 l6 u6
    obtain ⟨t1, t1l, t1u⟩ := mul3 _ _ _ _ e0 s1 l0 u0 s1l s1u
    obtain ⟨t2, t2l, t2u⟩ := mul3 _ _ _ _ e1 s2 l1 u1 s2l s2u
    obtain ⟨t3, t3l, t3u⟩ := mul3 _ _ _ _ e2 s3 l2 u2 s3l s3u
    rw [det_3, dz_3]
    have d1 : (q 0 * (q 4 * q 8 - q 5 * q 7) - q 1 * (q 3 * q 8 - q 5 * q 6)).toInt = M 0 0 * (M 1 1 * M 2 2 - M 1 2 * M 2 1) - M 0 1 * (M 1 0 * M 2 2 - M 1 2 * M 2 0) := by
      rw [t_sub (by rw [t1, t2]; omega) (by rw [t1, t2]; omega), t1, t2]
    rw [t_add (by rw [d1, t3]; omega) (by rw [d1, t3]; omega), d1, t3]
    omega
theorem fo_sh {α : Type} {r s : Nat} {g : Nat → α} : ∀ (n i : Nat) (A : Nat → Nat → α) (a b : Nat), fo (fun j X => up2 X r (s + j) (g j)) n i A a b = if a = r ∧ s + i ≤ b ∧ b < s + i + n then g (b - s) else A a b
  | 0, i, A, a, b => by rw [fo_0, if_neg (by omega)]
  | n + 1, i, A, a, b => by
    rw [fo_s, fo_sh n (i + 1)]
    by_cases h : a = r ∧ s + (i + 1) ≤ b ∧ b < s + (i + 1) + n
    · rw [if_pos h, if_pos (by omega)]
    · rw [if_neg h]
      by_cases h2 : a = r ∧ b = s + i
      · obtain ⟨rfl, rfl⟩ := h2
        rw [up2_s, if_pos (by omega), Nat.add_sub_cancel_left]
      · rw [up2_n h2, if_neg (by omega)]
/-- what stands after the lines before e -/
def SR (k : Nat) (BI : Nat → Int32) (AN : Nat → Nat → Nat) (AL : Nat → Nat → Int64) (e : Nat) (x : Nat × (Nat → Nat → Nat) × (Nat → Nat → Int64)) : Prop :=
  x.1 ≤ e ∧ (∀ r, r < x.1 → x.2.1 3 r < e) ∧ (∀ r, r < x.1 → r < k → ∀ c, c < k → x.2.2 5 (3 * r + c) = Int32.toInt64 (BI (4 * x.2.1 3 r + AN 2 c))) ∧ (∀ a, a ≠ 3 → x.2.1 a = AN a) ∧ (∀ c, x.1 ≤ c → x.2.1 3 c = AN 3 c) ∧ ∀ a, a ≠ 5 → x.2.2 a = AL a
theorem sr_run {k st : Nat} {BI : Nat → Int32} {AN : Nat → Nat → Nat} {AL : Nat → Nat → Int64} (hk : k ≤ 3) : ∀ (n e : Nat) (x : Nat × (Nat → Nat → Nat) × (Nat → Nat → Int64)), e + n ≤ 3 → SR k BI AN AL e x → SR k BI AN AL (e + n) (fo (srow k st BI) n e x)
  | 0, e, x, _, h => h
  | n + 1, e, x, he, h => by
    rw [fo_s, show e + (n + 1) = e + 1 + n by omega]
    refine sr_run hk n (e + 1) _ (by omega) ?_
    obtain ⟨a1, a2, a3, a4, a5, a6⟩ := h
    unfold srow
    by_cases hb : (st / 2 ^ e) % 2 = 0
    · rw [if_pos hb]
      exact ⟨by omega, fun r hr => Nat.lt_succ_of_lt (a2 r hr), a3, a4, a5, a6⟩
    · rw [if_neg hb]
      have hx3 : x.1 < 3 := by omega
      have e0 : ∀ r, r < x.1 → (if x.1 < 3 then up2 x.2.1 3 x.1 e else x.2.1) 3 r = x.2.1 3 r := fun r hr => by rw [if_pos hx3, up2_n (by omega)]
      have e1 : (if x.1 < 3 then up2 x.2.1 3 x.1 e else x.2.1) 3 x.1 = e := by rw [if_pos hx3, up2_s]
      refine ⟨Nat.succ_le_succ a1, fun r hr => ?_, fun r hr hrk c hc => ?_, fun a ha => ?_, fun c hc => ?_, fun a ha => ?_⟩
      · by_cases er : r = x.1
        · show (if x.1 < 3 then up2 x.2.1 3 x.1 e else x.2.1) 3 r < e + 1
          rw [er, e1]; omega
        · have hr' : r < x.1 := by have : r < x.1 + 1 := hr; omega
          show (if x.1 < 3 then up2 x.2.1 3 x.1 e else x.2.1) 3 r < e + 1
          rw [e0 r hr']; have := a2 r hr'; omega
      · have hr : r < x.1 + 1 := hr
        show sq1 k x.1 e x.2.1 BI x.2.2 5 (3 * r + c) = Int32.toInt64 (BI (4 * (if x.1 < 3 then up2 x.2.1 3 x.1 e else x.2.1) 3 r + AN 2 c))
        unfold sq1
        by_cases er : r = x.1
        · rw [if_pos (show x.1 < k by omega), fo_sh (g := fun c => Int32.toInt64 (BI (4 * e + x.2.1 2 c))), if_pos (by omega), er, e1, show 3 * x.1 + c - 3 * x.1 = c by omega, a4 2 (by omega)]
        · rw [e0 r (by omega)]
          by_cases hxk : x.1 < k
          · rw [if_pos hxk, fo_sh (g := fun c => Int32.toInt64 (BI (4 * e + x.2.1 2 c))), if_neg (by omega)]
            exact a3 r (by omega) hrk c hc
          · rw [if_neg hxk]
            exact a3 r (by omega) hrk c hc
      · show (if x.1 < 3 then up2 x.2.1 3 x.1 e else x.2.1) a = _
        rw [if_pos hx3, up2_row ha, a4 a ha]
      · have hc : x.1 + 1 ≤ c := hc
        show (if x.1 < 3 then up2 x.2.1 3 x.1 e else x.2.1) 3 c = _
        rw [if_pos hx3, up2_n (by omega), a5 c (by omega)]
      · show sq1 k x.1 e x.2.1 BI x.2.2 a = _
        unfold sq1
        by_cases hxk : x.1 < k
        · rw [if_pos hxk]
          funext b
          rw [fo_sh (g := fun c => Int32.toInt64 (BI (4 * e + x.2.1 2 c))), if_neg (by omega), a6 a ha]
        · rw [if_neg hxk, a6 a ha]
theorem sr_0 {k m st : Nat} {BI : Nat → Int32} (hk : k ≤ 3) (hm : m ≤ 3) (AN : Nat → Nat → Nat) (AL : Nat → Nat → Int64) : SR k BI AN AL m (fo (srow k st BI) m 0 (0, AN, AL)) := by
  have := sr_run (st := st) (BI := BI) (AN := AN) (AL := AL) hk m 0 (0, AN, AL) (by omega) ⟨Nat.le_refl _, fun r h => absurd h (Nat.not_lt_zero _), fun r h => absurd h (Nat.not_lt_zero _), fun _ _ => rfl, fun _ _ => rfl, fun _ _ => rfl⟩
  rwa [Nat.zero_add] at this
/-- what a search for lines leaves as it was -/
def Kp (AN : Nat → Nat → Nat) (AL : Nat → Nat → Int64) (AN' : Nat → Nat → Nat) (AL' : Nat → Nat → Int64) : Prop := (∀ a, a ≠ 3 → AN' a = AN a) ∧ ((∀ c, c < 3 → AN 3 c < 3) → ∀ c, c < 3 → AN' 3 c < 3) ∧ ∀ a, a ≠ 5 → AL' a = AL a
theorem Kp.rfl {AN : Nat → Nat → Nat} {AL : Nat → Nat → Int64} : Kp AN AL AN AL := ⟨fun _ _ => Eq.refl _, id, fun _ _ => Eq.refl _⟩
theorem Kp.trans {AN AN' AN'' : Nat → Nat → Nat} {AL AL' AL'' : Nat → Nat → Int64} (h : Kp AN AL AN' AL') (h' : Kp AN' AL' AN'' AL'') : Kp AN AL AN'' AL'' :=
  ⟨fun a ha => (h'.1 a ha).trans (h.1 a ha), fun hc => h'.2.1 (h.2.1 hc), fun a ha => (h'.2.2 a ha).trans (h.2.2 a ha)⟩
theorem sr_kp {k m st : Nat} {BI : Nat → Int32} (hk : k ≤ 3) (hm : m ≤ 3) (AN : Nat → Nat → Nat) (AL : Nat → Nat → Int64) : Kp AN AL (fo (srow k st BI) m 0 (0, AN, AL)).2.1 (fo (srow k st BI) m 0 (0, AN, AL)).2.2 := by
  obtain ⟨a1, a2, a3, a4, a5, a6⟩ := sr_0 (st := st) (BI := BI) hk hm AN AL
  refine ⟨a4, fun h c hc => ?_, a6⟩
  by_cases e : c < (fo (srow k st BI) m 0 (0, AN, AL)).1
  · have := a2 c e; omega
  · rw [a5 c (by omega)]; exact h c hc
theorem stnd_spec {m k : Nat} {BI : Nat → Int32} (hk : k ≤ 3) (hm : m ≤ 3) : ∀ (c st : Nat) (AN : Nat → Nat → Nat) (AL : Nat → Nat → Int64), Kp AN AL (stnd m k BI c st AN AL).2.1 (stnd m k BI c st AN AL).2.2 ∧
    ((stnd m k BI c st AN AL).1 = true → (∀ r, r < k → (stnd m k BI c st AN AL).2.1 3 r < m) ∧ (∀ r, r < k → ∀ c', c' < k → (stnd m k BI c st AN AL).2.2 5 (3 * r + c') = Int32.toInt64 (BI (4 * (stnd m k BI c st AN AL).2.1 3 r + AN 2 c'))) ∧ ¬ det k ((stnd m k BI c st AN AL).2.2 5) = 0) ∧
    ((stnd m k BI c st AN AL).1 = false → ∀ s, st ≤ s → s < st + c → ∃ AN' AL', AN' 2 = AN 2 ∧ ¬ ((fo (srow k s BI) m 0 (0, AN', AL')).1 = k ∧ ¬ det k ((fo (srow k s BI) m 0 (0, AN', AL')).2.2 5) = 0))
  | 0, st, AN, AL => ⟨Kp.rfl, fun h => absurd h (by simp [stnd]), fun _ s h1 h2 => absurd h2 (by omega)⟩
  | c + 1, st, AN, AL => by
    have hs := sr_0 (st := st) (BI := BI) hk hm AN AL
    have hp := sr_kp (st := st) (BI := BI) hk hm AN AL
    unfold stnd
    by_cases h : (fo (srow k st BI) m 0 (0, AN, AL)).1 = k ∧ ¬ det k ((fo (srow k st BI) m 0 (0, AN, AL)).2.2 5) = 0
    · rw [if_pos h]
      obtain ⟨a1, a2, a3, a4, a5, a6⟩ := hs
      exact ⟨hp, fun _ => ⟨fun r hr => a2 r (by rw [h.1]; exact hr), fun r hr c' hc' => a3 r (by rw [h.1]; exact hr) hr c' hc', h.2⟩, fun h => absurd h (by simp)⟩
    · rw [if_neg h]
      obtain ⟨b1, b2, b3⟩ := stnd_spec hk hm c (st + 1) (fo (srow k st BI) m 0 (0, AN, AL)).2.1 (fo (srow k st BI) m 0 (0, AN, AL)).2.2
      have e2 := hp.1 2 (by omega)
      rw [e2] at b2
      refine ⟨hp.trans b1, b2, fun hf s h1 h2 => ?_⟩
      by_cases e : s = st
      · rw [e]; exact ⟨AN, AL, rfl, h⟩
      · obtain ⟨AN', AL', c1, c2⟩ := b3 hf s (by omega) (by omega)
        exact ⟨AN', AL', c1.trans e2, c2⟩
theorem st_one {m k : Nat} {BI : Nat → Int32} {AN : Nat → Nat → Nat} {AL : Nat → Nat → Int64} (hk : k ≤ 3) (hm : m ≤ 3) (hb : ∀ i c, i < m → c < k → -9 ≤ (BI (4 * i + AN 2 c)).toInt ∧ (BI (4 * i + AN 2 c)).toInt ≤ 9) (hf : (stdM m k BI AN AL).1 = false) (s : Nat) (hs : s < 2 ^ m) (l : Nat → Nat) (hl : ∀ r, r < k → l r < m)
    (hc : ∀ (AN' : Nat → Nat → Nat) (AL' : Nat → Nat → Int64), (fo (srow k s BI) m 0 (0, AN', AL')).1 = k ∧ ∀ r, r < k → (fo (srow k s BI) m 0 (0, AN', AL')).2.1 3 r = l r) : dz k (fun r c => (BI (4 * l r + AN 2 c)).toInt) = 0 := by
  obtain ⟨AN', AL', e2, h⟩ := (stnd_spec (BI := BI) hk hm (2 ^ m) 0 AN AL).2.2 hf s (Nat.zero_le _) (by omega)
  obtain ⟨h1, h2⟩ := hc AN' AL'
  obtain ⟨a1, a2, a3, a4, a5, a6⟩ := sr_0 (st := s) (BI := BI) hk hm AN' AL'
  have hd := det_int (k := k) (q := (fo (srow k s BI) m 0 (0, AN', AL')).2.2 5) (M := fun r c => (BI (4 * l r + AN 2 c)).toInt) (B := 9) hk (by decide) (by decide) (fun r c hr hc => by
    rw [a3 r (by omega) hr c hc, h2 r hr, t32_64, e2]
    exact ⟨rfl, hb (l r) c (hl r hr) hc⟩)
  have h3 : det k ((fo (srow k s BI) m 0 (0, AN', AL')).2.2 5) = 0 := Decidable.byContradiction (fun h' => h ⟨h1, h'⟩)
  rw [h3, z64] at hd
  exact hd.1.symm
theorem lt1 {P : Nat → Prop} (h0 : P 0) : ∀ r, r < 1 → P r := fun r hr => by
  obtain rfl : r = 0 := by omega
  exact h0
theorem lt2 {P : Nat → Prop} (h0 : P 0) (h1 : P 1) : ∀ r, r < 2 → P r := fun r hr => by
  obtain rfl | rfl : r = 0 ∨ r = 1 := by omega
  · exact h0
  · exact h1
theorem lt3 {P : Nat → Prop} (h0 : P 0) (h1 : P 1) (h2 : P 2) : ∀ r, r < 3 → P r := fun r hr => by
  obtain rfl | rfl | rfl : r = 0 ∨ r = 1 ∨ r = 2 := by omega
  · exact h0
  · exact h1
  · exact h2
def l3 (a b c : Nat) : Nat → Nat := fun r => if r = 0 then a else if r = 1 then b else c
theorem st_all {m k : Nat} {BI : Nat → Int32} {AN : Nat → Nat → Nat} {AL : Nat → Nat → Int64} (hk : k ≤ 3) (hm : m ≤ 3) (hb : ∀ i c, i < m → c < k → -9 ≤ (BI (4 * i + AN 2 c)).toInt ∧ (BI (4 * i + AN 2 c)).toInt ≤ 9) (hf : (stdM m k BI AN AL).1 = false) (l : Nat → Nat) (hl : ∀ r, r < k → l r < m) : dz k (fun r c => (BI (4 * l r + AN 2 c)).toInt) = 0 := by
  have key := fun s hs l hl hc => st_one hk hm hb hf s hs l hl hc
  obtain rfl | rfl | rfl | rfl : k = 0 ∨ k = 1 ∨ k = 2 ∨ k = 3 := by omega
  · refine key 0 (Nat.two_pow_pos m) l hl (fun AN' AL' => ⟨?_, fun r hr => absurd hr (by omega)⟩)
    have : ∀ (n e : Nat), (fo (srow 0 0 BI) n e (0, AN', AL')) = (0, AN', AL') := by
      intro n
      induction n with
      | zero => intro e; rfl
      | succ n ih => intro e; rw [fo_s, show srow 0 0 BI e (0, AN', AL') = (0, AN', AL') by unfold srow; rw [Nat.zero_div, if_pos rfl], ih]
    rw [this]
  · have h0 := hl 0 (by omega)
    have e : ∀ a, l 0 = a → dz 1 (fun r c => (BI (4 * a + AN 2 c)).toInt) = 0 → dz 1 (fun r c => (BI (4 * l r + AN 2 c)).toInt) = 0 := fun a e h => by rw [dz_1] at h ⊢; rw [e]; exact h
    obtain ha | ha | ha : l 0 = 0 ∨ l 0 = 1 ∨ l 0 = 2 := by omega
    · refine e 0 ha (key 1 ?_ (fun _ => 0) (by omega) (fun AN' AL' => ?_))
      · obtain rfl | rfl | rfl : m = 1 ∨ m = 2 ∨ m = 3 := by omega
        all_goals decide
      · obtain rfl | rfl | rfl : m = 1 ∨ m = 2 ∨ m = 3 := by omega
        all_goals exact ⟨by simp [fo, srow], lt1 (by simp [fo, srow, up2])⟩
    · refine e 1 ha (key 2 ?_ (fun _ => 1) (by omega) (fun AN' AL' => ?_))
      · obtain rfl | rfl : m = 2 ∨ m = 3 := by omega
        all_goals decide
      · obtain rfl | rfl : m = 2 ∨ m = 3 := by omega
        all_goals exact ⟨by simp [fo, srow], lt1 (by simp [fo, srow, up2])⟩
    · refine e 2 ha (key 4 ?_ (fun _ => 2) (by omega) (fun AN' AL' => ?_))
      · obtain rfl : m = 3 := by omega
        decide
      · obtain rfl : m = 3 := by omega
        exact ⟨by simp [fo, srow], lt1 (by simp [fo, srow, up2])⟩
  · have h0 := hl 0 (by omega)
    have h1 := hl 1 (by omega)
    have e : ∀ a b, l 0 = a → l 1 = b → dz 2 (fun r c => (BI (4 * l3 a b 0 r + AN 2 c)).toInt) = 0 → dz 2 (fun r c => (BI (4 * l r + AN 2 c)).toInt) = 0 := fun a b ea eb h => by
      rw [dz_2] at h ⊢; rw [ea, eb]; exact h
    have sw : ∀ a b, dz 2 (fun r c => (BI (4 * l3 a b 0 r + AN 2 c)).toInt) = 0 → dz 2 (fun r c => (BI (4 * l3 b a 0 r + AN 2 c)).toInt) = 0 := fun a b h => by
      rw [dz_2] at h ⊢
      simp only [l3] at h ⊢
      grind
    have eqq : ∀ a, dz 2 (fun r c => (BI (4 * l3 a a 0 r + AN 2 c)).toInt) = 0 := fun a => by
      rw [dz_2]
      simp only [l3]
      grind
    have k01 : 2 ≤ m → dz 2 (fun r c => (BI (4 * l3 0 1 0 r + AN 2 c)).toInt) = 0 := fun hm2 => by
      obtain rfl | rfl : m = 2 ∨ m = 3 := by omega
      all_goals exact key 3 (by decide) (l3 0 1 0) (lt2 (by simp [l3]) (by simp [l3])) (fun AN' AL' => ⟨by simp [fo, srow], lt2 (by simp [fo, srow, up2, l3]) (by simp [fo, srow, up2, l3])⟩)
    have k02 : 3 ≤ m → dz 2 (fun r c => (BI (4 * l3 0 2 0 r + AN 2 c)).toInt) = 0 := fun hm2 => by
      obtain rfl : m = 3 := by omega
      exact key 5 (by decide) (l3 0 2 0) (lt2 (by simp [l3]) (by simp [l3])) (fun AN' AL' => ⟨by simp [fo, srow], lt2 (by simp [fo, srow, up2, l3]) (by simp [fo, srow, up2, l3])⟩)
    have k12 : 3 ≤ m → dz 2 (fun r c => (BI (4 * l3 1 2 0 r + AN 2 c)).toInt) = 0 := fun hm2 => by
      obtain rfl : m = 3 := by omega
      exact key 6 (by decide) (l3 1 2 0) (lt2 (by simp [l3]) (by simp [l3])) (fun AN' AL' => ⟨by simp [fo, srow], lt2 (by simp [fo, srow, up2, l3]) (by simp [fo, srow, up2, l3])⟩)
    obtain ha | ha | ha : l 0 = 0 ∨ l 0 = 1 ∨ l 0 = 2 := by omega
    · obtain hb | hb | hb : l 1 = 0 ∨ l 1 = 1 ∨ l 1 = 2 := by omega
      · exact e _ _ ha hb (eqq _)
      · exact e _ _ ha hb (k01 (by omega))
      · exact e _ _ ha hb (k02 (by omega))
    · obtain hb | hb | hb : l 1 = 0 ∨ l 1 = 1 ∨ l 1 = 2 := by omega
      · exact e _ _ ha hb (sw _ _ (k01 (by omega)))
      · exact e _ _ ha hb (eqq _)
      · exact e _ _ ha hb (k12 (by omega))
    · obtain hb | hb | hb : l 1 = 0 ∨ l 1 = 1 ∨ l 1 = 2 := by omega
      · exact e _ _ ha hb (sw _ _ (k02 (by omega)))
      · exact e _ _ ha hb (sw _ _ (k12 (by omega)))
      · exact e _ _ ha hb (eqq _)
  · have h0 := hl 0 (by omega)
    have h1 := hl 1 (by omega)
    have h2 := hl 2 (by omega)
    have k012 : 3 ≤ m → dz 3 (fun r c => (BI (4 * l3 0 1 2 r + AN 2 c)).toInt) = 0 := fun hm2 => by
      obtain rfl : m = 3 := by omega
      exact key 7 (by decide) (l3 0 1 2) (lt3 (by simp [l3]) (by simp [l3]) (by simp [l3])) (fun AN' AL' => ⟨by simp [fo, srow], lt3 (by simp [fo, srow, up2, l3]) (by simp [fo, srow, up2, l3]) (by simp [fo, srow, up2, l3])⟩)
    have q : ∀ a b c, l 0 = a → l 1 = b → l 2 = c → (a = b ∨ a = c ∨ b = c) → dz 3 (fun r c => (BI (4 * l r + AN 2 c)).toInt) = 0 := fun a b c ea eb ec h => by
      rw [dz_3]
      rcases h with h | h | h <;> grind
    by_cases c1 : l 0 = l 1
    · exact q _ _ _ rfl rfl rfl (.inl c1)
    · by_cases c2 : l 0 = l 2
      · exact q _ _ _ rfl rfl rfl (.inr (.inl c2))
      · by_cases c3 : l 1 = l 2
        · exact q _ _ _ rfl rfl rfl (.inr (.inr c3))
        · have k := k012 (by omega)
          rw [dz_3] at k ⊢
          simp only [l3] at k
          obtain ⟨ha, hb, hc⟩ | ⟨ha, hb, hc⟩ | ⟨ha, hb, hc⟩ | ⟨ha, hb, hc⟩ | ⟨ha, hb, hc⟩ | ⟨ha, hb, hc⟩ : (l 0 = 0 ∧ l 1 = 1 ∧ l 2 = 2) ∨ (l 0 = 0 ∧ l 1 = 2 ∧ l 2 = 1) ∨ (l 0 = 1 ∧ l 1 = 0 ∧ l 2 = 2) ∨ (l 0 = 1 ∧ l 1 = 2 ∧ l 2 = 0) ∨ (l 0 = 2 ∧ l 1 = 0 ∧ l 2 = 1) ∨ (l 0 = 2 ∧ l 1 = 1 ∧ l 2 = 0) := by omega
          all_goals rw [ha, hb, hc]; simp at k; grind
/-! Model's look, held against the class's elimination. -/
theorem dz_congr {k : Nat} {M N : Nat → Nat → Int} (hk : k ≤ 3) (h : ∀ r c, r < k → c < k → M r c = N r c) : dz k M = dz k N := by
  obtain rfl | rfl | rfl | rfl : k = 0 ∨ k = 1 ∨ k = 2 ∨ k = 3 := by omega
  · rfl
  · rw [dz_1, dz_1, h 0 0 (by omega) (by omega)]
  · rw [dz_2, dz_2, h 0 0 (by omega) (by omega), h 0 1 (by omega) (by omega), h 1 0 (by omega) (by omega), h 1 1 (by omega) (by omega)]
  · rw [dz_3, dz_3, h 0 0 (by omega) (by omega), h 0 1 (by omega) (by omega), h 0 2 (by omega) (by omega), h 1 0 (by omega) (by omega), h 1 1 (by omega) (by omega), h 1 2 (by omega) (by omega), h 2 0 (by omega) (by omega), h 2 1 (by omega) (by omega), h 2 2 (by omega) (by omega)]
theorem spr {d : Nat} {dec : Nat → Nat} (y : Nat → Int) (hinc : ∀ r s, r < s → s < d → dec r < dec s) : ∃ z : Nat → Int, (∀ c, c < d → z (dec c) = y c) ∧ (∀ t, (∀ c, c < d → t ≠ dec c) → z t = 0) ∧ ∀ (f : Nat → Int) (N : Nat), (∀ c, c < d → dec c < N) → dt f z N 0 = dt (fun c => f (dec c)) y d 0 := by
  let z : Nat → Int := fun t => match fnd (fun c => dec c = t) d 0 with
    | some c => y c
    | none => 0
  have hy1 : ∀ c, c < d → z (dec c) = y c := by
    intro c hc
    show (match fnd (fun c' => dec c' = dec c) d 0 with | some c => y c | none => 0) = _
    cases hf : fnd (fun c' => dec c' = dec c) d 0 with
    | none => exact absurd rfl (fnd_none hf c (Nat.zero_le _) (by omega))
    | some c' =>
      obtain ⟨_, g2, g3, _⟩ := fnd_some hf
      have : c' = c := by
        rcases Nat.lt_trichotomy c' c with h | h | h
        · have := hinc c' c h hc; omega
        · exact h
        · have := hinc c c' h (by omega); omega
      rw [this]
  have hy2 : ∀ t, (∀ c, c < d → t ≠ dec c) → z t = 0 := by
    intro t ht
    show (match fnd (fun c' => dec c' = t) d 0 with | some c => y c | none => 0) = _
    cases hf : fnd (fun c' => dec c' = t) d 0 with
    | none => rfl
    | some c' =>
      obtain ⟨_, g2, g3, _⟩ := fnd_some hf
      exact absurd g3.symm (ht c' (by omega))
  refine ⟨z, hy1, hy2, fun f N hN => ?_⟩
  rw [dt_sup d 0 z (fun r s _ h1 h2 => Nat.ne_of_lt (hinc r s h1 (by omega))) (fun r _ h2 => hN r (by omega)) (fun t _ ht => hy2 t (fun c hc => ht c (Nat.zero_le _) (by omega)))]
  exact dt_cx d 0 (fun c _ hc => hy1 c (by omega))
theorem bord {n m k : Nat} {A : Nat → Nat → Int} {dec l : Nat → Nat} (hk : k ≤ 2) (hinc : ∀ r s, r < s → s < k + 1 → dec r < dec s) (hN : ∀ c, c < k + 1 → dec c < n + 1) (hD : dz k (fun r c => A (l r) (dec c)) ≠ 0) (h0 : ∀ g, g < m → dz (k + 1) (fun r c => A (if r < k then l r else g) (dec c)) = 0) : ∃ z, Ker n m A z ∧ z (dec k) ≠ 0 ∧ ∀ t, (∀ c, c < k + 1 → t ≠ dec c) → z t = 0 := by
  have main : ∀ y : Nat → Int, (∀ g, g < m → dt (fun c => A g (dec c)) y (k + 1) 0 = dz (k + 1) (fun r c => A (if r < k then l r else g) (dec c))) → y k = dz k (fun r c => A (l r) (dec c)) → ∃ z, Ker n m A z ∧ z (dec k) ≠ 0 ∧ ∀ t, (∀ c, c < k + 1 → t ≠ dec c) → z t = 0 := by
    intro y h1 h2
    obtain ⟨z, z1, z2, z3⟩ := spr y hinc
    refine ⟨z, fun g hg => ?_, ?_, z2⟩
    · rw [z3 _ _ hN, h1 g hg, h0 g hg]
    · rw [z1 k (by omega), h2]; exact hD
  obtain rfl | rfl | rfl : k = 0 ∨ k = 1 ∨ k = 2 := by omega
  · refine main (fun _ => 1) (fun g hg => ?_) rfl
    rw [dz_1]
    simp only [dt]
    simp
  · refine main (fun c => if c = 0 then -A (l 0) (dec 1) else A (l 0) (dec 0)) (fun g hg => ?_) ?_
    · rw [dz_2]
      simp only [dt]
      simp
      grind
    · rw [dz_1]
      rfl
  · refine main (fun c => if c = 0 then A (l 0) (dec 1) * A (l 1) (dec 2) - A (l 0) (dec 2) * A (l 1) (dec 1) else if c = 1 then A (l 0) (dec 2) * A (l 1) (dec 0) - A (l 0) (dec 0) * A (l 1) (dec 2) else A (l 0) (dec 0) * A (l 1) (dec 1) - A (l 0) (dec 1) * A (l 1) (dec 0)) (fun g hg => ?_) ?_
    · rw [dz_3]
      simp only [dt]
      simp
      grind
    · rw [dz_2]
      rfl
theorem stdM_spec {m k : Nat} {BI : Nat → Int32} (hk : k ≤ 3) (hm : m ≤ 3) (AN : Nat → Nat → Nat) (AL : Nat → Nat → Int64) : Kp AN AL (stdM m k BI AN AL).2.1 (stdM m k BI AN AL).2.2 ∧ ((stdM m k BI AN AL).1 = true → (∀ r, r < k → (stdM m k BI AN AL).2.1 3 r < m) ∧ (∀ r, r < k → ∀ c', c' < k → (stdM m k BI AN AL).2.2 5 (3 * r + c') = Int32.toInt64 (BI (4 * (stdM m k BI AN AL).2.1 3 r + AN 2 c'))) ∧ ¬ det k ((stdM m k BI AN AL).2.2 5) = 0) :=
  ⟨(stnd_spec hk hm (2 ^ m) 0 AN AL).1, (stnd_spec hk hm (2 ^ m) 0 AN AL).2.1⟩
theorem dec_ge {d : Nat} {dec : Nat → Nat} (hinc : ∀ r s, r < s → s < d → dec r < dec s) : ∀ c, c < d → c ≤ dec c
  | 0, _ => Nat.zero_le _
  | c + 1, h => by
    have h1 := dec_ge hinc c (by omega)
    have h2 := hinc c (c + 1) (by omega) h
    omega
def LI (m d : Nat) (dec : Nat → Nat) (A : Nat → Nat → Int) (AN0 : Nat → Nat → Nat) (AL0 : Nat → Nat → Int64) (j : Nat) (x : Nat × (Nat → Nat → Nat) × (Nat → Nat → Int64)) : Prop :=
  x.1 ≤ d ∧ (∀ c, c < x.1 → x.2.1 2 c = dec c) ∧ (∀ c, c < x.1 → dec c < j) ∧ (x.1 < d → j ≤ dec x.1) ∧ okA x.2.1 ∧ (∀ t, t < j → (x.2.1 4 t = 0 ↔ ∃ c, c < d ∧ dec c = t)) ∧ (∃ l : Nat → Nat, (∀ r, r < x.1 → l r < m) ∧ dz x.1 (fun r c => A (l r) (dec c)) ≠ 0) ∧ (∀ a, a ≠ 2 → a ≠ 3 → a ≠ 4 → x.2.1 a = AN0 a) ∧ ∀ a, a ≠ 5 → x.2.2 a = AL0 a
/-- Model's numbers are those of A -/
def Bm (n m : Nat) (A : Nat → Nat → Int) (BI : Nat → Int32) : Prop := (∀ i j, i < m → j < n → (BI (4 * i + j)).toInt = A i j) ∧ (∀ i, i < m → (BI (4 * i + 3)).toInt = A i n) ∧ ∀ i j, i < m → j ≤ n → -9 ≤ A i j ∧ A i j ≤ 9
theorem lk_step {n m d j : Nat} {dec : Nat → Nat} {A V : Nat → Nat → Int} {BI : Nat → Int32} {AN0 : Nat → Nat → Nat} {AL0 : Nat → Nat → Int64} (hn : n ≤ 3) (hm : m ≤ 3) (hE : EI n m n d dec V) (hK : ∀ x, Ker n m A x ↔ Ker n m V x) (hB : Bm n m A BI) (hj : j < n) {x : Nat × (Nat → Nat → Nat) × (Nat → Nat → Int64)} (hx : LI m d dec A AN0 AL0 j x) : LI m d dec A AN0 AL0 (j + 1) (lstep m BI j x) := by
  obtain ⟨k, AN, AL⟩ := x
  have hE0 := hE
  obtain ⟨a1, a2, a3, a4, a5, a6, a7, a8⟩ := hE
  obtain ⟨b1, b2, b3, b4, b5, b6, ⟨l, hl, hD⟩, b8, b9⟩ := hx
  dsimp only at b1 b2 b3 b4 b5 b6 hl hD b8 b9
  have hkj : k ≤ j := by
    by_cases hk0 : k = 0
    · omega
    · have h1 := dec_ge (d := d) a4 (k - 1) (by omega)
      have h2 := b3 (k - 1) (by omega)
      omega
  have cl : ∀ c, c < k + 1 → up2 AN 2 k j 2 c = if c = k then j else dec c := fun c hc => by
    by_cases e : c = k
    · rw [e, up2_s, if_pos rfl]
    · rw [up2_n (by omega), if_neg e, b2 c (by omega)]
  have clj : ∀ c, c < k + 1 → up2 AN 2 k j 2 c < n := fun c hc => by
    rw [cl c hc]
    by_cases e : c = k
    · rw [if_pos e]; exact hj
    · rw [if_neg e]; have := b3 c (by omega); omega
  have hbb : ∀ i c, i < m → c < k + 1 → -9 ≤ (BI (4 * i + up2 AN 2 k j 2 c)).toInt ∧ (BI (4 * i + up2 AN 2 k j 2 c)).toInt ≤ 9 := fun i c hi hc => by
    rw [hB.1 i _ hi (clj c hc)]
    exact hB.2.2 i _ hi (by have := clj c hc; omega)
  have okA2 : okA (up2 AN 2 k j) := by
    refine ⟨fun c hc => ?_, fun c hc => ?_, fun c hc => ?_, fun c hc => ?_⟩
    · by_cases e : c = k
      · rw [e, up2_s]; omega
      · rw [up2_n (by omega)]; exact b5.1 c hc
    · rw [up2_n (by omega)]; exact b5.2.1 c hc
    · rw [up2_n (by omega)]; exact b5.2.2.1 c hc
    · rw [up2_n (by omega)]; exact b5.2.2.2 c hc
  have fin : ∀ (AN' : Nat → Nat → Nat) (AL' : Nat → Nat → Int64) (v : Nat), v < 2 → Kp (up2 AN 2 k j) AL AN' AL' → okA (up2 AN' 4 j v) ∧ (∀ c, c < k → up2 AN' 4 j v 2 c = dec c) ∧ up2 AN' 4 j v 2 k = j ∧ (∀ t, t < j → (up2 AN' 4 j v 4 t = 0 ↔ ∃ c, c < d ∧ dec c = t)) ∧ (∀ a, a ≠ 2 → a ≠ 3 → a ≠ 4 → up2 AN' 4 j v a = AN0 a) ∧ ∀ a, a ≠ 5 → AL' a = AL0 a := by
    intro AN' AL' v hv hp
    refine ⟨⟨fun c hc => ?_, fun c hc => ?_, fun c hc => ?_, fun c hc => ?_⟩, fun c hc => ?_, ?_, fun t ht => ?_, fun a e2 e3 e4 => ?_, fun a ha => (hp.2.2 a ha).trans (b9 a ha)⟩
    · rw [up2_n (by omega), hp.1 2 (by omega)]; exact okA2.1 c hc
    · rw [up2_n (by omega)]; exact hp.2.1 okA2.2.1 c hc
    · by_cases e : c = j
      · rw [e, up2_s]; exact hv
      · rw [up2_n (by omega), hp.1 4 (by omega)]; exact okA2.2.2.1 c hc
    · rw [up2_n (by omega), hp.1 10 (by omega)]; exact okA2.2.2.2 c hc
    · rw [up2_n (by omega), hp.1 2 (by omega), cl c (by omega), if_neg (by omega)]
    · rw [up2_n (by omega), hp.1 2 (by omega), up2_s]
    · rw [up2_n (by omega), hp.1 4 (by omega), up2_n (by omega)]
      exact b6 t ht
    · rw [up2_row e4, hp.1 a e3, up2_row e2]
      exact b8 a e2 e3 e4
  have rej : (¬ ∃ c, c < d ∧ dec c = j) → ∀ (AN' : Nat → Nat → Nat) (AL' : Nat → Nat → Int64), Kp (up2 AN 2 k j) AL AN' AL' → LI m d dec A AN0 AL0 (j + 1) (k, up2 AN' 4 j 1, AL') := by
    intro hfree AN' AL' hp
    obtain ⟨f1, f2, _, f4, f5, f6⟩ := fin AN' AL' 1 (by omega) hp
    refine ⟨b1, f2, fun c hc => Nat.lt_succ_of_lt (b3 c hc), fun hkd => ?_, f1, fun t ht => ?_, ⟨l, hl, hD⟩, f5, f6⟩
    · have := b4 hkd
      have h2 : dec k ≠ j := fun e => hfree ⟨k, hkd, e⟩
      show j + 1 ≤ dec k
      omega
    · by_cases e : t = j
      · rw [e]
        show up2 AN' 4 j 1 4 j = 0 ↔ _
        rw [up2_s]
        exact ⟨fun h => absurd h (by omega), fun h => absurd h hfree⟩
      · exact f4 t (by omega)
  unfold lstep
  dsimp only
  by_cases hdec : k < d ∧ dec k = j
  · obtain ⟨hkd, hdk⟩ := hdec
    rw [if_neg (show ¬ k = m by omega)]
    have hcd : ∀ c, c < k + 1 → up2 AN 2 k j 2 c = dec c := fun c hc => by
      rw [cl c hc]
      by_cases e : c = k
      · rw [if_pos e, e, hdk]
      · rw [if_neg e]
    have hdn : ∀ c, c < k + 1 → dec c < n := fun c hc => a3 c (by omega)
    have hacc : (stdM m (k + 1) BI (up2 AN 2 k j) AL).1 = true := by
      refine eq_true_of_ne_false (fun hf => ?_)
      have hall := st_all (by omega) hm hbb hf
      obtain ⟨z, z1, z2, z3⟩ := bord (n := n) (m := m) (k := k) (A := A) (dec := dec) (l := l) (by omega) (fun r s h1 h2 => a4 r s h1 (by omega)) (fun c hc => Nat.lt_succ_of_lt (hdn c hc)) hD (fun g hg => by
        have hl' : ∀ r, r < k + 1 → (if r < k then l r else g) < m := fun r hr => by
          by_cases e : r < k
          · rw [if_pos e]; exact hl r e
          · rw [if_neg e]; exact hg
        rw [← hall (fun r => if r < k then l r else g) hl']
        exact dz_congr (by omega) (fun r c hr hc => by rw [hcd c hc, hB.1 _ _ (hl' r hr) (hdn c hc)]))
      have h1 := (hK z).mp z1 k (by omega)
      rw [dt_sup (dec := dec) (k + 1) 0 z (fun r s _ h1 h2 => Nat.ne_of_lt (a4 r s h1 (by omega))) (fun r _ h2 => by have := hdn r (by omega); omega) (fun t _ ht => z3 t (fun c hc => ht c (Nat.zero_le _) (by omega))), dt_f1 (k := k) (k + 1) 0 (Nat.zero_le _) (by omega) (fun c _ hc hck => a6 c (by omega) k (by omega) (fun e => hck e.symm))] at h1
      rcases Int.mul_eq_zero.mp h1 with h2 | h2
      · have := a5 k hkd; omega
      · exact z2 h2
    rw [if_pos hacc]
    obtain ⟨c1, c2⟩ := stdM_spec (BI := BI) (k := k + 1) (m := m) (by omega) hm (up2 AN 2 k j) AL
    obtain ⟨c2, c3, c4⟩ := c2 hacc
    obtain ⟨f1, f2, f3, f4, f5, f6⟩ := fin _ _ 0 (by omega) c1
    have f2' : ∀ c, c < k + 1 → up2 (stdM m (k + 1) BI (up2 AN 2 k j) AL).2.1 4 j 0 2 c = dec c := fun c hc => by
      by_cases e : c = k
      · rw [e, hdk]; exact f3
      · exact f2 c (by omega)
    refine ⟨hkd, f2', fun c hc => ?_, fun hkd' => ?_, f1, fun t ht => ?_, ⟨(stdM m (k + 1) BI (up2 AN 2 k j) AL).2.1 3, c2, fun h0 => c4 ?_⟩, f5, f6⟩
    · have hc : c < k + 1 := hc
      by_cases e : c = k
      · rw [e, hdk]; omega
      · have := b3 c (by omega); omega
    · have := a4 k (k + 1) (by omega) hkd'
      show j + 1 ≤ dec (k + 1)
      omega
    · by_cases e : t = j
      · rw [e]
        show up2 _ 4 j 0 4 j = 0 ↔ _
        rw [up2_s]
        exact ⟨fun _ => ⟨k, hkd, hdk⟩, fun _ => rfl⟩
      · exact f4 t (by omega)
    · have hd := det_int (k := k + 1) (q := (stdM m (k + 1) BI (up2 AN 2 k j) AL).2.2 5) (M := fun r c => A ((stdM m (k + 1) BI (up2 AN 2 k j) AL).2.1 3 r) (dec c)) (B := 9) (by omega) (by decide) (by decide) (fun r c hr hc => by
        have e := c3 r hr c hc
        have e2 : (stdM m (k + 1) BI (up2 AN 2 k j) AL).2.2 5 (3 * r + c) = Int32.toInt64 (BI (4 * (stdM m (k + 1) BI (up2 AN 2 k j) AL).2.1 3 r + dec c)) := by rw [← hcd c hc]; exact e
        rw [e2, t32_64, hB.1 _ _ (c2 r hr) (hdn c hc)]
        exact ⟨rfl, hB.2.2 _ _ (c2 r hr) (by have := hdn c hc; omega)⟩)
      refine Int64.toInt_inj.mp ?_
      rw [z64]
      exact hd.1.trans h0
  · have hfree : ¬ ∃ c, c < d ∧ dec c = j := by
      rintro ⟨c, hc, e⟩
      by_cases h1 : c < k
      · have := b3 c h1; omega
      · by_cases h2 : c = k
        · exact hdec ⟨by omega, by rw [← h2]; exact e⟩
        · have h3 := b4 (by omega)
          have h4 := a4 k c (by omega) hc
          omega
    by_cases hkm : k = m
    · rw [if_pos hkm]
      exact rej hfree _ _ Kp.rfl
    · rw [if_neg hkm]
      have hrej : (stdM m (k + 1) BI (up2 AN 2 k j) AL).1 = false := by
        refine eq_false_of_ne_true (fun hacc => ?_)
        obtain ⟨c1, c2⟩ := stdM_spec (BI := BI) (k := k + 1) (m := m) (by omega) hm (up2 AN 2 k j) AL
        obtain ⟨c2, c3, c4⟩ := c2 hacc
        have hd := det_int (k := k + 1) (q := (stdM m (k + 1) BI (up2 AN 2 k j) AL).2.2 5) (M := fun r c => A ((stdM m (k + 1) BI (up2 AN 2 k j) AL).2.1 3 r) (up2 AN 2 k j 2 c)) (B := 9) (by omega) (by decide) (by decide) (fun r c hr hc => by
          have e2 : (stdM m (k + 1) BI (up2 AN 2 k j) AL).2.2 5 (3 * r + c) = Int32.toInt64 (BI (4 * (stdM m (k + 1) BI (up2 AN 2 k j) AL).2.1 3 r + up2 AN 2 k j 2 c)) := c3 r hr c hc
          rw [e2, t32_64, hB.1 _ _ (c2 r hr) (clj c hc)]
          exact ⟨rfl, hB.2.2 _ _ (c2 r hr) (by have := clj c hc; omega)⟩)
        obtain ⟨P, hP, hz⟩ := ei_kv (Nat.le_refl _) hE0
        obtain ⟨z, z1, z2, z3, z4⟩ := hz j (by omega) (fun i hi1 hi2 => a8 i hi1 hi2 j hj) (fun c hc e => hfree ⟨c, hc, e⟩)
        have z1 := (hK z).mpr z1
        have hinj : ∀ r s, 0 ≤ r → r < s → s < 0 + (k + 1) → up2 AN 2 k j 2 r ≠ up2 AN 2 k j 2 s := fun r s _ h1 h2 => by
          rw [cl r (by omega), cl s (by omega), if_neg (by omega)]
          by_cases e : s = k
          · rw [if_pos e]; have := b3 r (by omega); omega
          · rw [if_neg e]; have := a4 r s h1 (by omega); omega
        have hu := dz_unique (k := k + 1) (M := fun r c => A ((stdM m (k + 1) BI (up2 AN 2 k j) AL).2.1 3 r) (up2 AN 2 k j 2 c)) (y := fun c => z (up2 AN 2 k j 2 c)) (by omega) (fun h0 => c4 (Int64.toInt_inj.mp (by rw [z64]; exact hd.1.trans h0))) (fun r hr => by
          have h1 := z1 _ (c2 r hr)
          rw [dt_sup (dec := up2 AN 2 k j 2) (k + 1) 0 z hinj (fun r _ h2 => by have := clj r (by omega); omega) (fun t ht htc => by
            by_cases e : t = j
            · exact absurd (by rw [cl k (by omega), if_pos rfl]; exact e) (htc k (Nat.zero_le _) (by omega))
            · by_cases e2 : ∃ c, c < d ∧ t = dec c
              · obtain ⟨c, hc, e3⟩ := e2
                rw [e3]
                refine z4 c hc (a7 c hc j ?_)
                have hck : ¬ c < k := fun hck => htc c (Nat.zero_le _) (by omega) (by rw [cl c (by omega), if_neg (by omega)]; exact e3)
                have h5 := b4 (by omega)
                by_cases e6 : c = k
                · rw [e6]
                  have : dec k ≠ j := fun e7 => hfree ⟨k, by omega, e7⟩
                  omega
                · have := a4 k c (by omega) hc
                  omega
              · exact z3 t e (fun c hc e3 => e2 ⟨c, hc, e3⟩))] at h1
          exact h1) k (by omega)
        have hu : z (up2 AN 2 k j 2 k) = 0 := hu
        rw [up2_s, z2] at hu
        omega
      rw [if_neg (by rw [hrej]; simp)]
      exact rej hfree _ _ (stdM_spec (BI := BI) (k := k + 1) (m := m) (by omega) hm (up2 AN 2 k j) AL).1
theorem lk_run {n m d : Nat} {dec : Nat → Nat} {A V : Nat → Nat → Int} {BI : Nat → Int32} {AN0 : Nat → Nat → Nat} {AL0 : Nat → Nat → Int64} (hn : n ≤ 3) (hm : m ≤ 3) (hE : EI n m n d dec V) (hK : ∀ x, Ker n m A x ↔ Ker n m V x) (hB : Bm n m A BI) : ∀ (c j : Nat) (x : Nat × (Nat → Nat → Nat) × (Nat → Nat → Int64)), j + c = n → LI m d dec A AN0 AL0 j x → LI m d dec A AN0 AL0 n (fo (lstep m BI) c j x)
  | 0, j, x, hj, h => by
    obtain rfl : j = n := by omega
    exact h
  | c + 1, j, x, hj, h => by
    rw [fo_s]
    exact lk_run hn hm hE hK hB c (j + 1) _ (by omega) (lk_step hn hm hE hK hB (by omega) h)
/-- what the look leaves: rank, columns, lines, free unknowns -/
def LK (n m d : Nat) (dec : Nat → Nat) (A : Nat → Nat → Int) (AN0 : Nat → Nat → Nat) (AL0 : Nat → Nat → Int64) (x : Nat × (Nat → Nat → Nat) × (Nat → Nat → Int64)) : Prop :=
  x.1 = d ∧ (∀ c, c < d → x.2.1 2 c = dec c) ∧ okA x.2.1 ∧ (∀ t, t < n → (x.2.1 4 t = 0 ↔ ∃ c, c < d ∧ dec c = t)) ∧ ((∀ r, r < d → x.2.1 3 r < m) ∧ dz d (fun r c => A (x.2.1 3 r) (dec c)) ≠ 0) ∧ (∀ a, a ≠ 2 → a ≠ 3 → a ≠ 4 → x.2.1 a = AN0 a) ∧ ∀ a, a ≠ 5 → x.2.2 a = AL0 a
theorem lk_all {n m d : Nat} {dec : Nat → Nat} {A V : Nat → Nat → Int} {BI : Nat → Int32} {AN0 : Nat → Nat → Nat} {AL0 : Nat → Nat → Int64} (hn : n ≤ 3) (hm : m ≤ 3) (hE : EI n m n d dec V) (hK : ∀ x, Ker n m A x ↔ Ker n m V x) (hB : Bm n m A BI) (hok : okA AN0) : LK n m d dec A AN0 AL0 (lkF n m BI AN0 AL0) := by
  have h := lk_run (AN0 := AN0) (AL0 := AL0) hn hm hE hK hB n 0 (0, AN0, AL0) (by omega) ⟨Nat.zero_le _, fun c hc => absurd hc (Nat.not_lt_zero _), fun c hc => absurd hc (Nat.not_lt_zero _), fun _ => Nat.zero_le _, hok, fun t ht => absurd ht (Nat.not_lt_zero _), ⟨fun _ => 0, fun c hc => absurd hc (Nat.not_lt_zero _), fun h => absurd h (by show (1 : Int) ≠ 0; decide)⟩, fun _ _ _ _ => rfl, fun _ _ => rfl⟩
  have e : fo (lstep m BI) n 0 (0, AN0, AL0) = lkX n m BI AN0 AL0 := rfl
  rw [e] at h
  unfold lkF
  obtain ⟨⟨k, AN, AL⟩, hx⟩ : ∃ x, x = lkX n m BI AN0 AL0 := ⟨_, rfl⟩
  rw [← hx] at h ⊢
  obtain ⟨a1, a2, a3, a4, a5, a6, a7, a8⟩ := hE
  obtain ⟨b1, b2, b3, b4, b5, b6, ⟨l, hl, hD⟩, b8, b9⟩ := h
  dsimp only at b1 b2 b3 b4 b5 b6 hl hD b8 b9 ⊢
  obtain rfl : k = d := by
    by_cases h1 : k < d
    · have := b4 h1
      have := a3 k h1
      omega
    · omega
  have hk3 : k ≤ 3 := by omega
  have hbb : ∀ i c, i < m → c < k → -9 ≤ (BI (4 * i + AN 2 c)).toInt ∧ (BI (4 * i + AN 2 c)).toInt ≤ 9 := fun i c hi hc => by
    have := a3 c hc
    rw [b2 c hc, hB.1 i _ hi this]
    exact hB.2.2 i _ hi (by omega)
  have hacc : (stdM m k BI AN AL).1 = true := by
    refine eq_true_of_ne_false (fun hf => hD ?_)
    rw [← st_all hk3 hm hbb hf l hl]
    exact dz_congr hk3 (fun r c hr hc => by rw [b2 c hc, hB.1 _ _ (hl r hr) (a3 c hc)])
  obtain ⟨c1, c2⟩ := stdM_spec (BI := BI) (k := k) (m := m) hk3 hm AN AL
  obtain ⟨c2, c3, c4⟩ := c2 hacc
  have hd := det_int (k := k) (q := (stdM m k BI AN AL).2.2 5) (M := fun r c => A ((stdM m k BI AN AL).2.1 3 r) (dec c)) (B := 9) hk3 (by decide) (by decide) (fun r c hr hc => by
    have e2 : (stdM m k BI AN AL).2.2 5 (3 * r + c) = Int32.toInt64 (BI (4 * (stdM m k BI AN AL).2.1 3 r + dec c)) := by rw [← b2 c hc]; exact c3 r hr c hc
    rw [e2, t32_64, hB.1 _ _ (c2 r hr) (a3 c hc)]
    exact ⟨rfl, hB.2.2 _ _ (c2 r hr) (by have := a3 c hc; omega)⟩)
  refine ⟨rfl, fun c hc => ?_, ⟨fun c hc => ?_, fun c hc => ?_, fun c hc => ?_, fun c hc => ?_⟩, fun t ht => ?_, ⟨c2, fun h0 => c4 (Int64.toInt_inj.mp (by rw [z64]; exact hd.1.trans h0))⟩, fun a e2 e3 e4 => (c1.1 a e3).trans (b8 a e2 e3 e4), fun a ha => (c1.2.2 a ha).trans (b9 a ha)⟩
  · show (stdM m k BI AN AL).2.1 2 c = dec c
    rw [show (stdM m k BI AN AL).2.1 2 = AN 2 from c1.1 2 (by omega)]
    exact b2 c hc
  · show (stdM m k BI AN AL).2.1 2 c < 3
    rw [show (stdM m k BI AN AL).2.1 2 = AN 2 from c1.1 2 (by omega)]
    exact b5.1 c hc
  · exact c1.2.1 b5.2.1 c hc
  · show (stdM m k BI AN AL).2.1 4 c < 2
    rw [show (stdM m k BI AN AL).2.1 4 = AN 4 from c1.1 4 (by omega)]
    exact b5.2.2.1 c hc
  · show (stdM m k BI AN AL).2.1 10 c < 3
    rw [show (stdM m k BI AN AL).2.1 10 = AN 10 from c1.1 10 (by omega)]
    exact b5.2.2.2 c hc
  · show (stdM m k BI AN AL).2.1 4 t = 0 ↔ _
    rw [show (stdM m k BI AN AL).2.1 4 = AN 4 from c1.1 4 (by omega)]
    exact b6 t ht
