/-! The class's elimination, over the whole numbers. -/
theorem fo_two {α : Type} {r s : Nat} (hrs : s ≠ r) {F : Nat → α → α → α} : ∀ (n i : Nat) (A : Nat → Nat → α) (a b : Nat), fo (fun j X => up2 X r j (F j (X r j) (X s j))) n i A a b = if a = r ∧ i ≤ b ∧ b < i + n then F b (A r b) (A s b) else A a b
  | 0, i, A, a, b => by rw [fo_0, if_neg (by omega)]
  | n + 1, i, A, a, b => by
    rw [fo_s, fo_two hrs n (i + 1)]
    by_cases h : a = r ∧ i + 1 ≤ b ∧ b < i + 1 + n
    · rw [if_pos h, if_pos (by omega), up2_n (by omega), up2_n (by omega)]
    · rw [if_neg h]
      by_cases h2 : a = r ∧ b = i
      · obtain ⟨rfl, rfl⟩ := h2
        rw [up2_s, if_pos (by omega)]
      · rw [up2_n h2, if_neg (by omega)]
theorem fo_one {α : Type} {r : Nat} {F : Nat → α → α} : ∀ (n i : Nat) (A : Nat → Nat → α) (a b : Nat), fo (fun j X => up2 X r j (F j (X r j))) n i A a b = if a = r ∧ i ≤ b ∧ b < i + n then F b (A r b) else A a b :=
  fun n i A a b => fo_two (s := r + 1) (by omega) (F := fun j x _ => F j x) n i A a b
theorem fo_exc {α : Type} {r s : Nat} : ∀ (n i : Nat) (A : Nat → Nat → α) (a b : Nat), fo (fun j X => up2 (up2 X r j (X s j)) s j (X r j)) n i A a b = if i ≤ b ∧ b < i + n then (if a = r then A s b else if a = s then A r b else A a b) else A a b
  | 0, i, A, a, b => by rw [fo_0, if_neg (by omega)]
  | n + 1, i, A, a, b => by
    rw [fo_s, fo_exc n (i + 1)]
    by_cases h : i + 1 ≤ b ∧ b < i + 1 + n
    · have e : ∀ c, up2 (up2 A r i (A s i)) s i (A r i) c b = A c b := fun c => by rw [up2_n (by omega), up2_n (by omega)]
      rw [if_pos h, if_pos (show i ≤ b ∧ b < i + (n + 1) by omega), e, e, e]
    · rw [if_neg h]
      by_cases h2 : b = i
      · subst h2
        rw [if_pos (by omega)]
        by_cases h3 : a = s
        · subst h3
          rw [up2_s, if_pos rfl]
          by_cases h4 : a = r
          · rw [if_pos h4, h4]
          · rw [if_neg h4]
        · rw [up2_n (by omega), if_neg h3]
          by_cases h4 : a = r
          · subst h4
            rw [up2_s, if_pos rfl]
          · rw [up2_n (by omega), if_neg h4]
      · rw [up2_n (by omega), up2_n (by omega), if_neg (by omega)]
/-- a row of the elimination, over the whole numbers -/
abbrev vE (X : Nat → Nat → Int64) (i j : Nat) : Int := (X (i + 11) j).toInt
def dt (f x : Nat → Int) : Nat → Nat → Int
  | 0, _ => 0
  | n + 1, i => f i * x i + dt f x n (i + 1)
theorem dt_lin {f g p x : Nat → Int} {s a b : Int} : ∀ (n i : Nat), (∀ j, i ≤ j → j < i + n → s * g j = f j * a - p j * b) → s * dt g x n i = dt f x n i * a - dt p x n i * b
  | 0, _, _ => by simp only [dt]; omega
  | n + 1, i, h => by
    have h1 := dt_lin n (i + 1) (fun j h1 h2 => h j (by omega) (by omega)) (x := x)
    have h2 := h i (by omega) (by omega)
    simp only [dt]
    grind
theorem dt_congr {f g x : Nat → Int} : ∀ (n i : Nat), (∀ j, i ≤ j → j < i + n → g j = f j) → dt g x n i = dt f x n i
  | 0, _, _ => rfl
  | n + 1, i, h => by
    simp only [dt]
    rw [h i (by omega) (by omega), dt_congr n (i + 1) (fun j h1 h2 => h j (by omega) (by omega))]
def Bd (B : Int) (f : Nat → Int) (w : Nat) : Prop := ∀ j, j ≤ w → -B ≤ f j ∧ f j ≤ B
def Prm (w : Nat) (f : Nat → Int) : Prop := ∀ d, (∀ j, j ≤ w → d ∣ f j) → d ∣ 1
/-- what a row becomes when it is cleared by another -/
def Cl (w q : Nat) (f p g : Nat → Int) : Prop := (f q = 0 ∧ ∀ j, j ≤ w → g j = f j) ∨ (f q ≠ 0 ∧ ∃ s : Int, 1 ≤ s ∧ (∀ j, j ≤ w → s * g j = f j * p q - p j * f q) ∧ ((∃ j, j ≤ w ∧ g j ≠ 0) → Prm w g))
theorem fo_gcd {f : Nat → Int64} : ∀ (n i : Nat) (z : Int64), 0 ≤ z.toInt → (∀ j, i ≤ j → j < i + n → -9223372036854775808 < (f j).toInt) → 0 ≤ (fo (fun j z => cd64 z (f j)) n i z).toInt ∧ (fo (fun j z => cd64 z (f j)) n i z).toInt ∣ z.toInt ∧ (∀ j, i ≤ j → j < i + n → (fo (fun j z => cd64 z (f j)) n i z).toInt ∣ (f j).toInt) ∧ ∀ d : Int, d ∣ z.toInt → (∀ j, i ≤ j → j < i + n → d ∣ (f j).toInt) → d ∣ (fo (fun j z => cd64 z (f j)) n i z).toInt
  | 0, i, z, hz, _ => ⟨hz, Int.dvd_refl _, fun j h1 h2 => absurd h2 (by omega), fun d hd _ => hd⟩
  | n + 1, i, z, hz, h => by
    have e := cd_gcd (x := z) (y := f i) (by omega) (h i (by omega) (by omega))
    rw [fo_s]
    obtain ⟨h1, h2, h3, h4⟩ := fo_gcd n (i + 1) (cd64 z (f i)) (by omega) (fun j h1 h2 => h j (by omega) (by omega))
    rw [e] at h2 h4
    refine ⟨h1, Int.dvd_trans h2 (Int.gcd_dvd_left ..), fun j hj1 hj2 => ?_, fun d hd1 hd2 => h4 d (Int.dvd_coe_gcd hd1 (hd2 i (by omega) (by omega))) (fun j h1 h2 => hd2 j (by omega) (by omega))⟩
    by_cases hj : j = i
    · rw [hj]
      exact Int.dvd_trans h2 (Int.gcd_dvd_right ..)
    · exact h3 j (by omega) (by omega)
theorem dvs_int {X : Nat → Nat → Int64} {w i : Nat} (h : ∀ j, j ≤ w → -9223372036854775808 < vE X i j) : (∃ s : Int, 1 ≤ s ∧ (∀ j, j ≤ w → s * vE (dvs X w i) i j = vE X i j) ∧ ((∃ j, j ≤ w ∧ vE (dvs X w i) i j ≠ 0) → Prm w (vE (dvs X w i) i))) ∧ ∀ r j, r ≠ i → dvs X w i (r + 11) j = X (r + 11) j := by
  obtain ⟨h1, h2, h3, h4⟩ := fo_gcd (f := X (i + 11)) (w + 1) 0 0 (by decide) (fun j _ h2 => h j (by omega))
  have h3 : ∀ j, j ≤ w → (shr X w i).toInt ∣ vE X i j := fun j hj => h3 j (Nat.zero_le _) (by omega)
  have h4 : ∀ d : Int, (∀ j, j ≤ w → d ∣ vE X i j) → d ∣ (shr X w i).toInt := fun d hd => h4 d ⟨0, by rw [z64]; omega⟩ (fun j _ h2 => hd j (by omega))
  have h1 : 0 ≤ (shr X w i).toInt := h1
  unfold dvs
  by_cases hs : 1 < shr X w i
  · rw [if_pos hs]
    have hs' : 1 < (shr X w i).toInt := by rw [i64l, o64] at hs; exact hs
    have hn : ∀ j, j ≤ w → vE (fo (fun j Y => up2 Y (i + 11) j (Y (i + 11) j / shr X w i)) (w + 1) 0 X) i j = vE X i j / (shr X w i).toInt := by
      intro j hj
      show (fo (fun j Y => up2 Y (i + 11) j (Y (i + 11) j / shr X w i)) (w + 1) 0 X (i + 11) j).toInt = _
      rw [fo_one (F := fun _ x => x / shr X w i), if_pos (by omega), t_div (h j hj), tdiv_dvd (h3 j hj)]
    refine ⟨⟨(shr X w i).toInt, by omega, fun j hj => ?_, fun _ d hd => ?_⟩, fun r j hr => ?_⟩
    · rw [hn j hj]
      exact Int.mul_ediv_cancel' (h3 j hj)
    · have h5 : (shr X w i).toInt * d ∣ (shr X w i).toInt * 1 := by
        rw [Int.mul_one]
        refine h4 _ (fun j hj => ?_)
        obtain ⟨c, hc⟩ := hd j hj
        rw [hn j hj] at hc
        exact ⟨c, by rw [Int.mul_assoc, ← hc]; exact (Int.mul_ediv_cancel' (h3 j hj)).symm⟩
      exact Int.dvd_of_mul_dvd_mul_left (by omega) h5
    · rw [fo_one (F := fun _ x => x / shr X w i), if_neg (by omega)]
  · rw [if_neg hs]
    have hs' : ¬ 1 < (shr X w i).toInt := by rw [i64l, o64] at hs; exact hs
    refine ⟨⟨1, by omega, fun j _ => by omega, fun ⟨j, hj, hj0⟩ d hd => ?_⟩, fun r j hr => rfl⟩
    have h5 := h4 d hd
    have h6 := h3 j hj
    have h7 : (shr X w i).toInt ≠ 0 := by
      intro e
      rw [e] at h6
      exact hj0 (Int.zero_dvd.mp h6)
    rwa [show (shr X w i).toInt = 1 by omega] at h5
theorem clr1_int {X : Nat → Nat → Int64} {w a q i : Nat} {B P : Int} (hBB : vE X i q ≠ 0 → Bd B (vE X i) w ∧ 2 * (B * P) < 9223372036854775808) (hP : Bd P (vE X a) w) (hq : q ≤ w) (hia : i ≠ a) : Cl w q (vE X i) (vE X a) (vE (clr1 w a q (X (a + 11) q) i X) i) ∧ ∀ r j, r ≠ i → clr1 w a q (X (a + 11) q) i X (r + 11) j = X (r + 11) j := by
  unfold clr1
  by_cases hz : X (i + 11) q = 0
  · rw [if_neg (fun h => h.2 hz)]
    refine ⟨.inl ⟨?_, fun j _ => rfl⟩, fun r j _ => rfl⟩
    show (X (i + 11) q).toInt = 0
    rw [hz]; rfl
  · rw [if_pos ⟨hia, hz⟩]
    have hzi : vE X i q ≠ 0 := fun h => hz (Int64.toInt_inj.mp (h.trans z64.symm))
    obtain ⟨hB, hBP⟩ := hBB hzi
    have hn : ∀ j, j ≤ w → vE (fo (fun j Y => up2 Y (i + 11) j (Y (i + 11) j * X (a + 11) q - Y (a + 11) j * X (i + 11) q)) (w + 1) 0 X) i j = vE X i j * vE X a q - vE X a j * vE X i q := by
      intro j hj
      show (fo (fun j Y => up2 Y (i + 11) j (Y (i + 11) j * X (a + 11) q - Y (a + 11) j * X (i + 11) q)) (w + 1) 0 X (i + 11) j).toInt = _
      rw [fo_two (s := a + 11) (by omega) (F := fun _ x y => x * X (a + 11) q - y * X (i + 11) q), if_pos (by omega)]
      have b1 := hB j hj
      have b2 := hP j hj
      have b3 := hB q hq
      have b4 := hP q hq
      have c1 := ab_mul b1.1 b1.2 b4.1 b4.2
      have c2 := ab_mul b2.1 b2.2 b3.1 b3.2
      rw [Int.mul_comm P B] at c2
      have e1 : (X (i + 11) j * X (a + 11) q).toInt = vE X i j * vE X a q := t_mul (by show _ ≤ vE X i j * vE X a q; omega) (by show vE X i j * vE X a q < _; omega)
      have e2 : (X (a + 11) j * X (i + 11) q).toInt = vE X a j * vE X i q := t_mul (by show _ ≤ vE X a j * vE X i q; omega) (by show vE X a j * vE X i q < _; omega)
      rw [t_sub (by rw [e1, e2]; omega) (by rw [e1, e2]; omega), e1, e2]
    have hb : ∀ j, j ≤ w → -9223372036854775808 < vE (fo (fun j Y => up2 Y (i + 11) j (Y (i + 11) j * X (a + 11) q - Y (a + 11) j * X (i + 11) q)) (w + 1) 0 X) i j := by
      intro j hj
      rw [hn j hj]
      have b1 := hB j hj
      have b2 := hP j hj
      have b3 := hB q hq
      have b4 := hP q hq
      have c1 := ab_mul b1.1 b1.2 b4.1 b4.2
      have c2 := ab_mul b2.1 b2.2 b3.1 b3.2
      rw [Int.mul_comm P B] at c2
      omega
    obtain ⟨⟨s, hs1, hs2, hs3⟩, hf⟩ := dvs_int hb
    refine ⟨.inr ⟨hzi, s, hs1, fun j hj => ?_, hs3⟩, fun r j hr => ?_⟩
    · rw [hs2 j hj, hn j hj]
    · rw [hf r j hr, fo_two (s := a + 11) (by omega) (F := fun _ x y => x * X (a + 11) q - y * X (i + 11) q), if_neg (by omega)]
theorem clrc_int {w a q : Nat} {P : Int} {bf : Nat → Int} (hq : q ≤ w) (fac : Int64) : ∀ (n i : Nat) (X : Nat → Nat → Int64), X (a + 11) q = fac → Bd P (vE X a) w → (∀ r, i ≤ r → r < i + n → r ≠ a → vE X r q ≠ 0 → Bd (bf r) (vE X r) w ∧ 2 * (bf r * P) < 9223372036854775808) →
    (∀ r, i ≤ r → r < i + n → r ≠ a → Cl w q (vE X r) (vE X a) (vE (fo (fun i X => clr1 w a q fac i X) n i X) r)) ∧ (∀ r j, (¬ (i ≤ r ∧ r < i + n) ∨ r = a) → fo (fun i X => clr1 w a q fac i X) n i X (r + 11) j = X (r + 11) j)
  | 0, i, X, _, _, _ => ⟨fun r h1 h2 => absurd h2 (by omega), fun r j _ => rfl⟩
  | n + 1, i, X, hf, hP, hB => by
    rw [fo_s]
    have hY : (i = a → clr1 w a q fac i X = X) ∧ (i ≠ a → Cl w q (vE X i) (vE X a) (vE (clr1 w a q fac i X) i)) ∧ ∀ r j, r ≠ i → clr1 w a q fac i X (r + 11) j = X (r + 11) j := by
      by_cases hia : i = a
      · have e : clr1 w a q fac i X = X := by
          unfold clr1
          rw [if_neg (fun h => h.1 hia)]
        exact ⟨fun _ => e, fun h => absurd hia h, fun r j _ => by rw [e]⟩
      · have b1 := hB i (by omega) (by omega) hia
        subst hf
        have h := clr1_int b1 hP hq hia
        exact ⟨fun h' => absurd h' hia, fun _ => h.1, h.2⟩
    obtain ⟨hY1, hY2, hY3⟩ := hY
    obtain ⟨Y, hYe⟩ : ∃ Y, Y = clr1 w a q fac i X := ⟨_, rfl⟩
    rw [← hYe] at hY1 hY2 hY3 ⊢
    have eA : ∀ j, Y (a + 11) j = X (a + 11) j := by
      intro j
      by_cases hia : i = a
      · rw [hY1 hia]
      · exact hY3 a j (fun h => hia h.symm)
    have eAf : vE Y a = vE X a := funext fun j => by show (Y (a + 11) j).toInt = _; rw [eA]
    have eR : ∀ r, r ≠ i → vE Y r = vE X r := fun r hr => funext fun j => by show (Y (r + 11) j).toInt = _; rw [hY3 r j hr]
    obtain ⟨h1, h2⟩ := clrc_int hq fac n (i + 1) Y (by rw [eA, hf]) (by rw [eAf]; exact hP) (fun r h1 h2 h3 => by rw [eR r (by omega)]; exact hB r (by omega) (by omega) h3) (bf := bf)
    refine ⟨fun r hr1 hr2 hra => ?_, fun r j hr => ?_⟩
    · by_cases hri : r = i
      · subst hri
        have e : vE (fo (fun i X => clr1 w a q fac i X) n (r + 1) Y) r = vE Y r := funext fun j => by
          show (fo (fun i X => clr1 w a q fac i X) n (r + 1) Y (r + 11) j).toInt = _
          rw [h2 r j (.inl (by omega))]
        rw [e]
        exact hY2 hra
      · have := h1 r (by omega) (by omega) hra
        rw [eAf, eR r hri] at this
        exact this
    · rw [h2 r j (by omega)]
      by_cases hri : r = i
      · by_cases hra : r = a
        · rw [hra]; exact eA j
        · omega
      · exact hY3 r j hri
/-- one step with a pivot, over the whole numbers: row k of V is brought to place a, made above 0 at column q, and clears the others -/
def Pv (w h a k q : Nat) (V W : Nat → Nat → Int) : Prop := a ≤ k ∧ k < h ∧ V k q ≠ 0 ∧ (∀ i, a ≤ i → i < k → V i q = 0) ∧ (∃ s : Int, (s = 1 ∨ s = -1) ∧ (∀ j, j ≤ w → W a j = s * V k j) ∧ 0 < W a q) ∧ ∀ i, i < h → i ≠ a → Cl w q (V (if i = k then a else i)) (W a) (W i)
theorem estep_pv {w h q k d : Nat} {AN : Nat → Nat → Nat} {X : Nat → Nat → Int64} {P : Int} {bf : Nat → Int} (hd : d < h) (hf : fnd (fun k => X (k + 11) q ≠ 0) (h - d) d = some k) (hq : q ≤ w) (hP : Bd P (vE X k) w) (hP1 : P < 9223372036854775808) (hB : ∀ i, i < h → i ≠ d → vE X (if i = k then d else i) q ≠ 0 → Bd (bf i) (vE X (if i = k then d else i)) w ∧ 2 * (bf i * P) < 9223372036854775808) :
    ∃ Y, estep w h q (d, AN, X) = (d + 1, up2 AN 5 d q, Y) ∧ Pv w h d k q (vE X) (vE Y) := by
  obtain ⟨hk1, hk2, hk3, hk4⟩ := fnd_some hf
  refine ⟨_, estep_some hd hf, ?_⟩
  have e1 : ∀ i, vE (exch w d k X) i = fun j => if j ≤ w then vE X (if i = d then k else if i = k then d else i) j else vE X i j := by
    intro i
    funext j
    show (exch w d k X (i + 11) j).toInt = _
    unfold exch
    rw [fo_exc]
    by_cases hj : j ≤ w
    · rw [if_pos (show 0 ≤ j ∧ j < 0 + (w + 1) by omega), if_pos hj]
      by_cases hi : i = d
      · rw [if_pos (show i + 11 = d + 11 by omega), if_pos hi]
      · rw [if_neg (show ¬ i + 11 = d + 11 by omega), if_neg hi]
        by_cases hi' : i = k
        · rw [if_pos (show i + 11 = k + 11 by omega), if_pos hi']
        · rw [if_neg (show ¬ i + 11 = k + 11 by omega), if_neg hi']
    · rw [if_neg (show ¬ (0 ≤ j ∧ j < 0 + (w + 1)) by omega), if_neg hj]
  obtain ⟨Z, hZ⟩ : ∃ Z, Z = exch w d k X := ⟨_, rfl⟩
  rw [← hZ] at e1 ⊢
  have hzq : vE Z d q = vE X k q := by rw [e1]; show (if q ≤ w then _ else _) = _; rw [if_pos hq, if_pos rfl]
  have hk0 : vE X k q ≠ 0 := fun h => hk3 (Int64.toInt_inj.mp (h.trans z64.symm))
  have e2 : ∃ s : Int, (s = 1 ∨ s = -1) ∧ (∀ j, j ≤ w → vE (mabz w d q Z) d j = s * vE X k j) ∧ 0 < vE (mabz w d q Z) d q ∧ ∀ i, i ≠ d → vE (mabz w d q Z) i = vE Z i := by
    unfold mabz
    by_cases hn : Z (d + 11) q < 0
    · rw [if_pos hn]
      have hn' : vE Z d q < 0 := by rw [i64l, z64] at hn; exact hn
      have e : ∀ j, j ≤ w → vE (fo (fun j X => up2 X (d + 11) j (-X (d + 11) j)) (w + 1) 0 Z) d j = -1 * vE X k j := by
        intro j hj
        show (fo (fun j X => up2 X (d + 11) j (-X (d + 11) j)) (w + 1) 0 Z (d + 11) j).toInt = _
        have e3 : vE Z d j = vE X k j := by rw [e1]; show (if j ≤ w then _ else _) = _; rw [if_pos hj, if_pos rfl]
        have b := hP j hj
        rw [fo_one (F := fun _ x => -x), if_pos (by omega), t_neg (by show _ < vE Z d j; omega)]
        show -(vE Z d j) = _
        omega
      refine ⟨-1, .inr rfl, e, ?_, fun i hi => funext fun j => ?_⟩
      · rw [e q hq]; omega
      · show (fo (fun j X => up2 X (d + 11) j (-X (d + 11) j)) (w + 1) 0 Z (i + 11) j).toInt = _
        rw [fo_one (F := fun _ x => -x), if_neg (by omega)]
    · rw [if_neg hn]
      have hn' : ¬ vE Z d q < 0 := by rw [i64l, z64] at hn; exact hn
      refine ⟨1, .inl rfl, fun j hj => ?_, by omega, fun i _ => rfl⟩
      rw [e1]; show (if j ≤ w then _ else _) = _; rw [if_pos hj, if_pos rfl]; omega
  obtain ⟨s, hs, hs1, hs2, hs3⟩ := e2
  obtain ⟨U, hU⟩ : ∃ U, U = mabz w d q Z := ⟨_, rfl⟩
  rw [← hU] at hs1 hs2 hs3 ⊢
  have hUd : Bd P (vE U d) w := by
    intro j hj
    have b := hP j hj
    rw [hs1 j hj]
    rcases hs with rfl | rfl <;> omega
  have eU : ∀ i, i ≠ d → ∀ j, j ≤ w → vE U i j = vE X (if i = k then d else i) j := by
    intro i hi j hj
    rw [hs3 i hi, e1]
    show (if j ≤ w then _ else _) = _
    rw [if_pos hj, if_neg hi]
  unfold clrc
  obtain ⟨h1, h2⟩ := clrc_int (w := w) (a := d) (q := q) (P := P) (bf := bf) hq (U (d + 11) q) h 0 U rfl hUd (by
    intro r _ hr hrd hrz
    rw [eU r hrd q hq] at hrz
    obtain ⟨b1, b2⟩ := hB r (by omega) hrd hrz
    exact ⟨fun j hj => by rw [eU r hrd j hj]; exact b1 j hj, b2⟩)
  have hW : vE (fo (fun i X => clr1 w d q (U (d + 11) q) i X) h 0 U) d = vE U d := funext fun j => by
    show (fo (fun i X => clr1 w d q (U (d + 11) q) i X) h 0 U (d + 11) j).toInt = _
    rw [h2 d j (.inr rfl)]
  refine ⟨hk1, by omega, hk0, fun i hi1 hi2 => ?_, ⟨s, hs, fun j hj => by rw [hW]; exact hs1 j hj, by rw [hW]; exact hs2⟩, fun i hi hia => ?_⟩
  · have h := hk4 i hi1 hi2
    have h : X (i + 11) q = 0 := Decidable.not_not.mp h
    show (X (i + 11) q).toInt = 0
    rw [h]; rfl
  · have h := h1 i (Nat.zero_le _) (by omega) hia
    rw [hW]
    unfold Cl at h ⊢
    rw [eU i hia q hq] at h
    rcases h with ⟨c1, c2⟩ | ⟨c1, s, c2, c3, c4⟩
    · exact .inl ⟨c1, fun j hj => by rw [c2 j hj, eU i hia j hj]⟩
    · exact .inr ⟨c1, s, c2, fun j hj => by rw [c3 j hj, eU i hia j hj], c4⟩
/-- what stands after the columns before q -/
def EI (_w h q d : Nat) (dec : Nat → Nat) (V : Nat → Nat → Int) : Prop :=
  d ≤ h ∧ d ≤ q ∧ (∀ r, r < d → dec r < q) ∧ (∀ r s, r < s → s < d → dec r < dec s) ∧ (∀ r, r < d → 0 < V r (dec r)) ∧ (∀ r, r < d → ∀ i, i < h → i ≠ r → V i (dec r) = 0) ∧ (∀ r, r < d → ∀ j, j < dec r → V r j = 0) ∧ (∀ i, d ≤ i → i < h → ∀ j, j < q → V i j = 0)
def Ker (w h : Nat) (V : Nat → Nat → Int) (x : Nat → Int) : Prop := ∀ i, i < h → dt (V i) x (w + 1) 0 = 0
theorem sg_lt {i k a h : Nat} (hi : i < h) (ha : a < h) : (if i = k then a else i) < h := by split <;> assumption
theorem ei_0 {w h : Nat} {dec : Nat → Nat} {V : Nat → Nat → Int} : EI w h 0 0 dec V :=
  ⟨Nat.zero_le _, Nat.le_refl _, fun r h => absurd h (by omega), fun r s _ h => absurd h (by omega), fun r h => absurd h (by omega), fun r h => absurd h (by omega), fun r h => absurd h (by omega), fun i _ _ j h => absurd h (by omega)⟩
theorem ei_no {w h q d : Nat} {dec : Nat → Nat} {V : Nat → Nat → Int} (hE : EI w h q d dec V) (hn : ∀ i, d ≤ i → i < h → V i q = 0) : EI w h (q + 1) d dec V := by
  obtain ⟨a1, a2, a3, a4, a5, a6, a7, a8⟩ := hE
  refine ⟨a1, by omega, fun r hr => Nat.lt_succ_of_lt (a3 r hr), a4, a5, a6, a7, fun i h1 h2 j hj => ?_⟩
  by_cases e : j = q
  · rw [e]; exact hn i h1 h2
  · exact a8 i h1 h2 j (by omega)
theorem cl_zero {w q j : Nat} {f p g : Nat → Int} (h : Cl w q f p g) (hj : j ≤ w) (hf : f j = 0) (hp : p j = 0) : g j = 0 := by
  rcases h with ⟨_, h2⟩ | ⟨_, s, h1, h2, _⟩
  · rw [h2 j hj, hf]
  · have := h2 j hj
    rw [hf, hp] at this
    have h5 : s * g j = 0 := by rw [this]; omega
    rcases Int.mul_eq_zero.mp h5 with h6 | h6
    · omega
    · exact h6
theorem cl_pos {w q j : Nat} {f p g : Nat → Int} (h : Cl w q f p g) (hj : j ≤ w) (hpq : 0 < p q) (hf : 0 < f j) (hp : p j = 0) : 0 < g j := by
  rcases h with ⟨_, h2⟩ | ⟨_, s, h1, h2, _⟩
  · rw [h2 j hj]; exact hf
  · have := h2 j hj
    rw [hp] at this
    have h5 : 0 < s * g j := by rw [this]; have := Int.mul_pos hf hpq; omega
    exact Int.pos_of_mul_pos_right h5 (by omega) 
theorem cl_col {w q : Nat} {f p g : Nat → Int} (h : Cl w q f p g) (hq : q ≤ w) : g q = 0 := by
  rcases h with ⟨h1, h2⟩ | ⟨_, s, h1, h2, _⟩
  · rw [h2 q hq, h1]
  · have := h2 q hq
    have h5 : s * g q = 0 := by rw [this, Int.mul_comm (p q)]; omega
    rcases Int.mul_eq_zero.mp h5 with h6 | h6
    · omega
    · exact h6
theorem ei_pv {w h q d k : Nat} {dec dec' : Nat → Nat} {V W : Nat → Nat → Int} (hE : EI w h q d dec V) (hq : q < w) (hP : Pv w h d k q V W) (hd : ∀ r, r < d → dec' r = dec r) (hd' : dec' d = q) : EI w h (q + 1) (d + 1) dec' W := by
  obtain ⟨a1, a2, a3, a4, a5, a6, a7, a8⟩ := hE
  obtain ⟨p1, p2, p3, p4, ⟨s, hs, p5, p6⟩, p7⟩ := hP
  have hWz : ∀ j, j < q → W d j = 0 := fun j hj => by rw [p5 j (by omega), a8 k p1 p2 j hj, Int.mul_zero]
  refine ⟨by omega, by omega, fun r hr => ?_, fun r t hrt ht => ?_, fun r hr => ?_, fun r hr i hi hir => ?_, fun r hr j hj => ?_, fun i h1 h2 j hj => ?_⟩
  · by_cases e : r = d
    · rw [e, hd']; omega
    · rw [hd r (by omega)]; have := a3 r (by omega); omega
  · rw [hd r (by omega)]
    by_cases e : t = d
    · rw [e, hd']; exact a3 r (by omega)
    · rw [hd t (by omega)]; exact a4 r t hrt (by omega)
  · by_cases e : r = d
    · rw [e, hd']; exact p6
    · have hrd : r < d := by omega
      rw [hd r hrd]
      have h1 := a3 r hrd
      have h2 := p7 r (by omega) e
      rw [if_neg (show ¬ r = k by omega)] at h2
      exact cl_pos h2 (by omega) p6 (a5 r hrd) (hWz _ h1)
  · by_cases e : r = d
    · rw [e, hd']; exact cl_col (p7 i hi (by omega)) (by omega)
    · have hrd : r < d := by omega
      rw [hd r hrd]
      have h1 := a3 r hrd
      by_cases e2 : i = d
      · rw [e2]; exact hWz _ h1
      · refine cl_zero (p7 i hi e2) (by omega) (a6 r hrd _ ?_ ?_) (hWz _ h1)
        · by_cases e3 : i = k
          · rw [if_pos e3]; omega
          · rw [if_neg e3]; exact hi
        · by_cases e3 : i = k
          · rw [if_pos e3]; omega
          · rw [if_neg e3]; exact hir
  · by_cases e : r = d
    · rw [e, hd'] at hj; rw [e]; exact hWz j hj
    · have hrd : r < d := by omega
      rw [hd r hrd] at hj
      have h1 := a3 r hrd
      have h2 := p7 r (by omega) e
      rw [if_neg (show ¬ r = k by omega)] at h2
      exact cl_zero h2 (by omega) (a7 r hrd j hj) (hWz j (by omega))
  · by_cases e : j = q
    · rw [e]; exact cl_col (p7 i h2 (by omega)) (by omega)
    · refine cl_zero (p7 i h2 (by omega)) (by omega) (a8 _ ?_ ?_ j (by omega)) (hWz j (by omega))
      · by_cases e3 : i = k
        · rw [if_pos e3]; omega
        · rw [if_neg e3]; omega
      · by_cases e3 : i = k
        · rw [if_pos e3]; omega
        · rw [if_neg e3]; exact h2
theorem ker_pv {w h a k q : Nat} {V W : Nat → Nat → Int} (hP : Pv w h a k q V W) (x : Nat → Int) : Ker w h V x ↔ Ker w h W x := by
  obtain ⟨p1, p2, p3, p4, ⟨s, hs, p5, p6⟩, p7⟩ := hP
  have ha : dt (W a) x (w + 1) 0 = s * dt (V k) x (w + 1) 0 := by
    have := dt_lin (f := V k) (g := W a) (p := V k) (x := x) (s := 1) (a := s) (b := 0) (w + 1) 0 (fun j _ h2 => by rw [p5 j (by omega)]; grind)
    grind
  constructor
  · intro hV i hi
    by_cases e : i = a
    · rw [e, ha, hV k p2, Int.mul_zero]
    · have hW : dt (W a) x (w + 1) 0 = 0 := by rw [ha, hV k p2, Int.mul_zero]
      rcases p7 i hi e with ⟨_, h2⟩ | ⟨_, t, h1, h2, _⟩
      · rw [dt_congr (f := V (if i = k then a else i)) (w + 1) 0 (fun j _ hj => h2 j (by omega))]
        refine hV _ ?_
        by_cases e3 : i = k
        · rw [if_pos e3]; omega
        · rw [if_neg e3]; exact hi
      · have h4 := dt_lin (x := x) (w + 1) 0 (fun j _ hj => h2 j (by omega))
        rw [hW, hV _ (sg_lt hi (by omega))] at h4
        have h5 : t * dt (W i) x (w + 1) 0 = 0 := by rw [h4]; omega
        rcases Int.mul_eq_zero.mp h5 with h6 | h6
        · omega
        · exact h6
  · intro hW
    have hk : dt (V k) x (w + 1) 0 = 0 := by
      have := hW a (by omega)
      rw [ha] at this
      rcases hs with rfl | rfl <;> omega
    have hall : ∀ i, i < h → i ≠ a → dt (V (if i = k then a else i)) x (w + 1) 0 = 0 := by
      intro i hi e
      rcases p7 i hi e with ⟨_, h2⟩ | ⟨_, t, h1, h2, _⟩
      · rw [← dt_congr (g := W i) (w + 1) 0 (fun j _ hj => h2 j (by omega))]
        exact hW i hi
      · have h4 := dt_lin (x := x) (w + 1) 0 (fun j _ hj => h2 j (by omega))
        rw [hW i hi, hW a (by omega)] at h4
        have h5 : dt (V (if i = k then a else i)) x (w + 1) 0 * W a q = 0 := by omega
        rcases Int.mul_eq_zero.mp h5 with h6 | h6
        · exact h6
        · omega
    intro i hi
    by_cases e : i = k
    · rw [e]; exact hk
    · by_cases e2 : i = a
      · have := hall k p2 (by omega)
        rw [if_pos rfl] at this
        rw [e2]; exact this
      · have := hall i hi e2
        rw [if_neg e] at this
        exact this
theorem cl_bd {w q : Nat} {f p g : Nat → Int} {B P C : Int} (h : Cl w q f p g) (hq : q ≤ w) (hB : Bd B f w) (hP : Bd P p w) (h1 : 2 * (B * P) ≤ C) (h2 : B ≤ C) : Bd C g w := by
  intro j hj
  rcases h with ⟨_, h3⟩ | ⟨_, s, h3, h4, _⟩
  · rw [h3 j hj]
    have := hB j hj
    omega
  · have b1 := hB j hj
    have b2 := hP j hj
    have b3 := hB q hq
    have b4 := hP q hq
    have c1 := ab_mul b1.1 b1.2 b4.1 b4.2
    have c2 := ab_mul b2.1 b2.2 b3.1 b3.2
    rw [Int.mul_comm P B] at c2
    have c3 := h4 j hj
    have c4 : -C ≤ s * g j ∧ s * g j ≤ C := by omega
    constructor
    · by_cases hg : 0 ≤ g j
      · omega
      · have : s * g j ≤ 1 * g j := Int.mul_le_mul_of_nonpos_right h3 (by omega)
        omega
    · by_cases hg : 0 ≤ g j
      · have : 1 * g j ≤ s * g j := Int.mul_le_mul_of_nonneg_right h3 hg
        omega
      · omega
/-- bounds before column q, of a system with numbers -9 .. 9 -/
def bq : Nat → Int
  | 0 => 9
  | 1 => 162
  | 2 => 52488
  | _ => 5509980288
theorem bq_s {q : Nat} (h : q < 3) : 2 * (bq q * bq q) ≤ bq (q + 1) ∧ bq q ≤ bq (q + 1) ∧ 2 * (bq q * bq q) < 9223372036854775808 ∧ bq q < 9223372036854775808 := by
  obtain rfl | rfl | rfl : q = 0 ∨ q = 1 ∨ q = 2 := by omega
  all_goals decide
/-- the whole elimination of a system with numbers -9 .. 9 -/
theorem el_run {w h : Nat} {V0 : Nat → Nat → Int} (hw : w ≤ 3) : ∀ (n q d : Nat) (AN : Nat → Nat → Nat) (X : Nat → Nat → Int64), q + n = w → EI w h q d (AN 5) (vE X) → (∀ x, Ker w h V0 x ↔ Ker w h (vE X) x) → (∀ i, i < h → Bd (bq q) (vE X i) w) →
    ∃ d' AN' Y, fo (estep w h) n q (d, AN, X) = (d', AN', Y) ∧ EI w h w d' (AN' 5) (vE Y) ∧ (∀ x, Ker w h V0 x ↔ Ker w h (vE Y) x) ∧ (∀ i, i < h → Bd (bq w) (vE Y i) w) ∧ (∀ a, a ≠ 5 → AN' a = AN a) ∧ ∀ k, AN' 5 k = AN 5 k ∨ AN' 5 k < w
  | 0, q, d, AN, X, hq, h1, h2, h3 => by
    obtain rfl : q = w := by omega
    exact ⟨d, AN, X, rfl, h1, h2, h3, fun _ _ => rfl, fun _ => .inl rfl⟩
  | n + 1, q, d, AN, X, hq, h1, h2, h3 => by
    rw [fo_s]
    obtain ⟨c1, c2, c3, c4⟩ := bq_s (q := q) (by omega)
    have hmono : ∀ i, i < h → Bd (bq (q + 1)) (vE X i) w := fun i hi j hj => by
      have := h3 i hi j hj
      omega
    by_cases hd : d < h
    · cases hf : fnd (fun k => X (k + 11) q ≠ 0) (h - d) d with
      | none =>
        rw [estep_none (x := (d, AN, X)) hd hf]
        have hz := fnd_none hf
        exact el_run hw n (q + 1) d AN X (by omega) (ei_no h1 (fun i hi1 hi2 => by
          have h := Decidable.not_not.mp (hz i hi1 (by omega))
          show (X (i + 11) q).toInt = 0
          rw [h]; rfl)) h2 hmono
      | some k =>
        obtain ⟨hk1, hk2, _, _⟩ := fnd_some hf
        obtain ⟨Y, hY, hP⟩ := estep_pv (AN := AN) (P := bq q) (bf := fun _ => bq q) hd hf (by omega) (h3 k (by omega)) c4 (fun i hi hid _ => ⟨h3 _ (sg_lt hi (by omega)), c3⟩) (w := w)
        rw [hY]
        have hE := ei_pv (dec' := up2 AN 5 d q 5) h1 (by omega) hP (fun r hr => up2_n (by omega)) up2_s
        obtain ⟨d', AN', Y', g1, g2, g3, g4, g5, g6⟩ := el_run (V0 := V0) hw n (q + 1) (d + 1) (up2 AN 5 d q) Y (by omega) hE (fun x => (h2 x).trans (ker_pv hP x)) (by
          obtain ⟨p1, p2, p3, p4, ⟨s, hs, p5, p6⟩, p7⟩ := hP
          have hWd : Bd (bq q) (vE Y d) w := fun j hj => by
            rw [p5 j hj]
            have := h3 k p2 j hj
            rcases hs with rfl | rfl <;> omega
          intro i hi
          by_cases e : i = d
          · rw [e]; exact fun j hj => by have := hWd j hj; omega
          · exact cl_bd (p7 i hi e) (by omega) (h3 _ (sg_lt hi (by omega))) hWd c1 c2)
        refine ⟨d', AN', Y', g1, g2, g3, g4, fun a ha => ?_, fun k' => ?_⟩
        · rw [g5 a ha, up2_row ha]
        · rcases g6 k' with h | h
          · by_cases e : k' = d
            · rw [e, up2_s] at h
              right; rw [e]; omega
            · rw [up2_n (by omega)] at h
              exact .inl h
          · exact .inr h
    · rw [estep_out (x := (d, AN, X)) hd]
      exact el_run hw n (q + 1) d AN X (by omega) (ei_no h1 (fun i hi1 hi2 => absurd hi2 (by omega))) h2 hmono
