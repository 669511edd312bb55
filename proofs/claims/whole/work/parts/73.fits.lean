/-! Model's trials for a whole solution. -/
/-- how many before t have no lead -/
def cn (P : Nat → Bool) : Nat → Nat
  | 0 => 0
  | t + 1 => cn P t + (if P t then 0 else 1)
theorem cn_le {P : Nat → Bool} : ∀ t, cn P t ≤ t
  | 0 => Nat.le_refl _
  | t + 1 => by
    have := cn_le (P := P) t
    unfold cn
    split <;> omega
theorem cn_mono {P : Nat → Bool} {s : Nat} : ∀ t, s ≤ t → cn P s ≤ cn P t
  | 0, h => by
    obtain rfl : s = 0 := by omega
    exact Nat.le_refl _
  | t + 1, h => by
    by_cases e : s = t + 1
    · rw [e]; exact Nat.le_refl _
    · have := cn_mono (P := P) t (show s ≤ t by omega)
      rw [show cn P (t + 1) = cn P t + (if P t then 0 else 1) from rfl]
      omega
theorem cn_lt {P : Nat → Bool} {s t : Nat} (h : s < t) (hs : P s = false) : cn P s < cn P t := by
  have h1 := cn_mono (P := P) t (show s + 1 ≤ t from h)
  have h2 : cn P (s + 1) = cn P s + 1 := by
    show cn P s + (if P s then 0 else 1) = _
    rw [hs]; rfl
  omega
theorem cn_ex {P : Nat → Bool} {c : Nat} : ∀ t, c < cn P t → ∃ u, u < t ∧ P u = false ∧ cn P u = c
  | 0, h => absurd h (Nat.not_lt_zero _)
  | t + 1, h => by
    by_cases e : c < cn P t
    · obtain ⟨u, h1, h2, h3⟩ := cn_ex t e
      exact ⟨u, by omega, h2, h3⟩
    · have h2 : cn P (t + 1) = cn P t + (if P t then 0 else 1) := rfl
      cases hp : P t with
      | true => rw [hp] at h2; simp at h2; omega
      | false => rw [hp] at h2; simp at h2; exact ⟨t, by omega, hp, by omega⟩
/-- the unknowns without a lead, in their order -/
def nu (P : Nat → Bool) (n c : Nat) : Nat := (fnd (fun u => P u = false ∧ cn P u = c) n 0).getD 0
theorem nu_at {P : Nat → Bool} {n c : Nat} (h : c < cn P n) : nu P n c < n ∧ P (nu P n c) = false ∧ cn P (nu P n c) = c := by
  unfold nu
  obtain ⟨u, h1, h2, h3⟩ := cn_ex n h
  cases hf : fnd (fun u => P u = false ∧ cn P u = c) n 0 with
  | none => exact absurd ⟨h2, h3⟩ (fnd_none hf u (Nat.zero_le _) (by omega))
  | some w =>
    obtain ⟨_, g2, g3, _⟩ := fnd_some hf
    exact ⟨by show w < n; omega, g3.1, g3.2⟩
theorem nu_cn {P : Nat → Bool} {n u : Nat} (hu : u < n) (hp : P u = false) : nu P n (cn P u) = u := by
  obtain ⟨h1, h2, h3⟩ := nu_at (P := P) (n := n) (c := cn P u) (cn_lt hu hp)
  rcases Nat.lt_trichotomy (nu P n (cn P u)) u with h | h | h
  · have := cn_lt h h2; omega
  · exact h
  · have := cn_lt h hp; omega
theorem nu_inc {P : Nat → Bool} {n : Nat} : ∀ r s, r < s → s < cn P n → nu P n r < nu P n s := fun r s hrs hs => by
  obtain ⟨h1, h2, h3⟩ := nu_at (P := P) (n := n) (c := r) (by omega)
  obtain ⟨k1, k2, k3⟩ := nu_at (P := P) (n := n) hs
  refine Nat.lt_of_not_le (fun h => ?_)
  have := cn_mono (P := P) _ h
  omega
theorem colw {q k : Nat} {g : Nat → Int64} (hk : k < 3) : ∀ (m i : Nat) (Y : Nat → Nat → Int64) (a b : Nat), fo (fun r Y => up2 Y q (3 * r + k) (g r)) m i Y a b = if a = q ∧ k ≤ b ∧ (b - k) % 3 = 0 ∧ i ≤ (b - k) / 3 ∧ (b - k) / 3 < i + m then g ((b - k) / 3) else Y a b
  | 0, i, Y, a, b => by rw [fo_0, if_neg (by omega)]
  | m + 1, i, Y, a, b => by
    rw [fo_s, colw hk m (i + 1)]
    by_cases h2 : a = q ∧ k ≤ b ∧ (b - k) % 3 = 0 ∧ i + 1 ≤ (b - k) / 3 ∧ (b - k) / 3 < i + 1 + m
    · rw [if_pos h2, if_pos (by omega)]
    · rw [if_neg h2]
      by_cases h4 : a = q ∧ b = 3 * i + k
      · rw [if_pos (by omega), h4.1, h4.2, up2_s, show (3 * i + k - k) / 3 = i by omega]
      · rw [if_neg (by omega), up2_n (by omega)]
theorem ft2_run {rk : Nat} {AN : Nat → Nat → Nat} {BI : Nat → Int32} {AL : Nat → Nat → Int64} {P : Nat → Bool} (hP : ∀ u, u < 3 → (P u = true ↔ 0 < AL 12 u)) : ∀ (m t k : Nat) (X : Nat → Nat → Int64), t + m ≤ 3 → k = cn P t → (∀ u, u < t → P u = false → ∀ r, r < rk → X 5 (3 * r + cn P u) = nbr AN BI r u) → (∀ u, u < t → P u = false → X 11 u = 0) → (∀ u, (t ≤ u ∨ P u = true) → X 11 u = AL 11 u) → (∀ a, a ≠ 5 → a ≠ 11 → X a = AL a) →
    (∀ u, u < t + m → P u = false → ∀ r, r < rk → (fo (ft2s rk AN BI) m t (k, X)).2 5 (3 * r + cn P u) = nbr AN BI r u) ∧ (∀ u, u < t + m → P u = false → (fo (ft2s rk AN BI) m t (k, X)).2 11 u = 0) ∧ (∀ u, (t + m ≤ u ∨ P u = true) → (fo (ft2s rk AN BI) m t (k, X)).2 11 u = AL 11 u) ∧ ∀ a, a ≠ 5 → a ≠ 11 → (fo (ft2s rk AN BI) m t (k, X)).2 a = AL a
  | 0, t, k, X, _, _, h1, h2, h3, h4 => ⟨h1, h2, h3, h4⟩
  | m + 1, t, k, X, ht, hk, h1, h2, h3, h4 => by
    rw [fo_s, show t + (m + 1) = t + 1 + m by omega]
    have e12 : X 12 t = AL 12 t := by rw [h4 12 (by omega) (by omega)]
    have hkl := cn_le (P := P) t
    have e1 : cn P (t + 1) = cn P t + (if P t then 0 else 1) := rfl
    unfold ft2s
    by_cases hp : P t = true
    · rw [if_pos (by show 0 < X 12 t; rw [e12]; exact (hP t (by omega)).mp hp)]
      rw [hp] at e1
      refine ft2_run hP m (t + 1) k X (by omega) (by rw [e1, hk]; rfl) (fun u hu hpu r hr => ?_) (fun u hu hpu => ?_) (fun u hu => h3 u (hu.imp (fun h => by omega) id)) h4
      · have : u ≠ t := fun e => by rw [e, hp] at hpu; exact absurd hpu (by decide)
        exact h1 u (by omega) hpu r hr
      · have : u ≠ t := fun e => by rw [e, hp] at hpu; exact absurd hpu (by decide)
        exact h2 u (by omega) hpu
    · have hp' : P t = false := by cases h : P t <;> simp_all
      rw [if_neg (by show ¬ 0 < X 12 t; rw [e12]; exact fun h => hp ((hP t (by omega)).mpr h))]
      rw [hp'] at e1
      have hk3 : k < 3 := by omega
      have hat : ∀ a b, up2 (fo (fun r Y => up2 Y 5 (3 * r + k) (nbr AN BI r t)) rk 0 X) 11 t 0 a b = if a = 11 ∧ b = t then 0 else if a = 5 ∧ k ≤ b ∧ (b - k) % 3 = 0 ∧ 0 ≤ (b - k) / 3 ∧ (b - k) / 3 < 0 + rk then nbr AN BI ((b - k) / 3) t else X a b := fun a b => by
        by_cases h : a = 11 ∧ b = t
        · rw [if_pos h, h.1, h.2, up2_s]
        · rw [if_neg h, up2_n h, colw (g := fun r => nbr AN BI r t) hk3]
      refine ft2_run hP m (t + 1) (k + 1) _ (by omega) (by rw [e1, hk]; rfl) (fun u hu hpu r hr => ?_) (fun u hu hpu => ?_) (fun u hu => ?_) (fun a h5 h11 => ?_)
      · rw [hat, if_neg (by omega)]
        by_cases e : u = t
        · rw [e, ← hk, if_pos (by omega), show (3 * r + k - k) / 3 = r by omega]
        · have hlt := cn_lt (P := P) (show u < t by omega) hpu
          rw [if_neg (by omega)]
          exact h1 u (by omega) hpu r hr
      · rw [hat]
        by_cases e : u = t
        · rw [if_pos ⟨rfl, e⟩]
        · rw [if_neg (by omega), if_neg (by omega)]; exact h2 u (by omega) hpu
      · have : u ≠ t := by
          rcases hu with h | h
          · omega
          · exact fun e => by rw [e, hp'] at h; exact absurd h (by decide)
        rw [hat, if_neg (by omega), if_neg (by omega)]
        exact h3 u (hu.imp (fun h => by omega) id)
      · funext b
        rw [hat, if_neg (by omega), if_neg (by omega), h4 a h5 h11]
theorem ft3_in {r : Nat} {AN : Nat → Nat → Nat} {BI : Nat → Int32} {F G : Nat → Int} {a b : Int} : ∀ (m i : Nat) (Y : Nat → Nat → Int64) (Z : Int), (∀ u, i ≤ u → u < i + m → (nbr AN BI r u).toInt = F u ∧ -a ≤ F u ∧ F u ≤ a) → (∀ u, i ≤ u → u < i + m → (Y 11 u).toInt = G u ∧ -b ≤ G u ∧ G u ≤ b) → -Z ≤ (Y 6 r).toInt → (Y 6 r).toInt ≤ Z → Z + m * (a * b) < 9223372036854775808 → 0 ≤ a * b →
    (fo (fun u Y => up2 Y 6 r (Y 6 r - nbr AN BI r u * Y 11 u)) m i Y 6 r).toInt = (Y 6 r).toInt - dt F G m i ∧ (-(Z + m * (a * b)) ≤ (Y 6 r).toInt - dt F G m i ∧ (Y 6 r).toInt - dt F G m i ≤ Z + m * (a * b)) ∧ ∀ x y, (x ≠ 6 ∨ y ≠ r) → fo (fun u Y => up2 Y 6 r (Y 6 r - nbr AN BI r u * Y 11 u)) m i Y x y = Y x y
  | 0, i, Y, Z, _, _, h1, h2, _, _ => by
    have e : dt F G 0 i = 0 := rfl
    rw [e]
    exact ⟨by rw [fo_0]; omega, ⟨by simp; omega, by simp; omega⟩, fun _ _ _ => rfl⟩
  | m + 1, i, Y, Z, hf, hg, h1, h2, h3, h0 => by
    obtain ⟨e1, f1, f2⟩ := hf i (by omega) (by omega)
    obtain ⟨e2, g1, g2⟩ := hg i (by omega) (by omega)
    have p := ab_mul f1 f2 g1 g2
    have en : ((m + 1 : Nat) : Int) * (a * b) = m * (a * b) + a * b := by push_cast; grind
    rw [en] at h3 ⊢
    have hnn : 0 ≤ (m : Int) * (a * b) := Int.mul_nonneg (by omega) h0
    have m1 : (nbr AN BI r i * Y 11 i).toInt = F i * G i := by rw [← e1, ← e2]; exact t_mul (by rw [e1, e2]; omega) (by rw [e1, e2]; omega)
    have m2 : (Y 6 r - nbr AN BI r i * Y 11 i).toInt = (Y 6 r).toInt - F i * G i := by rw [t_sub (by rw [m1]; omega) (by rw [m1]; omega), m1]
    obtain ⟨W, hW⟩ : ∃ W, W = up2 Y 6 r (Y 6 r - nbr AN BI r i * Y 11 i) := ⟨_, rfl⟩
    have w1 : (W 6 r).toInt = (Y 6 r).toInt - F i * G i := by rw [hW, up2_s, m2]
    have w2 : ∀ x y, (x ≠ 6 ∨ y ≠ r) → W x y = Y x y := fun x y h => by rw [hW, up2_n (by omega)]
    obtain ⟨i1, i2, i3⟩ := ft3_in (AN := AN) (BI := BI) (F := F) (G := G) m (i + 1) W (Z + a * b) (fun c c1 c2 => hf c (by omega) (by omega)) (fun c c1 c2 => by rw [w2 11 c (.inl (by omega))]; exact hg c (by omega) (by omega)) (by rw [w1]; omega) (by rw [w1]; omega) (by omega) h0
    rw [fo_s]
    rw [← hW]
    simp only [dt]
    rw [w1] at i1 i2
    exact ⟨by omega, by omega, fun x y h => by rw [i3 x y h, w2 x y h]⟩
theorem ft3_run {n rk : Nat} {AN : Nat → Nat → Nat} {BI : Nat → Int32} {f : Nat → Nat → Int} {g : Nat → Int} {b : Nat → Int} (hn : n ≤ 3) : ∀ (m i : Nat) (X : Nat → Nat → Int64), (∀ r, i ≤ r → r < i + m → (∀ u, u < n → (nbr AN BI r u).toInt = f r u ∧ -9 ≤ f r u ∧ f r u ≤ 9) ∧ (Int32.toInt64 (BI (4 * AN 3 r + 3))).toInt = b r ∧ -9 ≤ b r ∧ b r ≤ 9) → (∀ u, u < n → (X 11 u).toInt = g u ∧ -162 ≤ g u ∧ g u ≤ 162) →
    (∀ r, i ≤ r → r < i + m → (fo (fun r X => fo (fun u Y => up2 Y 6 r (Y 6 r - nbr AN BI r u * Y 11 u)) n 0 (up2 X 6 r (Int32.toInt64 (BI (4 * AN 3 r + 3))))) m i X 6 r).toInt = b r - dt (f r) g n 0 ∧ -4383 ≤ b r - dt (f r) g n 0 ∧ b r - dt (f r) g n 0 ≤ 4383) ∧ (∀ x y, (x ≠ 6 ∨ ¬ (i ≤ y ∧ y < i + m)) → fo (fun r X => fo (fun u Y => up2 Y 6 r (Y 6 r - nbr AN BI r u * Y 11 u)) n 0 (up2 X 6 r (Int32.toInt64 (BI (4 * AN 3 r + 3))))) m i X x y = X x y)
  | 0, i, X, _, _ => ⟨fun r h1 h2 => absurd h2 (by omega), fun _ _ _ => rfl⟩
  | m + 1, i, X, h1, h2 => by
    obtain ⟨q1, q2, q3, q4⟩ := h1 i (by omega) (by omega)
    obtain ⟨j1, j2, j3⟩ := ft3_in (r := i) (AN := AN) (BI := BI) (F := f i) (G := g) (a := 9) (b := 162) n 0 (up2 X 6 i (Int32.toInt64 (BI (4 * AN 3 i + 3)))) 9 (fun u _ hu => q1 u (by omega)) (fun u _ hu => by rw [up2_n (by omega)]; exact h2 u (by omega)) (by rw [up2_s, q2]; exact q3) (by rw [up2_s, q2]; exact q4) (by omega) (by omega)
    rw [up2_s, q2] at j1 j2
    obtain ⟨W, hW⟩ : ∃ W, W = fo (fun u Y => up2 Y 6 i (Y 6 i - nbr AN BI i u * Y 11 u)) n 0 (up2 X 6 i (Int32.toInt64 (BI (4 * AN 3 i + 3)))) := ⟨_, rfl⟩
    rw [← hW] at j1 j3
    have w2 : ∀ x y, (x ≠ 6 ∨ y ≠ i) → W x y = X x y := fun x y h => by rw [j3 x y h, up2_n (by omega)]
    obtain ⟨k1, k2⟩ := ft3_run (rk := rk) (AN := AN) (BI := BI) (f := f) (g := g) (b := b) hn m (i + 1) W (fun r r1 r2 => h1 r (by omega) (by omega)) (fun u hu => by rw [w2 11 u (.inl (by omega))]; exact h2 u hu)
    rw [fo_s]
    rw [← hW]
    refine ⟨fun r r1 r2 => ?_, fun x y h => ?_⟩
    · by_cases e : r = i
      · rw [e, k2 6 i (.inr (by omega)), j1]
        omega
      · exact k1 r (by omega) (by omega)
    · rw [k2 x y (by omega), w2 x y (by omega)]
theorem ft5_run {al : Int64} {P : Nat → Bool} {D : Int} {ans : Nat → Int} (hD : al.toInt = D) (hD0 : D ≠ 0) : ∀ (m t k : Nat) (X : Nat → Nat → Int64), t + m ≤ 3 → k = cn P t → (∀ u, u < 3 → (P u = true ↔ 0 < X 12 u)) → (∀ u, t ≤ u → u < t + m → P u = false → (X 7 (cn P u)).toInt = ans (cn P u) ∧ (ans (cn P u)).natAbs < 1000000000000) →
    ((ft5 al m t k X).1 = true ↔ ∀ u, t ≤ u → u < t + m → P u = false → D ∣ ans (cn P u)) ∧ ((ft5 al m t k X).1 = true → (∀ u, t ≤ u → u < t + m → P u = false → D * ((ft5 al m t k X).2 11 u).toInt = ans (cn P u)) ∧ ∀ u, (u < t ∨ t + m ≤ u ∨ P u = true) → (ft5 al m t k X).2 11 u = X 11 u) ∧ (ft5 al m t k X).2 12 = X 12
  | 0, t, k, X, _, _, _, _ => ⟨⟨fun _ u h1 h2 => absurd h2 (by omega), fun _ => rfl⟩, fun _ => ⟨fun u h1 h2 => absurd h2 (by omega), fun _ _ => rfl⟩, rfl⟩
  | m + 1, t, k, X, ht, hk, hP, h7 => by
    have e1 : cn P (t + 1) = cn P t + (if P t then 0 else 1) := rfl
    unfold ft5
    by_cases hp : P t = true
    · rw [if_pos ((hP t (by omega)).mp hp)]
      rw [hp] at e1
      obtain ⟨i1, i2, i3⟩ := ft5_run hD hD0 m (t + 1) k X (by omega) (by rw [e1, hk]; rfl) hP (fun u h1 h2 => h7 u (by omega) (by omega))
      refine ⟨i1.trans ⟨fun h u h1 h2 hu => ?_, fun h u h1 h2 hu => h u (by omega) (by omega) hu⟩, fun h => ⟨fun u h1 h2 hu => ?_, fun u hu => (i2 h).2 u ?_⟩, i3⟩
      · have : u ≠ t := fun e => by rw [e, hp] at hu; exact absurd hu (by decide)
        exact h u (by omega) (by omega) hu
      · have : u ≠ t := fun e => by rw [e, hp] at hu; exact absurd hu (by decide)
        exact (i2 h).1 u (by omega) (by omega) hu
      · by_cases e : u = t
        · rw [e]; exact .inr (.inr hp)
        · rcases hu with h | h | h
          · exact .inl (by omega)
          · exact .inr (.inl (by omega))
          · exact .inr (.inr h)
    · have hp' : P t = false := by cases h : P t <;> simp_all
      rw [if_neg (fun h => hp ((hP t (by omega)).mpr h))]
      rw [hp'] at e1
      obtain ⟨a1, a2⟩ := h7 t (by omega) (by omega) hp'
      rw [← hk] at a1 a2
      have ed : (X 7 k / al).toInt = (ans k).tdiv D := by rw [t_div (by rw [a1]; omega), a1, hD]
      have hab : ((ans k).tdiv D * D).natAbs ≤ (ans k).natAbs := by
        rw [Int.natAbs_mul, Int.natAbs_tdiv]; exact Nat.div_mul_le_self _ _
      have em : (X 7 k / al * al).toInt = (ans k).tdiv D * D := by rw [t_mul (by rw [ed, hD]; omega) (by rw [ed, hD]; omega), ed, hD]
      have hdv : (X 7 k - X 7 k / al * al = 0) ↔ D ∣ ans k := by
        rw [i64_sub0, ← Int64.toInt_inj, em, a1]
        constructor
        · intro h
          exact ⟨(ans k).tdiv D, h.trans (Int.mul_comm _ _)⟩
        · intro h
          rw [tdiv_dvd h, Int.ediv_mul_cancel h]
      by_cases hz : X 7 k - X 7 k / al * al = 0
      · rw [if_pos hz]
        have hd := hdv.mp hz
        obtain ⟨i1, i2, i3⟩ := ft5_run hD hD0 m (t + 1) (k + 1) (up2 X 11 t (X 7 k / al)) (by omega) (by rw [e1, hk]; rfl) (fun u hu => by rw [up2_n (by omega)]; exact hP u hu) (fun u h1 h2 => by rw [up2_n (by omega)]; exact h7 u (by omega) (by omega))
        refine ⟨i1.trans ⟨fun h u h1 h2 hu => ?_, fun h u h1 h2 hu => h u (by omega) (by omega) hu⟩, fun h => ⟨fun u h1 h2 hu => ?_, fun u hu => ?_⟩, ?_⟩
        · by_cases e : u = t
          · rw [e, ← hk]; exact hd
          · exact h u (by omega) (by omega) hu
        · by_cases e : u = t
          · rw [e, (i2 h).2 t (.inl (by omega)), up2_s, ed, tdiv_dvd hd, ← hk]
            exact Int.mul_ediv_cancel' hd
          · exact (i2 h).1 u (by omega) (by omega) hu
        · have : u ≠ t := by
            rcases hu with h | h | h
            · omega
            · omega
            · exact fun e => by rw [e, hp'] at h; exact absurd h (by decide)
          rw [(i2 h).2 u (by
            rcases hu with h | h | h
            · exact .inl (by omega)
            · exact .inr (.inl (by omega))
            · exact .inr (.inr h)), up2_n (by omega)]
        · rw [i3, up2_row (by omega)]
      · rw [if_neg hz]
        refine ⟨⟨fun h => absurd h (by simp), fun h => absurd (by rw [hk]; exact h t (by omega) (by omega) hp') (fun h' => hz (hdv.mpr h'))⟩, fun h => absurd h (by simp), rfl⟩
