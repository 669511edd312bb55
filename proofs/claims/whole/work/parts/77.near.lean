/-- sums of products of the numbers of two columns -/
def gr (u : TS) (i c : Nat) : Int := dt (fun p => aU u p i) (fun p => aU u p c) (u.1 1) 0
theorem dt_bd {f x : Nat → Int} {a : Int} (h0 : 0 ≤ a) : ∀ (n i : Nat), (∀ p, i ≤ p → p < i + n → (-a ≤ f p * x p ∧ f p * x p ≤ a)) → -(n * a) ≤ dt f x n i ∧ dt f x n i ≤ n * a
  | 0, i, _ => by simp [dt]
  | n + 1, i, h => by
    have h1 := dt_bd (f := f) (x := x) h0 n (i + 1) (fun p h1 h2 => h p (by omega) (by omega))
    have h2 := h i (by omega) (by omega)
    simp only [dt]
    have e : ((n + 1 : Nat) : Int) * a = n * a + a := by push_cast; grind
    rw [e]
    omega
theorem gr_bd {u : TS} {v : MS} (hI : Inv u v) {i c : Nat} (hi : i ≤ u.1 0) (hc : c ≤ u.1 0) : -243 ≤ gr u i c ∧ gr u i c ≤ 243 := by
  have hB := (eq_pack hI).2.2.2.2.2
  have h3 := hI.1.2.2
  have := dt_bd (f := fun p => aU u p i) (x := fun p => aU u p c) (a := 81) (by decide) (u.1 1) 0 (fun p _ hp => by
    have a1 := hB.2.2 p i (by omega) hi
    have a2 := hB.2.2 p c (by omega) hc
    have := ab_mul a1.1 a1.2 a2.1 a2.2
    show -81 ≤ aU u p i * aU u p c ∧ _
    omega)
  show -243 ≤ dt (fun p => aU u p i) (fun p => aU u p c) (u.1 1) 0 ∧ dt (fun p => aU u p i) (fun p => aU u p c) (u.1 1) 0 ≤ 243
  omega
theorem cpr_int {u : TS} {v : MS} (hI : Inv u v) {i c : Nat} (hi : i ≤ u.1 0) (hc : c ≤ u.1 0) : (cpr (u.1 1) u.2.2.1 i c).toInt = gr u i c := by
  have hB := (eq_pack hI).2.2.2.2.2
  have h3 := hI.1.2.2
  have gen : ∀ (m p : Nat) (z : Int64) (Z : Int), p + m ≤ u.1 1 → -Z ≤ z.toInt → z.toInt ≤ Z → Z + m * 81 ≤ 1000 → (fo (fun p z => z + Int32.toInt64 (u.2.2.1 (p + 8) i * u.2.2.1 (p + 8) c)) m p z).toInt = z.toInt + dt (fun p => aU u p i) (fun p => aU u p c) m p := by
    intro m
    induction m with
    | zero => intro p z Z _ _ _ _; rw [fo_0]; simp only [dt]; omega
    | succ m ih =>
      intro p z Z hp h1 h2 hZ
      have a1 := hB.2.2 p i (by omega) hi
      have a2 := hB.2.2 p c (by omega) hc
      have q := ab_mul a1.1 a1.2 a2.1 a2.2
      have e1 : (Int32.toInt64 (u.2.2.1 (p + 8) i * u.2.2.1 (p + 8) c)).toInt = aU u p i * aU u p c := by
        rw [t32_64, u_mul (by show _ ≤ aU u p i * aU u p c; omega) (by show aU u p i * aU u p c < _; omega)]; rfl
      have e2 : (z + Int32.toInt64 (u.2.2.1 (p + 8) i * u.2.2.1 (p + 8) c)).toInt = z.toInt + aU u p i * aU u p c := by
        rw [t_add (by rw [e1]; omega) (by rw [e1]; omega), e1]
      rw [fo_s, ih (p + 1) _ (Z + 81) (by omega) (by rw [e2]; omega) (by rw [e2]; omega) (by omega), e2]
      simp only [dt]
      omega
  have := gen (u.1 1) 0 0 0 (by omega) (by rw [z64]; omega) (by rw [z64]; omega) (by omega)
  rw [z64, Int.zero_add] at this
  exact this
theorem nefill1_at {n e : Nat} {AI : Nat → Nat → Int32} {X : Nat → Nat → Int64} (a b : Nat) : nefill1 n e AI X a b = if 11 ≤ a ∧ a < n + 1 + 11 ∧ b < n + 2 then (if b < n then cpr e AI (a - 11) b else if b = n then (if a - 11 = n then 1 else 0) else cpr e AI (a - 11) n) else X a b := by
  unfold nefill1
  rw [fo_rows (s := 11) (N := n + 2) (g := fun i b => if b < n then cpr e AI i b else if b = n then (if i = n then 1 else 0) else cpr e AI i n) (fun i X a b => by
    by_cases h1 : a = i + 11 ∧ b = n + 1
    · rw [h1.1, h1.2, up2_s, if_pos ⟨rfl, by omega⟩, if_neg (by omega), if_neg (by omega)]
    · rw [up2_n h1]
      by_cases h2 : a = i + 11 ∧ b = n
      · rw [h2.1, h2.2, up2_s, if_pos (show i + 11 = i + 11 ∧ n < n + 2 by omega), if_neg (show ¬ n < n by omega), if_pos (show n = n from rfl)]
      · rw [up2_n h2, fo_fil (g := fun j => cpr e AI i j)]
        by_cases h3 : a = i + 11 ∧ b < n
        · rw [if_pos (show a = i + 11 ∧ 0 ≤ b ∧ b < 0 + n by omega), if_pos (show a = i + 11 ∧ b < n + 2 by omega), if_pos h3.2]
        · rw [if_neg (show ¬ (a = i + 11 ∧ 0 ≤ b ∧ b < 0 + n) by omega), if_neg (show ¬ (a = i + 11 ∧ b < n + 2) by omega)])]
  by_cases h : 11 ≤ a ∧ a < n + 1 + 11 ∧ b < n + 2
  · rw [if_pos (show 0 + 11 ≤ a ∧ a < 0 + (n + 1) + 11 ∧ b < n + 2 by omega), if_pos h]
  · rw [if_neg (show ¬ (0 + 11 ≤ a ∧ a < 0 + (n + 1) + 11 ∧ b < n + 2) by omega), if_neg h]
theorem nefill2_run {n mb : Nat} : ∀ (m k : Nat) (X : Nat → Nat → Int64) (a b : Nat), n + 1 + k + m + 11 ≤ 18 → fo (fun k X => fo (fun j Y => up2 Y (n + 1 + k + 11) j (Y (n - mb + k + 18) (3 + j))) n 0 X) m k X a b = if n + 1 + k + 11 ≤ a ∧ a < n + 1 + k + m + 11 ∧ b < n then X (n - mb + (a - (n + 12)) + 18) (3 + b) else X a b
  | 0, k, X, a, b, _ => by rw [fo_0, if_neg (by omega)]
  | m + 1, k, X, a, b, h => by
    have inner : ∀ (m' j : Nat) (Y : Nat → Nat → Int64) (a b : Nat), fo (fun j Y => up2 Y (n + 1 + k + 11) j (Y (n - mb + k + 18) (3 + j))) m' j Y a b = if a = n + 1 + k + 11 ∧ j ≤ b ∧ b < j + m' then Y (n - mb + k + 18) (3 + b) else Y a b := by
      intro m'
      induction m' with
      | zero => intro j Y a b; rw [fo_0, if_neg (by omega)]
      | succ m' ih =>
        intro j Y a b
        rw [fo_s, ih]
        by_cases h1 : a = n + 1 + k + 11 ∧ j + 1 ≤ b ∧ b < j + 1 + m'
        · rw [if_pos h1, if_pos (by omega), up2_n (by omega)]
        · rw [if_neg h1]
          by_cases h2 : a = n + 1 + k + 11 ∧ b = j
          · rw [if_pos (by omega), h2.1, h2.2, up2_s]
          · rw [if_neg (by omega), up2_n (by omega)]
    rw [fo_s, nefill2_run m (k + 1) _ a b (by omega)]
    by_cases h1 : n + 1 + (k + 1) + 11 ≤ a ∧ a < n + 1 + (k + 1) + m + 11 ∧ b < n
    · rw [if_pos h1, if_pos (by omega), inner, if_neg (by omega)]
    · rw [if_neg h1, inner]
      by_cases h2 : a = n + 1 + k + 11 ∧ 0 ≤ b ∧ b < 0 + n
      · rw [if_pos h2, if_pos (by omega), show a - (n + 12) = k by omega]
      · rw [if_neg h2, if_neg (by omega)]
theorem zer_at {a b : Nat} {X : Nat → Nat → Int64} (r c : Nat) : zer a b X r c = if 11 ≤ r ∧ r < b + 11 ∧ c < a + 1 then 0 else X r c := by
  unfold zer
  rw [fo_rows (s := 11) (N := a + 1) (g := fun _ _ => 0) (fun i X r c => by
    rw [fo_fil (g := fun _ => (0 : Int64))]
    by_cases h : r = i + 11 ∧ c < a + 1
    · rw [if_pos h, if_pos (by omega)]
    · rw [if_neg h, if_neg (by omega)])]
  by_cases h : 11 ≤ r ∧ r < b + 11 ∧ c < a + 1
  · rw [if_pos h, if_pos (by omega)]
  · rw [if_neg h, if_neg (by omega)]
abbrev X9 (u : TS) : Nat → Nat → Int64 := nefill2 (u.1 0) (sM u) (nefill1 (u.1 0) (u.1 1) u.2.2.1 (zer (u.1 0 + 1) (u.1 0 + 1 + sM u) (S9 u).2))
theorem x9_at {u : TS} {v : MS} (hI : Inv u v) : (∀ i, i ≤ u.1 0 → (∀ c, c < u.1 0 → vE (X9 u) i c = gr u i c) ∧ vE (X9 u) i (u.1 0) = (if i = u.1 0 then 1 else 0) ∧ vE (X9 u) i (u.1 0 + 1) = gr u i (u.1 0)) ∧ ∀ k, k < sM u → (∀ c, c < u.1 0 → vE (X9 u) (u.1 0 + 1 + k) c = bM u k c) ∧ vE (X9 u) (u.1 0 + 1 + k) (u.1 0) = 0 ∧ vE (X9 u) (u.1 0 + 1 + k) (u.1 0 + 1) = 0 := by
  have hn := hI.1.2.1
  have hs := (sp_hb hI).1
  have at_ : ∀ a b, X9 u a b = if u.1 0 + 1 + 0 + 11 ≤ a ∧ a < u.1 0 + 1 + 0 + sM u + 11 ∧ b < u.1 0 then nefill1 (u.1 0) (u.1 1) u.2.2.1 (zer (u.1 0 + 1) (u.1 0 + 1 + sM u) (S9 u).2) (u.1 0 - sM u + (a - (u.1 0 + 12)) + 18) (3 + b) else nefill1 (u.1 0) (u.1 1) u.2.2.1 (zer (u.1 0 + 1) (u.1 0 + 1 + sM u) (S9 u).2) a b := fun a b => nefill2_run _ _ _ a b (by omega)
  refine ⟨fun i hi => ⟨fun c hc => ?_, ?_, ?_⟩, fun k hk => ⟨fun c hc => ?_, ?_, ?_⟩⟩
  · show (X9 u (i + 11) c).toInt = _
    rw [at_, if_neg (by omega), nefill1_at, if_pos (by omega), if_pos hc, Nat.add_sub_cancel]
    exact cpr_int hI hi (by omega)
  · show (X9 u (i + 11) (u.1 0)).toInt = _
    rw [at_, if_neg (by omega), nefill1_at, if_pos (by omega), if_neg (by omega), if_pos rfl, Nat.add_sub_cancel]
    by_cases e : i = u.1 0
    · rw [if_pos e, if_pos e]; rfl
    · rw [if_neg e, if_neg e]; rfl
  · show (X9 u (i + 11) (u.1 0 + 1)).toInt = _
    rw [at_, if_neg (by omega), nefill1_at, if_pos (by omega), if_neg (by omega), if_neg (by omega), Nat.add_sub_cancel]
    exact cpr_int hI hi (Nat.le_refl _)
  · show (X9 u (u.1 0 + 1 + k + 11) c).toInt = _
    rw [at_, if_pos (by omega), nefill1_at, if_neg (by omega), zer_at, if_neg (by omega), show u.1 0 + 1 + k + 11 - (u.1 0 + 12) = k by omega]
  · show (X9 u (u.1 0 + 1 + k + 11) (u.1 0)).toInt = _
    rw [at_, if_neg (by omega), nefill1_at, if_neg (by omega), zer_at, if_pos (by omega)]; rfl
  · show (X9 u (u.1 0 + 1 + k + 11) (u.1 0 + 1)).toInt = _
    rw [at_, if_neg (by omega), nefill1_at, if_neg (by omega), zer_at, if_pos (by omega)]; rfl
theorem dt_two {f x : Nat → Int} {n : Nat} : dt f x (n + 1 + 1) 0 = dt f x n 0 + f n * x n + f (n + 1) * x (n + 1) := by
  rw [dt_snoc, dt_snoc, Nat.zero_add, Nat.zero_add]
theorem gr_dot {u : TS} {i : Nat} {z : Nat → Int} : dt (gr u i) z (u.1 0) 0 = dt (fun p => aU u p i) (fun p => dt (aU u p) z (u.1 0) 0) (u.1 1) 0 := by
  have e1 : dt z (fun c => dt (fun p => aU u p c) (fun p => aU u p i) (u.1 1) 0) (u.1 0) 0 = dt (fun p => dt z (aU u p) (u.1 0) 0) (fun p => aU u p i) (u.1 1) 0 := dt_swap (f := z) (g := aU u) (k := fun p => aU u p i) (m := u.1 1) (u.1 0) 0
  rw [dt_comm]
  rw [dt_cx (x := gr u i) (y := fun c => dt (fun p => aU u p c) (fun p => aU u p i) (u.1 1) 0) _ _ (fun c _ _ => dt_comm _ _), e1, dt_comm]
  exact dt_cx _ _ (fun p _ _ => dt_comm _ _)
/-- the normal equations and the base leave only 0 -/
theorem ne_def {u : TS} {v : MS} (hI : Inv u v) (z : Nat → Int) (hz : Ker (u.1 0 + 1) (u.1 0 + 1 + sM u) (vE (X9 u)) z) (h1 : z (u.1 0 + 1) = 0) (h0 : z (u.1 0) = 0) : ∀ c, c < u.1 0 → z c = 0 := by
  obtain ⟨x1, x2⟩ := x9_at hI
  have r1 : ∀ i, i < u.1 0 → dt (gr u i) z (u.1 0) 0 = 0 := fun i hi => by
    have h := hz i (by omega)
    rw [dt_two, h1, h0, dt_congr (f := gr u i) _ _ (fun c _ hc => (x1 i (by omega)).1 c (by omega))] at h
    omega
  have hη : dt (fun p => dt (aU u p) z (u.1 0) 0) (fun p => dt (aU u p) z (u.1 0) 0) (u.1 1) 0 = 0 := by
    have e1 : dt z (fun i => dt (fun p => aU u p i) (fun p => dt (aU u p) z (u.1 0) 0) (u.1 1) 0) (u.1 0) 0 = dt (fun p => dt z (aU u p) (u.1 0) 0) (fun p => dt (aU u p) z (u.1 0) 0) (u.1 1) 0 := dt_swap (f := z) (g := aU u) (k := fun p => dt (aU u p) z (u.1 0) 0) (m := u.1 1) (u.1 0) 0
    have e2 : dt z (fun i => dt (fun p => aU u p i) (fun p => dt (aU u p) z (u.1 0) 0) (u.1 1) 0) (u.1 0) 0 = 0 := dt_zero _ _ (fun i _ hi => by rw [← gr_dot]; exact r1 i (by omega))
    rw [e2] at e1
    rw [e1]
    exact dt_congr _ _ (fun p _ _ => dt_comm _ _)
  have hk : kA u z := fun p hp => (dt_sq (u.1 1) 0).2 hη p (Nat.zero_le _) (by omega)
  obtain ⟨κ, hκ⟩ := (sp_hb hI).2.2.2.2.2.2.2.2 z hk
  have hzz : dt z z (u.1 0) 0 = 0 := by
    rw [dt_cx (x := z) (y := fun c => dt (fun k => bM u k c) κ (sM u) 0) _ _ (fun c _ hc => hκ c (by omega))]
    rw [dt_swap (f := z) (g := bM u) (k := κ) (m := sM u) (u.1 0) 0]
    refine dt_f0 _ _ (fun k _ hk => ?_)
    have h := hz (u.1 0 + 1 + k) (by omega)
    rw [dt_two, h1, h0, dt_congr (f := bM u k) _ _ (fun c _ hc => (x2 k (by omega)).1 c (by omega))] at h
    rw [dt_comm]
    omega
  exact fun c hc => (dt_sq (u.1 0) 0).2 hzz c (Nat.zero_le _) (by omega)
theorem ne_pack {u : TS} {v : MS} (hI : Inv u v) : (N9 u).1 = u.1 0 + 1 ∧ EI (u.1 0 + 1) (u.1 0 + 1 + sM u) (u.1 0 + 1) (u.1 0 + 1) ((N9 u).2.1 5) (vE (N9 u).2.2) ∧ (∀ c, c < u.1 0 + 1 → (N9 u).2.1 5 c = c) ∧ (∀ x, Ker (u.1 0 + 1) (u.1 0 + 1 + sM u) (vE (X9 u)) x ↔ Ker (u.1 0 + 1) (u.1 0 + 1 + sM u) (vE (N9 u).2.2) x) ∧ (∀ i, i < u.1 0 + 1 + sM u → Bd 14824161510814728 (vE (N9 u).2.2 i) (u.1 0 + 1)) ∧ (∀ a, a ≠ 5 → (N9 u).2.1 a = (S9 u).1 a) ∧ ∀ k, k < 7 → (N9 u).2.1 5 k < 2 ^ 31 := by
  obtain ⟨x1, x2⟩ := x9_at hI
  have hn := hI.1.2.1
  have hs := (sp_hb hI).1
  obtain ⟨o, β, hfb, _⟩ := fb_pack hI
  obtain ⟨eb1, eb2⟩ := base_eq hI hfb
  have row : ∀ i, i < u.1 0 + 1 + sM u → i ≤ u.1 0 ∨ ∃ k, k < sM u ∧ i = u.1 0 + 1 + k := fun i hi => by
    by_cases h : i ≤ u.1 0
    · exact .inl h
    · exact .inr ⟨i - (u.1 0 + 1), by omega, by omega⟩
  obtain ⟨AN, Y, r1, r2, r3, r4, r5, r6, r7⟩ := near_fin (n := u.1 0) (e := u.1 1) (h := u.1 0 + 1 + sM u) (A := aU u) (R0 := vE (X9 u)) hn (by omega) (fun z h1 h2 h3 => ne_def hI z h1 h2 h3) (S9 u).1 (X9 u) (by
    refine ⟨ei_0, fun c hc => absurd hc (Nat.not_lt_zero _), fun x => Iff.rfl, ⟨fun i hi hin => ?_, ?_⟩, fun i _ hi => ?_, fun i hi c hc => ?_⟩
    · rcases row i hi with h | ⟨k, hk, rfl⟩
      · rw [(x1 i h).2.1, if_neg hin]
      · exact (x2 k hk).2.1
    · rw [(x1 _ (Nat.le_refl _)).2.1, if_pos rfl]; omega
    · refine ⟨fun p => aU u p i, 1, ⟨by omega, fun c hc => ?_⟩, fun hin => ⟨fun t => if t = i then 1 else 0, ?_, fun t _ _ ht => if_neg ht, fun p hp => ?_⟩⟩
      · rw [(x1 i hi).1 c hc, Int.one_mul]
        exact dt_comm _ _
      · show 0 < (if i = i then (1 : Int) else 0)
        rw [if_pos rfl]; omega
      · rw [dt_sgl _ _ (Nat.zero_le _) (by omega)]
        show aU u p i = _
        omega
    · show -243 ≤ vE (X9 u) i c ∧ vE (X9 u) i c ≤ 243
      rcases row i hi with h | ⟨k, hk, rfl⟩
      · by_cases e1 : c < u.1 0
        · rw [(x1 i h).1 c e1]; exact gr_bd hI h (by omega)
        · by_cases e2 : c = u.1 0
          · rw [e2, (x1 i h).2.1]
            by_cases e3 : i = u.1 0
            · rw [if_pos e3]; omega
            · rw [if_neg e3]; omega
          · rw [show c = u.1 0 + 1 by omega, (x1 i h).2.2]; exact gr_bd hI h (Nat.le_refl _)
      · by_cases e1 : c < u.1 0
        · rw [(x2 k hk).1 c e1, (eb2 k (by rw [← eb1]; exact hk)).2 c e1]
          have := hfb.2.2.2 k (by rw [← eb1]; exact hk) c (by omega)
          omega
        · by_cases e2 : c = u.1 0
          · rw [e2, (x2 k hk).2.1]; omega
          · rw [show c = u.1 0 + 1 by omega, (x2 k hk).2.2]; omega)
  have e : N9 u = (u.1 0 + 1, AN, Y) := r1
  rw [e]
  refine ⟨rfl, r2, r3, r4, r5, r6, fun k hk => ?_⟩
  show AN 5 k < 2 ^ 31
  rcases r7 k with h | h
  · rw [h, (sp_pack hI).2.2.2.2.2.1 5 (by omega)]; exact hI.2.2.2.1.2 k hk
  · omega
theorem inv_tN {u : TS} {v : MS} (hI : Inv u v) {J' : Nat → Nat} {G' : Nat → Int64} {BN' : Nat → Nat → Nat} {BL' : Nat → Nat → Int64} (e2 : J' 1 = v.1 1) (e3 : J' 2 = v.1 2) (hok : okA BN') : Inv (tN u) (J', G', BN', v.2.2.2.1, BL') := by
  obtain ⟨_, _, _, _, _, h6, h7⟩ := ne_pack hI
  exact inv_keep hI rfl rfl e2 e3 (fun r hr => by rw [h6 7 (by omega)]; exact (sp_pack hI).2.2.2.2.2.2 r hr) h7 hok
/-- what the class answers, against a vector that solves the rows -/
theorem ne_part {u : TS} {v : MS} (hI : Inv u v) {x : Nat → Int} {c d : Int64} {t : Nat} (ht : t ≤ u.1 0) {q : Int32} (hx : Ker (u.1 0 + 1) (u.1 0 + 1 + sM u) (vE (X9 u)) x) (hc : x t = c.toInt) (hd : x (u.1 0 + 1) = -d.toInt) (h0 : d.toInt ≠ 0) (bc : -9223372036854775808 < c.toInt) (bd : -9223372036854775808 < d.toInt) : ppart (N9 u).2.1 (N9 u).2.2 (N9 u).1 (u.1 0 + 1) t q = if q = 0 then upL c d else dnL c d := by
  obtain ⟨n1, n2, n3, n4, n5, _⟩ := ne_pack hI
  have hv := (n4 x).mp hx t (by omega)
  obtain ⟨a1, a2, a3, a4, a5, a6, a7, a8⟩ := n2
  have hoff : ∀ i, i ≤ u.1 0 → i ≠ t → vE (N9 u).2.2 t i = 0 := fun i hi hit => by
    have := a6 i (by omega) t (by omega) (fun e => hit e.symm)
    rw [n3 i (by omega)] at this
    exact this
  have e1 : dt (vE (N9 u).2.2 t) x (u.1 0 + 1) 0 = vE (N9 u).2.2 t t * x t := dt_f1 (k := t) _ _ (Nat.zero_le _) (by omega) (fun j _ hj hjt => hoff j (by omega) hjt)
  rw [dt_snoc, e1, Nat.zero_add, hc, hd, Int.mul_neg] at hv
  have hp := a5 t (by omega)
  rw [n3 t (by omega)] at hp
  have hb := n5 t (by omega) (u.1 0 + 1) (Nat.le_refl _)
  unfold ppart
  rw [n1, rdec_some (c := t) a4 (by omega) (n3 t (by omega))]
  refine low_eq (by show _ < vE (N9 u).2.2 t (u.1 0 + 1); omega) hp bc bd h0 ?_
  show vE (N9 u).2.2 t (u.1 0 + 1) * d.toInt = c.toInt * vE (N9 u).2.2 t t
  rw [Int.mul_comm c.toInt]
  omega
