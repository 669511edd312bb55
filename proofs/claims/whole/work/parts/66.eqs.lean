/-! Model's Cramer, the class's equations, and how they stand to each other. -/
theorem fo_dt {f g : Nat → Int64} {F G : Nat → Int} {a b : Int} : ∀ (n i : Nat) (z : Int64) (Z : Int), (∀ c, i ≤ c → c < i + n → (f c).toInt = F c ∧ -a ≤ F c ∧ F c ≤ a) → (∀ c, i ≤ c → c < i + n → (g c).toInt = G c ∧ -b ≤ G c ∧ G c ≤ b) → -Z ≤ z.toInt → z.toInt ≤ Z → Z + n * (a * b) < 9223372036854775808 → 0 ≤ a * b → (fo (fun c z => z + f c * g c) n i z).toInt = z.toInt + dt F G n i ∧ -(Z + n * (a * b)) ≤ z.toInt + dt F G n i ∧ z.toInt + dt F G n i ≤ Z + n * (a * b)
  | 0, i, z, Z, _, _, h1, h2, _, _ => by
    rw [fo_0]
    simp only [dt]
    refine ⟨by omega, ?_, ?_⟩ <;> simp <;> omega
  | n + 1, i, z, Z, hf, hg, h1, h2, h3, h0 => by
    obtain ⟨e1, f1, f2⟩ := hf i (by omega) (by omega)
    obtain ⟨e2, g1, g2⟩ := hg i (by omega) (by omega)
    have p := ab_mul f1 f2 g1 g2
    have en : ((n + 1 : Nat) : Int) * (a * b) = n * (a * b) + a * b := by push_cast; grind
    rw [en] at h3 ⊢
    have hnn : 0 ≤ (n : Int) * (a * b) := Int.mul_nonneg (by omega) h0
    have m1 : (f i * g i).toInt = F i * G i := by rw [← e1, ← e2]; exact t_mul (by rw [e1, e2]; omega) (by rw [e1, e2]; omega)
    have m2 : (z + f i * g i).toInt = z.toInt + F i * G i := by rw [t_add (by rw [m1]; omega) (by rw [m1]; omega), m1]
    have ih := fo_dt (f := f) (g := g) (F := F) (G := G) n (i + 1) (z + f i * g i) (Z + a * b) (fun c c1 c2 => hf c (by omega) (by omega)) (fun c c1 c2 => hg c (by omega) (by omega)) (by rw [m2]; omega) (by rw [m2]; omega) (by omega) h0
    rw [fo_s]
    simp only [dt]
    rw [m2] at ih
    omega
theorem ssA_at {k c : Nat} (hc : c < 3) : ∀ (n i : Nat) (X : Nat → Nat → Int64) (a b : Nat), fo (fun r X => up2 (up2 X 8 r (X 5 (3 * r + c))) 5 (3 * r + c) ((up2 X 8 r (X 5 (3 * r + c))) 6 r)) n i X a b = if a = 8 ∧ i ≤ b ∧ b < i + n then X 5 (3 * b + c) else if a = 5 ∧ c ≤ b ∧ (b - c) % 3 = 0 ∧ i ≤ (b - c) / 3 ∧ (b - c) / 3 < i + n then X 6 ((b - c) / 3) else X a b
  | 0, i, X, a, b => by rw [fo_0, if_neg (by omega), if_neg (by omega)]
  | n + 1, i, X, a, b => by
    rw [fo_s, ssA_at (k := k) hc n (i + 1)]
    by_cases h1 : a = 8 ∧ i + 1 ≤ b ∧ b < i + 1 + n
    · rw [if_pos h1, if_pos (by omega), up2_n (by omega), up2_n (by omega)]
    · rw [if_neg h1]
      by_cases h2 : a = 5 ∧ c ≤ b ∧ (b - c) % 3 = 0 ∧ i + 1 ≤ (b - c) / 3 ∧ (b - c) / 3 < i + 1 + n
      · rw [if_pos h2, if_neg (by omega), if_pos (by omega), up2_n (by omega), up2_n (by omega)]
      · rw [if_neg h2]
        by_cases h3 : a = 8 ∧ b = i
        · rw [if_pos (by omega), up2_n (by omega), h3.1, h3.2, up2_s]
        · rw [if_neg (by omega)]
          by_cases h4 : a = 5 ∧ b = 3 * i + c
          · rw [if_pos (by omega), h4.1, h4.2, up2_s, up2_n (by omega), show (3 * i + c - c) / 3 = i by omega]
          · rw [if_neg (by omega), up2_n (by omega), up2_n (by omega)]
theorem ssB_at {c : Nat} (hc : c < 3) : ∀ (n i : Nat) (X : Nat → Nat → Int64) (a b : Nat), fo (fun r X => up2 X 5 (3 * r + c) (X 8 r)) n i X a b = if a = 5 ∧ c ≤ b ∧ (b - c) % 3 = 0 ∧ i ≤ (b - c) / 3 ∧ (b - c) / 3 < i + n then X 8 ((b - c) / 3) else X a b
  | 0, i, X, a, b => by rw [fo_0, if_neg (by omega)]
  | n + 1, i, X, a, b => by
    rw [fo_s, ssB_at hc n (i + 1)]
    by_cases h2 : a = 5 ∧ c ≤ b ∧ (b - c) % 3 = 0 ∧ i + 1 ≤ (b - c) / 3 ∧ (b - c) / 3 < i + 1 + n
    · rw [if_pos h2, if_pos (by omega), up2_n (by omega)]
    · rw [if_neg h2]
      by_cases h4 : a = 5 ∧ b = 3 * i + c
      · rw [if_pos (by omega), h4.1, h4.2, up2_s, show (3 * i + c - c) / 3 = i by omega]
      · rw [if_neg (by omega), up2_n (by omega)]
theorem ss1_at {k c : Nat} (hc : c < 3) (X : Nat → Nat → Int64) : (∀ a, a ≠ 7 → a ≠ 8 → ss1 k c X a = X a) ∧ (∀ b, ss1 k c X 7 b = if b = c then det k (fun t => if c ≤ t ∧ (t - c) % 3 = 0 ∧ (t - c) / 3 < k then X 6 ((t - c) / 3) else X 5 t) else X 7 b) := by
  have eA : ∀ a b, ssA k c X a b = if a = 8 ∧ 0 ≤ b ∧ b < 0 + k then X 5 (3 * b + c) else if a = 5 ∧ c ≤ b ∧ (b - c) % 3 = 0 ∧ 0 ≤ (b - c) / 3 ∧ (b - c) / 3 < 0 + k then X 6 ((b - c) / 3) else X a b := fun a b => ssA_at (k := k) hc k 0 X a b
  constructor
  · intro a h7 h8
    funext b
    unfold ss1 ssB
    rw [ssB_at hc]
    by_cases h : a = 5 ∧ c ≤ b ∧ (b - c) % 3 = 0 ∧ 0 ≤ (b - c) / 3 ∧ (b - c) / 3 < 0 + k
    · rw [if_pos h, up2_n (by omega), eA, if_pos (by omega), h.1]
      congr 1
      omega
    · rw [if_neg h, up2_n (by omega), eA, if_neg (by omega), if_neg h]
  · intro b
    unfold ss1 ssB
    rw [ssB_at hc, if_neg (by omega)]
    by_cases h : b = c
    · rw [h, up2_s, if_pos rfl]
      congr 1
      funext t
      rw [eA, if_neg (by omega)]
      by_cases h2 : c ≤ t ∧ (t - c) % 3 = 0 ∧ (t - c) / 3 < k
      · rw [if_pos h2, if_pos (by omega)]
      · rw [if_neg h2, if_neg (by omega)]
    · rw [up2_n (by omega), if_neg h, eA, if_neg (by omega), if_neg (by omega)]
theorem ssq_at {k : Nat} (hk : k ≤ 3) : ∀ (n i : Nat) (X : Nat → Nat → Int64), i + n ≤ 3 → (∀ a, a ≠ 7 → a ≠ 8 → fo (fun c X => ss1 k c X) n i X a = X a) ∧ (∀ b, fo (fun c X => ss1 k c X) n i X 7 b = if i ≤ b ∧ b < i + n then det k (fun t => if b ≤ t ∧ (t - b) % 3 = 0 ∧ (t - b) / 3 < k then X 6 ((t - b) / 3) else X 5 t) else X 7 b)
  | 0, i, X, _ => ⟨fun _ _ _ => rfl, fun b => by rw [fo_0, if_neg (by omega)]⟩
  | n + 1, i, X, hi => by
    obtain ⟨a1, a2⟩ := ssq_at hk n (i + 1) (ss1 k i X) (by omega)
    obtain ⟨b1, b2⟩ := ss1_at (k := k) (c := i) (by omega) X
    refine ⟨fun a h7 h8 => by rw [fo_s, a1 a h7 h8, b1 a h7 h8], fun b => ?_⟩
    rw [fo_s, a2, b1 5 (by omega) (by omega), b1 6 (by omega) (by omega), b2]
    by_cases h : i + 1 ≤ b ∧ b < i + 1 + n
    · rw [if_pos h, if_pos (by omega)]
    · rw [if_neg h]
      by_cases h2 : b = i
      · rw [if_pos h2, if_pos (by omega), h2]
      · rw [if_neg h2, if_neg (by omega)]
/-- Cramer's numbers -/
theorem ssq_int {k : Nat} {X : Nat → Nat → Int64} {M : Nat → Nat → Int} {b : Nat → Int} {B : Int} (hk : k ≤ 3) (hB : 1 ≤ B) (hB3 : 6 * (B * (B * B)) < 9223372036854775808) (h5 : ∀ r c, r < k → c < k → (X 5 (3 * r + c)).toInt = M r c ∧ -B ≤ M r c ∧ M r c ≤ B) (h6 : ∀ r, r < k → (X 6 r).toInt = b r ∧ -B ≤ b r ∧ b r ≤ B) :
    (∀ a, a ≠ 7 → a ≠ 8 → ssq k X a = X a) ∧ ∀ c, c < k → (ssq k X 7 c).toInt = dz k (rp M c b) ∧ -(6 * (B * (B * B))) ≤ dz k (rp M c b) ∧ dz k (rp M c b) ≤ 6 * (B * (B * B)) := by
  obtain ⟨a1, a2⟩ := ssq_at hk k 0 X (by omega)
  refine ⟨a1, fun c hc => ?_⟩
  have e : ssq k X 7 c = _ := a2 c
  rw [if_pos (by omega)] at e
  rw [e]
  refine det_int hk hB hB3 (fun r t hr ht => ?_)
  unfold rp
  by_cases h : t = c
  · rw [if_pos h, if_pos (by omega), show (3 * r + t - c) / 3 = r by omega]
    exact h6 r hr
  · rw [if_neg h, if_neg (by omega)]
    exact h5 r t hr ht
theorem sqf_at {rk : Nat} {AN : Nat → Nat → Nat} {BI : Nat → Int32} (hk : rk ≤ 3) : ∀ (n i : Nat) (X : Nat → Nat → Int64) (a b : Nat), fo (fun r X => fo (fun c Y => up2 Y 5 (3 * r + c) (Int32.toInt64 (BI (4 * AN 3 r + AN 2 c)))) rk 0 X) n i X a b = if a = 5 ∧ i ≤ b / 3 ∧ b / 3 < i + n ∧ b % 3 < rk then Int32.toInt64 (BI (4 * AN 3 (b / 3) + AN 2 (b % 3))) else X a b
  | 0, i, X, a, b => by rw [fo_0, if_neg (by omega)]
  | n + 1, i, X, a, b => by
    rw [fo_s, sqf_at hk n (i + 1), fo_sh (g := fun c => Int32.toInt64 (BI (4 * AN 3 i + AN 2 c)))]
    by_cases h : a = 5 ∧ i + 1 ≤ b / 3 ∧ b / 3 < i + 1 + n ∧ b % 3 < rk
    · rw [if_pos h, if_pos (by omega)]
    · rw [if_neg h]
      by_cases h2 : a = 5 ∧ 3 * i + 0 ≤ b ∧ b < 3 * i + 0 + rk
      · rw [if_pos h2, if_pos (by omega), show b / 3 = i by omega, show b % 3 = b - 3 * i by omega]
      · rw [if_neg h2, if_neg (by omega)]
/-- the system's numbers in the class -/
def aU (u : TS) (i j : Nat) : Int := (u.2.2.1 (i + 8) j).toInt
theorem fo_rows {α : Type} {s N : Nat} {F : Nat → (Nat → Nat → α) → Nat → Nat → α} {g : Nat → Nat → α} (hF : ∀ i X a b, F i X a b = if a = i + s ∧ b < N then g i b else X a b) : ∀ (n i : Nat) (X : Nat → Nat → α) (a b : Nat), fo F n i X a b = if i + s ≤ a ∧ a < i + n + s ∧ b < N then g (a - s) b else X a b
  | 0, i, X, a, b => by rw [fo_0, if_neg (by omega)]
  | n + 1, i, X, a, b => by
    rw [fo_s, fo_rows hF n (i + 1), hF]
    by_cases h : i + 1 + s ≤ a ∧ a < i + 1 + n + s ∧ b < N
    · rw [if_pos h, if_pos (by omega)]
    · rw [if_neg h]
      by_cases h2 : a = i + s ∧ b < N
      · rw [if_pos h2, if_pos (by omega), h2.1, Nat.add_sub_cancel]
      · rw [if_neg h2, if_neg (by omega)]
theorem eqfill_at {n e : Nat} {AI : Nat → Nat → Int32} {X : Nat → Nat → Int64} {i j : Nat} (hi : i < e) (hj : j ≤ n) : eqfill n e AI X (i + 11) j = Int32.toInt64 (AI (i + 8) j) := by
  unfold eqfill
  rw [fo_rows (s := 11) (N := n + 1) (g := fun i j => Int32.toInt64 (AI (i + 8) j)) (fun i X a b => by
    rw [fo_fil (g := fun j => Int32.toInt64 (AI (i + 8) j))]
    by_cases h : a = i + 11 ∧ b < n + 1
    · rw [if_pos h, if_pos (by omega)]
    · rw [if_neg h, if_neg (by omega)]), if_pos (by omega), Nat.add_sub_cancel]
theorem eq_pack {u : TS} {v : MS} (hI : Inv u v) : EI (u.1 0) (u.1 1) (u.1 0) (E9 u).1 ((E9 u).2.1 5) (vE (E9 u).2.2) ∧ (∀ x, Ker (u.1 0) (u.1 1) (aU u) x ↔ Ker (u.1 0) (u.1 1) (vE (E9 u).2.2) x) ∧ (∀ i, i < u.1 1 → Bd 5509980288 (vE (E9 u).2.2 i) (u.1 0)) ∧ (∀ a, a ≠ 5 → (E9 u).2.1 a = u.2.1 a) ∧ (∀ k, k < 7 → (E9 u).2.1 5 k < 2 ^ 31) ∧ Bm (u.1 0) (u.1 1) (aU u) v.2.2.2.1 := by
  obtain ⟨⟨i1, i2, i3⟩, ⟨i4, i5⟩, i6, ⟨i7, i8⟩, i9⟩ := hI
  have eV : ∀ i j, i < u.1 1 → j ≤ u.1 0 → vE (eqfill (u.1 0) (u.1 1) u.2.2.1 (zer (u.1 0) (u.1 1) u.2.2.2)) i j = aU u i j := fun i j hi hj => by
    show (eqfill (u.1 0) (u.1 1) u.2.2.1 (zer (u.1 0) (u.1 1) u.2.2.2) (i + 11) j).toInt = _
    rw [eqfill_at hi hj, t32_64]; rfl
  obtain ⟨d, AN, Y, h1, h2, h3, h4, h5, h6⟩ := el_run (h := u.1 1) (V0 := aU u) i2 (u.1 0) 0 0 u.2.1 (eqfill (u.1 0) (u.1 1) u.2.2.1 (zer (u.1 0) (u.1 1) u.2.2.2)) (by omega) ei_0 (fun x => by
    constructor
    · intro h i hi
      rw [← h i hi]
      exact dt_congr _ _ (fun j _ hj => eV i j hi (by omega))
    · intro h i hi
      rw [← h i hi]
      exact dt_congr _ _ (fun j _ hj => (eV i j hi (by omega)).symm)) (fun i hi j hj => by
    rw [eV i j hi hj]
    exact (i6 i j hi hj).2)
  have e : E9 u = (d, AN, Y) := h1
  rw [e]
  refine ⟨h2, h3, fun i hi j hj => ?_, h5, fun k hk => ?_, ?_, ?_, ?_⟩
  · have := h4 i hi j hj
    have hb : bq (u.1 0) ≤ 5509980288 := by
      obtain h | h | h : u.1 0 = 1 ∨ u.1 0 = 2 ∨ u.1 0 = 3 := by omega
      all_goals rw [h]; decide
    show -5509980288 ≤ vE Y i j ∧ vE Y i j ≤ 5509980288
    omega
  · show AN 5 k < 2 ^ 31
    rcases h6 k with h | h
    · rw [h]; exact i8 k hk
    · omega
  · intro i j hi hj
    have := (i6 i j hi (by omega)).1
    unfold plc at this
    rw [if_neg (by omega)] at this
    rw [this]; rfl
  · intro i hi
    have := (i6 i (u.1 0) hi (by omega)).1
    unfold plc at this
    rw [if_pos rfl] at this
    rw [this]; rfl
  · exact fun i j hi hj => (i6 i j hi hj).2
theorem lk_pack {u : TS} {v : MS} (hI : Inv u v) : LK (u.1 0) (u.1 1) (E9 u).1 ((E9 u).2.1 5) (aU u) v.2.2.1 v.2.2.2.2 (lk9 v) := by
  obtain ⟨h1, h2, h3, h4, h5, h6⟩ := eq_pack hI
  have h := lk_all (AN0 := v.2.2.1) (AL0 := v.2.2.2.2) hI.1.2.1 hI.1.2.2 h1 h2 h6 hI.2.2.2.2
  unfold lk9
  rw [hI.2.1.1, hI.2.1.2]
  exact h
theorem inv_keep {u : TS} {v : MS} (hI : Inv u v) {I' : Nat → Nat} {AN' : Nat → Nat → Nat} {AL' : Nat → Nat → Int64} {J' : Nat → Nat} {G' : Nat → Int64} {BN' : Nat → Nat → Nat} {BL' : Nat → Nat → Int64} (e0 : I' 0 = u.1 0) (e1 : I' 1 = u.1 1) (e2 : J' 1 = v.1 1) (e3 : J' 2 = v.1 2) (h7 : ∀ r, r < 3 → AN' 7 r < 6) (h5 : ∀ k, k < 7 → AN' 5 k < 2 ^ 31) (hok : okA BN') : Inv (I', AN', u.2.2.1, AL') (J', G', BN', v.2.2.2.1, BL') := by
  obtain ⟨⟨i1, i2, i3⟩, ⟨i4, i5⟩, i6, ⟨i7, i8⟩, i9⟩ := hI
  refine ⟨?_, ?_, ?_, ⟨h7, h5⟩, hok⟩
  · show 1 ≤ I' 0 ∧ I' 0 ≤ 3 ∧ I' 1 ≤ 3
    rw [e0, e1]; exact ⟨i1, i2, i3⟩
  · show J' 1 = I' 0 ∧ J' 2 = I' 1
    rw [e0, e1, e2, e3]; exact ⟨i4, i5⟩
  · show ∀ i j, i < I' 1 → j ≤ I' 0 → v.2.2.2.1 (plc (I' 0) i j) = u.2.2.1 (i + 8) j ∧ _
    rw [e0, e1]; exact i6
theorem inv_tE {u : TS} {v : MS} (hI : Inv u v) {J' : Nat → Nat} {G' : Nat → Int64} {BN' : Nat → Nat → Nat} {BL' : Nat → Nat → Int64} (e2 : J' 1 = v.1 1) (e3 : J' 2 = v.1 2) (hok : okA BN') : Inv (tE u) (J', G', BN', v.2.2.2.1, BL') := by
  obtain ⟨h1, h2, h3, h4, h5, h6⟩ := eq_pack hI
  exact inv_keep hI rfl rfl e2 e3 (fun r hr => by rw [h4 7 (by omega)]; exact hI.2.2.2.1.1 r hr) h5 hok
theorem m_rank : M_rank := fun u v hI => by
  have hL := lk_pack hI
  exact ⟨hL.1.symm, inv_tE hI rfl rfl hL.2.2.1⟩
theorem fre_fra {AN BN : Nat → Nat → Nat} {d : Nat} {k : Int32} : ∀ (n u p : Nat), (∀ t, u ≤ t → t < u + n → (rdec AN d t = none ↔ ¬ BN 4 t = 0)) → fre AN d k n u p = fra BN k n u p
  | 0, _, _, _ => rfl
  | n + 1, u, p, h => by
    have h0 := h u (by omega) (by omega)
    unfold fre fra
    by_cases e : BN 4 u = 0
    · rw [if_neg (fun h' => h0.mp h' e), if_pos e]
      exact fre_fra n (u + 1) p (fun t h1 h2 => h t (by omega) (by omega))
    · rw [if_pos (h0.mpr e), if_neg e, fre_fra n (u + 1) (p + 1) (fun t h1 h2 => h t (by omega) (by omega))]
theorem rdec_none {AN : Nat → Nat → Nat} {d t : Nat} : rdec AN d t = none ↔ ¬ ∃ c, c < d ∧ AN 5 c = t := by
  unfold rdec
  constructor
  · rintro h ⟨c, hc, e⟩
    exact fnd_none h c (Nat.zero_le _) (by omega) e
  · intro h
    cases hf : fnd (fun k => AN 5 k = t) d 0 with
    | none => rfl
    | some c =>
      obtain ⟨_, g2, g3, _⟩ := fnd_some hf
      exact absurd ⟨c, by omega, g3⟩ h
theorem fr_eq {u : TS} {v : MS} (hI : Inv u v) (k : Int32) : fr9 u k = fra (lk9 v).2.1 k (v.1 1) 0 0 := by
  have hL := lk_pack hI
  rw [hI.2.1.1]
  exact fre_fra _ _ _ (fun t _ ht => by
    rw [rdec_none, ← hL.2.2.2.1 t (by omega)])
theorem m_free : M_free := fun u v k hI => by
  have hL := lk_pack hI
  exact ⟨by rw [fr_eq hI k], inv_tE hI rfl rfl hL.2.2.1⟩
