/-! Bases in triangular form are unique; the lattice's last rows are one of the kernel. -/
theorem dt_swap {f : Nat → Int} {g : Nat → Nat → Int} {k : Nat → Int} {m : Nat} : ∀ (n i : Nat), dt f (fun j => dt (fun r => g r j) k m 0) n i = dt (fun r => dt f (g r) n i) k m 0
  | 0, i => by simp only [dt]; exact (dt_f0 m 0 (fun _ _ _ => rfl)).symm
  | n + 1, i => by
    simp only [dt]
    rw [dt_swap n (i + 1)]
    have h := dt_lin (g := fun r => f i * g r i + dt f (g r) n (i + 1)) (f := fun r => dt f (g r) n (i + 1)) (p := fun r => g r i) (x := k) (s := 1) (a := 1) (b := -f i) m 0 (fun r _ _ => by grind)
    grind
theorem ech {n : Nat} {beg : Nat → Nat} {L : Nat → Nat → Int} {κ : Nat → Int} (hinc : ∀ r s, r < s → s < n → beg r < beg s) (hpos : ∀ r, r < n → 0 < L r (beg r)) (hz : ∀ r, r < n → ∀ p, p < beg r → L r p = 0) : ∀ m, m ≤ n → (∀ r, r < m → ((dt (fun i => L i (beg r)) κ n 0).natAbs : Int) < L r (beg r)) → ∀ r, r < m → κ r = 0
  | 0, _, _, r, hr => absurd hr (Nat.not_lt_zero _)
  | m + 1, hm, h, r, hr => by
    have ih := ech hinc hpos hz m (by omega) (fun r hr => h r (by omega))
    by_cases e : r = m
    · have h1 := h m (by omega)
      have e2 : dt (fun i => L i (beg m)) κ n 0 = L m (beg m) * κ m := by
        rw [dt_cx (y := fun i => if i < m then 0 else κ i) n 0 (fun j _ hj => by
          show κ j = if j < m then 0 else κ j
          by_cases e3 : j < m
          · rw [if_pos e3, ih j e3]
          · rw [if_neg e3])]
        have h5 : dt (fun i => L i (beg m)) (fun i => if i < m then 0 else κ i) n 0 = dt (fun i => if i < m then 0 else L i (beg m)) (fun i => if i < m then 0 else κ i) n 0 := by
          have gen : ∀ (n i : Nat), dt (fun i => L i (beg m)) (fun i => if i < m then 0 else κ i) n i = dt (fun i => if i < m then 0 else L i (beg m)) (fun i => if i < m then 0 else κ i) n i := by
            intro n
            induction n with
            | zero => intro i; rfl
            | succ n ih2 =>
              intro i
              simp only [dt]
              rw [ih2]
              by_cases e3 : i < m
              · rw [if_pos e3, if_pos e3]; omega
              · rw [if_neg e3, if_neg e3]
          exact gen n 0
        rw [h5, dt_f1 (k := m) n 0 (Nat.zero_le _) (by omega) (fun j _ hj hjm => by
          show (if j < m then 0 else L j (beg m)) = 0
          by_cases e3 : j < m
          · rw [if_pos e3]
          · rw [if_neg e3]; exact hz j (by omega) _ (hinc m j (by omega) (by omega)))]
        rw [if_neg (Nat.lt_irrefl m), if_neg (Nat.lt_irrefl m)]
      rw [e2, Int.natAbs_mul] at h1
      have hp := hpos m (by omega)
      rw [e]
      refine Decidable.byContradiction (fun hne => ?_)
      have h6 : 1 ≤ (κ m).natAbs := Int.natAbs_pos.mpr hne
      have h7 : (L m (beg m)).natAbs ≤ (L m (beg m)).natAbs * (κ m).natAbs := Nat.le_mul_of_pos_right _ h6
      omega
    · exact ih r (by omega)
/-- a base of K in triangular form, as small as it can be -/
def HB (n s : Nat) (β : Nat → Nat) (b : Nat → Nat → Int) (K : (Nat → Int) → Prop) : Prop :=
  (∀ k, k < s → β k < n) ∧ (∀ r t, r < t → t < s → β r < β t) ∧ (∀ k, k < s → 0 < b k (β k)) ∧ (∀ k, k < s → ∀ j, j < β k → b k j = 0) ∧ (∀ a k, a < k → k < s → 0 ≤ b a (β k) ∧ b a (β k) < b k (β k)) ∧ (∀ k, k < s → K (b k)) ∧ ∀ y, K y → ∃ κ : Nat → Int, ∀ j, j < n → y j = dt (fun k => b k j) κ s 0
theorem hb_lead {n s s' : Nat} {β β' : Nat → Nat} {b b' : Nat → Nat → Int} {K : (Nat → Int) → Prop} (h : HB n s β b K) (h' : HB n s' β' b' K) (k : Nat) (hk : k < s) : ∃ k', k' < s' ∧ β' k' = β k ∧ ∃ t : Int, b k (β k) = b' k' (β k) * t := by
  obtain ⟨a1, a2, a3, a4, a5, a6, a7⟩ := h
  obtain ⟨c1, c2, c3, c4, c5, c6, c7⟩ := h'
  obtain ⟨κ, hκ⟩ := c7 _ (a6 k hk)
  cases hf : fnd (fun i => κ i ≠ 0) s' 0 with
  | none =>
    have hz := fnd_none hf
    have h1 := hκ (β k) (a1 k hk)
    rw [dt_zero s' 0 (fun i _ hi => Decidable.not_not.mp (hz i (Nat.zero_le _) (by omega)))] at h1
    have := a3 k hk
    omega
  | some k' =>
    obtain ⟨_, g2, g3, g4⟩ := fnd_some hf
    have hk' : k' < s' := by omega
    have hc : ∀ j, j ≤ β' k' → j < n → b k j = b' k' j * κ k' := by
      intro j hj hjn
      rw [hκ j hjn]
      have gen : ∀ (m i : Nat), i + m = s' → i ≤ k' → dt (fun k => b' k j) κ m i = b' k' j * κ k' := by
        intro m
        induction m with
        | zero => intro i h1 h2; omega
        | succ m ih =>
          intro i h1 h2
          simp only [dt]
          by_cases e : i = k'
          · subst e
            rw [dt_f0 m (i + 1) (fun t ht1 ht2 => c4 t (by omega) j (by have := c2 i t (by omega) (by omega); omega))]
            omega
          · have h3 : κ i = 0 := Decidable.not_not.mp (g4 i (Nat.zero_le _) (by omega))
            rw [ih (i + 1) (by omega) (by omega), h3]
            omega
      exact gen s' 0 (by omega) (Nat.zero_le _)
    have hlead := c3 k' hk'
    have e : β' k' = β k := by
      rcases Nat.lt_trichotomy (β' k') (β k) with h1 | h1 | h1
      · exfalso
        have h2 := hc (β' k') (Nat.le_refl _) (c1 k' hk')
        rw [a4 k hk _ h1] at h2
        rcases Int.mul_eq_zero.mp h2.symm with h3 | h3
        · omega
        · exact g3 h3
      · exact h1
      · exfalso
        have h2 := hc (β k) (by omega) (a1 k hk)
        rw [c4 k' hk' _ h1] at h2
        have := a3 k hk
        omega
    exact ⟨k', hk', e, κ k', hc (β k) (by omega) (a1 k hk)⟩
theorem enum_eq {s s' : Nat} {β β' : Nat → Nat} (h1 : ∀ r t, r < t → t < s → β r < β t) (h2 : ∀ r t, r < t → t < s' → β' r < β' t) (h3 : ∀ k, k < s → ∃ k', k' < s' ∧ β' k' = β k) (h4 : ∀ k, k < s' → ∃ k', k' < s ∧ β k' = β' k) : ∀ m k, k < m → k < s → k < s' ∧ β' k = β k := by
  intro m
  induction m with
  | zero => intro k hk; omega
  | succ m ih =>
    intro k hk hks
    by_cases e : k < m
    · exact ih k e hks
    · obtain rfl : k = m := by omega
      obtain ⟨k', a1, a2⟩ := h3 k hks
      have hge : k ≤ k' := by
        refine Nat.le_of_not_lt (fun hlt => ?_)
        have := (ih k' hlt (by omega)).2
        have := h1 k' k hlt hks
        omega
      have hks' : k < s' := by omega
      obtain ⟨k'', b1, b2⟩ := h4 k hks'
      have hge2 : k ≤ k'' := by
        refine Nat.le_of_not_lt (fun hlt => ?_)
        have := (ih k'' hlt (by omega)).2
        have := h2 k'' k hlt hks'
        omega
      refine ⟨hks', ?_⟩
      by_cases e1 : k' = k
      · rw [← e1] at a2; rw [e1] at a2; exact a2
      · have c1 := h2 k k' (by omega) a1
        by_cases e2 : k'' = k
        · rw [e2] at b2; exact b2.symm
        · have c2 := h1 k k'' (by omega) b1
          omega
theorem hb_unique {n s s' : Nat} {β β' : Nat → Nat} {b b' : Nat → Nat → Int} {K : (Nat → Int) → Prop} (hK : ∀ x y, K x → K y → K (fun j => 1 * x j + -1 * y j)) (h : HB n s β b K) (h' : HB n s' β' b' K) : s = s' ∧ ∀ k, k < s → β k = β' k ∧ ∀ j, j < n → b k j = b' k j := by
  have l1 := hb_lead h h'
  have l2 := hb_lead h' h
  have e1 := enum_eq h.2.1 h'.2.1 (fun k hk => let ⟨k', a, b, _⟩ := l1 k hk; ⟨k', a, b⟩) (fun k hk => let ⟨k', a, b, _⟩ := l2 k hk; ⟨k', a, b⟩)
  have e2 := enum_eq h'.2.1 h.2.1 (fun k hk => let ⟨k', a, b, _⟩ := l2 k hk; ⟨k', a, b⟩) (fun k hk => let ⟨k', a, b, _⟩ := l1 k hk; ⟨k', a, b⟩)
  have hss : s = s' := by
    rcases Nat.lt_trichotomy s s' with h1 | h1 | h1
    · have := (e2 (s + 1) s (by omega) h1).1; omega
    · exact h1
    · have := (e1 (s' + 1) s' (by omega) h1).1; omega
  subst hss
  have hβ : ∀ k, k < s → β' k = β k := fun k hk => (e1 (k + 1) k (by omega) hk).2
  have hlv : ∀ k, k < s → b' k (β k) = b k (β k) := by
    intro k hk
    obtain ⟨k1, p1, p2, t1, p3⟩ := l1 k hk
    obtain ⟨k2, q1, q2, t2, q3⟩ := l2 k hk
    have hk1 : k1 = k := by
      rw [hβ k1 p1] at p2
      rcases Nat.lt_trichotomy k1 k with h1 | h1 | h1
      · have := h.2.1 k1 k h1 hk; omega
      · exact h1
      · have := h.2.1 k k1 h1 p1; omega
    have hk2 : k2 = k := by
      rw [hβ k hk] at q2
      rcases Nat.lt_trichotomy k2 k with h1 | h1 | h1
      · have := h.2.1 k2 k h1 hk; omega
      · exact h1
      · have := h.2.1 k k2 h1 q1; omega
    rw [hk1] at p3
    rw [hk2, hβ k hk] at q3
    have pos1 := h.2.2.1 k hk
    have pos2 := h'.2.2.1 k hk
    rw [hβ k hk] at pos2
    exact Int.dvd_antisymm (by omega) (by omega) ⟨t1, p3⟩ ⟨t2, q3⟩
  refine ⟨rfl, fun k hk => ⟨(hβ k hk).symm, fun j hj => ?_⟩⟩
  obtain ⟨κ, hκ⟩ := h.2.2.2.2.2.2 _ (hK _ _ (h.2.2.2.2.2.1 k hk) (h'.2.2.2.2.2.1 k hk))
  have hz := ech (κ := κ) h.2.1 h.2.2.1 h.2.2.2.1 s (Nat.le_refl _) (fun r hr => by
    rw [← hκ (β r) (h.1 r hr)]
    have pr := h.2.2.1 r hr
    rcases Nat.lt_trichotomy r k with h1 | h1 | h1
    · have z1 := h.2.2.2.1 k hk (β r) (h.2.1 r k h1 hk)
      have z2 := h'.2.2.2.1 k hk (β r) (by rw [hβ k hk]; exact h.2.1 r k h1 hk)
      rw [z1, z2]
      simp
      exact pr
    · subst h1
      rw [hlv r hr]
      simp
      omega
    · have z1 := h.2.2.2.2.1 k r h1 hr
      have z2 := h'.2.2.2.2.1 k r h1 hr
      rw [hβ r hr, hlv r hr] at z2
      omega)
  have h1 := hκ j hj
  rw [dt_zero s 0 (fun i _ hi => hz i (by omega))] at h1
  omega
theorem dz_tr {n : Nat} {M : Nat → Nat → Int} (hn : n ≤ 3) : dz n (fun r c => M c r) = dz n M := by
  obtain rfl | rfl | rfl | rfl : n = 0 ∨ n = 1 ∨ n = 2 ∨ n = 3 := by omega
  · rfl
  · rfl
  · simp only [dz_2]; grind
  · simp only [dz_3]; grind
theorem uni_span {n : Nat} {M : Nat → Nat → Int} (hn : n ≤ 3) (h : dz n M = 1 ∨ dz n M = -1) (y : Nat → Int) : ∃ κ : Nat → Int, ∀ j, j < n → y j = dt (fun r => M r j) κ n 0 := by
  refine ⟨fun r => dz n M * dz n (rp (fun r c => M c r) r y) + 0 * 0, fun j hj => ?_⟩
  have h1 := dz_solves (M := fun r c => M c r) (b := y) hn j hj
  rw [dz_tr hn] at h1
  have h2 := dt_comb (f := fun r => M r j) (x := fun r => dz n (rp (fun r c => M c r) r y)) (y := fun _ => 0) (a := dz n M) (b := 0) n 0
  have h3 : dt (fun r => M r j) (fun c => dz n (rp (fun r c => M c r) c y)) n 0 = y j * dz n M := h1
  rw [show (fun r => dz n M * dz n (rp (fun r c => M c r) r y) + 0 * 0) = (fun t => dz n M * (fun r => dz n (rp (fun r c => M c r) r y)) t + 0 * (fun _ => (0 : Int)) t) from rfl, h2, h3]
  rcases h with h | h
  · rw [h]; omega
  · rw [h]; omega
/-- whole vectors that A annihilates -/
def kA (u : TS) (y : Nat → Int) : Prop := ∀ p, p < u.1 1 → dt (aU u p) y (u.1 0) 0 = 0
theorem kA_sub {u : TS} : ∀ x y, kA u x → kA u y → kA u (fun j => 1 * x j + -1 * y j) := fun x y hx hy p hp => by
  rw [dt_comb, hx p hp, hy p hp]; omega
theorem mbs_gen {AN : Nat → Nat → Nat} : ∀ (m r z : Nat), fo (fun r z => if AN 7 r < 3 then z else z + 1) m r z = z + fo (fun r z => if AN 7 r < 3 then z else z + 1) m r 0 := by
  intro m
  induction m with
  | zero => intro r z; rfl
  | succ m ih =>
    intro r z
    rw [fo_s, fo_s, ih (r + 1) (if AN 7 r < 3 then z else z + 1), ih (r + 1) (if AN 7 r < 3 then 0 else 0 + 1)]
    by_cases h : AN 7 r < 3
    · rw [if_pos h, if_pos h]; omega
    · rw [if_neg h, if_neg h]; omega
theorem mbs_spec {AN : Nat → Nat → Nat} {n : Nat} (hinc : ∀ r s, r < s → s < n → AN 7 r < AN 7 s) : mbs AN n ≤ n ∧ ∀ r, r < n → (AN 7 r < 3 ↔ r < n - mbs AN n) := by
  have gen : ∀ (m r : Nat), r + m = n → fo (fun r z => if AN 7 r < 3 then z else z + 1) m r 0 ≤ m ∧ ∀ i, r ≤ i → i < n → (AN 7 i < 3 ↔ i < n - fo (fun r z => if AN 7 r < 3 then z else z + 1) m r 0) := by
    intro m
    induction m with
    | zero => intro r hr; exact ⟨Nat.le_refl _, fun i h1 h2 => absurd h2 (by omega)⟩
    | succ m ih =>
      intro r hr
      obtain ⟨i1, i2⟩ := ih (r + 1) (by omega)
      rw [fo_s, mbs_gen]
      by_cases h : AN 7 r < 3
      · rw [if_pos h, Nat.zero_add]
        refine ⟨by omega, fun i h1 h2 => ?_⟩
        by_cases e : i = r
        · rw [e]; exact ⟨fun _ => by omega, fun _ => h⟩
        · exact i2 i (by omega) h2
      · rw [if_neg h]
        have hall : fo (fun r z => if AN 7 r < 3 then z else z + 1) m (r + 1) 0 = m := by
          refine Nat.le_antisymm i1 (Nat.le_of_not_lt (fun hlt => ?_))
          have h3 := (i2 (r + 1) (Nat.le_refl _) (by omega)).mpr (by omega)
          have h4 := hinc r (r + 1) (by omega) (by omega)
          omega
        rw [hall]
        refine ⟨by omega, fun i h1 h2 => ⟨fun h5 => ?_, fun h5 => by omega⟩⟩
        exfalso
        by_cases e : i = r
        · rw [e] at h5; exact h h5
        · have := hinc r i (by omega) h2; omega
  obtain ⟨g1, g2⟩ := gen n 0 (by omega)
  exact ⟨g1, fun r hr => g2 r (Nat.zero_le _) hr⟩
/-- the class's members -/
abbrev sM (u : TS) : Nat := mbs (S9 u).1 (u.1 0)
abbrev bM (u : TS) (k j : Nat) : Int := vL (S9 u).2 (u.1 0 - sM u + k) (3 + j)
abbrev gM (u : TS) (k : Nat) : Nat := (S9 u).1 7 (u.1 0 - sM u + k) - 3
theorem sp_hb {u : TS} {v : MS} (hI : Inv u v) : sM u ≤ u.1 0 ∧ (∀ r, r < u.1 0 → ((S9 u).1 7 r < 3 ↔ r < u.1 0 - sM u)) ∧ HB (u.1 0) (sM u) (gM u) (bM u) (kA u) := by
  obtain ⟨⟨a1, a2, a3, a4, a5, a6, a7⟩, b1, b2, _⟩ := sp_pack hI
  obtain ⟨m1, m2⟩ := mbs_spec a3
  have m1 : sM u ≤ u.1 0 := m1
  have m2 : ∀ r, r < u.1 0 → ((S9 u).1 7 r < 3 ↔ r < u.1 0 - sM u) := m2
  refine ⟨m1, m2, ?_⟩
  have hidx : ∀ k, k < sM u → u.1 0 - sM u + k < u.1 0 := fun k hk => by omega
  have hge : ∀ k, k < sM u → 3 ≤ (S9 u).1 7 (u.1 0 - sM u + k) := fun k hk => by
    have := m2 _ (hidx k hk)
    omega
  have hlt : ∀ k, k < sM u → (S9 u).1 7 (u.1 0 - sM u + k) < 3 + u.1 0 := fun k hk => by
    refine Nat.lt_of_not_le (fun h => ?_)
    have h1 := a4 _ (hidx k hk)
    have h6 := a2 _ (hidx k hk)
    have h2 := (b1 _ (hidx k hk)).2.2 ((S9 u).1 7 (u.1 0 - sM u + k) - 3) (by omega) (by omega)
    rw [show 3 + ((S9 u).1 7 (u.1 0 - sM u + k) - 3) = (S9 u).1 7 (u.1 0 - sM u + k) by omega] at h2
    omega
  have e3 : ∀ k, k < sM u → 3 + gM u k = (S9 u).1 7 (u.1 0 - sM u + k) := fun k hk => by have := hge k hk; show 3 + (_ - 3) = _; omega
  refine ⟨fun k hk => ?_, fun r t hrt ht => ?_, fun k hk => ?_, fun k hk j hj => ?_, fun a k hak hk => ?_, fun k hk p hp => ?_, fun y hy => ?_⟩
  · have := hlt k hk; have := hge k hk
    show _ - 3 < _
    omega
  · have h1 := a3 (u.1 0 - sM u + r) (u.1 0 - sM u + t) (by omega) (hidx t ht)
    have := hge r (by omega); have := hge t ht
    show _ - 3 < _ - 3
    omega
  · show 0 < vL (S9 u).2 _ (3 + gM u k)
    rw [e3 k hk]; exact a4 _ (hidx k hk)
  · exact a5 _ (hidx k hk) (3 + j) (by rw [← e3 k hk]; omega)
  · show 0 ≤ vL (S9 u).2 _ (3 + gM u k) ∧ vL (S9 u).2 _ (3 + gM u k) < vL (S9 u).2 _ (3 + gM u k)
    rw [e3 k hk]; exact a6 _ _ (by omega) (hidx k hk)
  · have h1 := (b1 _ (hidx k hk)).1 p hp
    have h2 := a5 _ (hidx k hk) p (by have := hge k hk; have := hI.1.2.2; omega)
    rw [h2] at h1
    exact h1.symm
  · obtain ⟨κ, hκ⟩ := uni_span (M := fun r j => vL (S9 u).2 r (3 + j)) hI.1.2.1 b2 y
    have hp0 : ∀ p, p < 3 → dt (fun r => vL (S9 u).2 r p) κ (u.1 0) 0 = 0 := by
      intro p hp
      by_cases hpe : p < u.1 1
      · rw [dt_congr (f := fun r => dt (aU u p) (fun j => vL (S9 u).2 r (3 + j)) (u.1 0) 0) _ _ (fun r _ hr => (b1 r (by omega)).1 p hpe), ← dt_swap]
        rw [← dt_cx (x := y) _ _ (fun j _ hj => hκ j (by omega))]
        exact hy p hpe
      · exact dt_f0 _ _ (fun r _ hr => (b1 r (by omega)).2.1 p (by omega) hp)
    have hz := ech (κ := κ) a3 a4 a5 (u.1 0 - sM u) (by omega) (fun r hr => by
      rw [hp0 _ ((m2 r (by omega)).mpr hr)]
      have := a4 r (by omega)
      simp
      exact this)
    refine ⟨fun k => κ (u.1 0 - sM u + k), fun j hj => ?_⟩
    rw [hκ j hj]
    have gen : ∀ (m i : Nat), dt (fun r => vL (S9 u).2 (u.1 0 - sM u + r) (3 + j)) (fun k => κ (u.1 0 - sM u + k)) m i = dt (fun r => vL (S9 u).2 r (3 + j)) κ m (u.1 0 - sM u + i) := by
      intro m
      induction m with
      | zero => intro i; rfl
      | succ m ih => intro i; simp only [dt]; rw [ih]; rfl
    have hsplit : ∀ (m i : Nat), i + m = u.1 0 - sM u → dt (fun r => vL (S9 u).2 r (3 + j)) κ (m + sM u) i = dt (fun r => vL (S9 u).2 r (3 + j)) κ (sM u) (u.1 0 - sM u) := by
      intro m
      induction m with
      | zero => intro i hi; rw [Nat.zero_add, show i = u.1 0 - sM u by omega]
      | succ m ih =>
        intro i hi
        rw [show m + 1 + sM u = m + sM u + 1 by omega]
        simp only [dt]
        rw [ih (i + 1) (by omega), hz i (by omega)]
        omega
    have h3 := gen (sM u) 0
    show _ = dt (fun r => vL (S9 u).2 (u.1 0 - sM u + r) (3 + j)) _ _ 0
    rw [h3, Nat.add_zero, ← hsplit (u.1 0 - sM u) 0 (by omega), show u.1 0 - sM u + sM u = u.1 0 by omega]
