/-! base. -/
theorem fbA_frame {n rk : Nat} {AN : Nat → Nat → Nat} {BI : Nat → Int32} {AL : Nat → Nat → Int64} : ∀ a, a ≠ 9 → (fbA n rk AN BI AL).2 a = AL a := by
  intro a ha
  have hm : ∀ k x y z (X : Nat → Nat → Int64), memb k x y z X a = X a := fun k x y z X => funext fun b => (memb_at k x y z X).2.2.2 a b (.inl ha)
  unfold fbA
  by_cases h0 : rk = 0
  · rw [if_pos h0]
    have gen : ∀ (m i : Nat) (X : Nat → Nat → Int64), fo (fun k X => memb k (if k = 0 then 1 else 0) (if k = 1 then 1 else 0) (if k = 2 then 1 else 0) X) m i X a = X a := by
      intro m
      induction m with
      | zero => intro i X; rfl
      | succ m ih => intro i X; rw [fo_s, ih, hm]
    exact gen _ _ _
  · rw [if_neg h0]
    by_cases h1 : rk + 1 = n
    · rw [if_pos h1]
      by_cases h2 : n = 2
      · rw [if_pos h2]; exact hm _ _ _ _ _
      · rw [if_neg h2]; exact hm _ _ _ _ _
    · rw [if_neg h1]
      by_cases h2 : rk < n
      · rw [if_pos h2]
        unfold plnA pl1
        dsimp only
        by_cases c1 : nbr AN BI 0 1 / lnG (nbr AN BI 0 0) (nbr AN BI 0 1) (nbr AN BI 0 2) = 0 ∧ nbr AN BI 0 2 / lnG (nbr AN BI 0 0) (nbr AN BI 0 1) (nbr AN BI 0 2) = 0
        · rw [if_pos c1, hm, hm]
        · rw [if_neg c1]
          by_cases c2 : pQ (nbr AN BI 0 1 / lnG (nbr AN BI 0 0) (nbr AN BI 0 1) (nbr AN BI 0 2)) (nbr AN BI 0 2 / lnG (nbr AN BI 0 0) (nbr AN BI 0 1) (nbr AN BI 0 2)) = 0
          · rw [if_pos c2, hm, hm]
          · rw [if_neg c2, hm, hm]
      · rw [if_neg h2]
theorem fb_pack {u : TS} {v : MS} (hI : Inv u v) : okB (v.1 1) (v.1 2) v.2.2.2.1 v.2.2.1 v.2.2.2.2 ∧ ∃ β, FB u (fb9 v).1 β (fb9 v).2.2 ∧ (∀ k, k < (fb9 v).1 → (fb9 v).2.1 10 k = β k) ∧ (∀ a, a ≠ 10 → (fb9 v).2.1 a = (lk9 v).2.1 a) ∧ okA (fb9 v).2.1 ∧ ∀ a, a ≠ 9 → (fb9 v).2.2 a = (lk9 v).2.2 a := by
  obtain ⟨h1, h2, h3, h4, h5, hB⟩ := eq_pack hI
  obtain ⟨g1, g2, g3, g4, ⟨g5, g6⟩, g7, g8⟩ := lk_pack hI
  have hdn := h1.2.1
  have hn := hI.1.2.1
  have hn1 := hI.1.1
  have hv1 := hI.2.1.1
  have core : (okFb (u.1 0) (E9 u).1 (lk9 v).2.1 v.2.2.2.1 (lk9 v).2.2) ∧ ∃ β, FB u (fbA (u.1 0) (E9 u).1 (lk9 v).2.1 v.2.2.2.1 (lk9 v).2.2).1 β (fbA (u.1 0) (E9 u).1 (lk9 v).2.1 v.2.2.2.1 (lk9 v).2.2).2 := by
    have fin : ∀ (P1 P2 : Prop), P1 → P2 → (∃ β, FB u (fbA (u.1 0) (E9 u).1 (lk9 v).2.1 v.2.2.2.1 (lk9 v).2.2).1 β (fbA (u.1 0) (E9 u).1 (lk9 v).2.1 v.2.2.2.1 (lk9 v).2.2).2) → (P1 ∧ P2 ∧ ∀ k, k < (fbA (u.1 0) (E9 u).1 (lk9 v).2.1 v.2.2.2.1 (lk9 v).2.2).1 → ∃ b, fnd (fun j => ¬ (fbA (u.1 0) (E9 u).1 (lk9 v).2.1 v.2.2.2.1 (lk9 v).2.2).2 9 (3 * k + j) = 0) 3 0 = some b) ∧ ∃ β, FB u (fbA (u.1 0) (E9 u).1 (lk9 v).2.1 v.2.2.2.1 (lk9 v).2.2).1 β (fbA (u.1 0) (E9 u).1 (lk9 v).2.1 v.2.2.2.1 (lk9 v).2.2).2 := by
      intro P1 P2 p1 p2 ⟨β, hβ⟩
      exact ⟨⟨p1, p2, fun k hk => ⟨β k, hβ.2.2.1 k hk⟩⟩, β, hβ⟩
    by_cases hd0 : (E9 u).1 = 0
    · refine fin _ _ (fun _ h => absurd hd0 h) (fun h => absurd hd0 h) ⟨fun k => k, ?_⟩
      unfold fbA
      rw [if_pos hd0]
      exact fb_0 hI hd0 _
    · by_cases hd1 : (E9 u).1 + 1 = u.1 0
      · by_cases hn2 : u.1 0 = 2
        · have h := fb_2 hI hn2 (by omega) (lk9 v).2.2
          refine fin _ _ (fun _ _ => by rw [if_pos hn2]; exact h.1) (fun _ h => absurd hd1 h) ?_
          unfold fbA
          rw [if_neg hd0, if_pos hd1, if_pos hn2]
          exact h.2
        · have h := fb_3 hI (by omega) (by omega) (lk9 v).2.2
          refine fin _ _ (fun _ _ => by rw [if_neg hn2]; exact h.1) (fun _ h => absurd hd1 h) ?_
          unfold fbA
          rw [if_neg hd0, if_pos hd1, if_neg hn2]
          exact h.2
      · by_cases hlt : (E9 u).1 < u.1 0
        · have h := fb_1 hI (by omega) (by omega) (lk9 v).2.2
          refine fin _ _ (fun h => absurd h hd1) (fun _ _ _ => h.1) ?_
          unfold fbA
          rw [if_neg hd0, if_neg hd1, if_pos hlt]
          exact h.2
        · refine fin _ _ (fun h => absurd h hd1) (fun _ _ h => absurd h hlt) ⟨fun k => k, ?_⟩
          unfold fbA
          rw [if_neg hd0, if_neg hd1, if_neg hlt]
          exact fb_n hI (by omega) _
  have g1' : (lkF (v.1 1) (v.1 2) v.2.2.2.1 v.2.2.1 v.2.2.2.2).1 = (E9 u).1 := g1
  obtain ⟨c1, β, c2⟩ := core
  have eB : fb9 v = ((fbA (u.1 0) (E9 u).1 (lk9 v).2.1 v.2.2.2.1 (lk9 v).2.2).1, bgA (fbA (u.1 0) (E9 u).1 (lk9 v).2.1 v.2.2.2.1 (lk9 v).2.2).1 (fbA (u.1 0) (E9 u).1 (lk9 v).2.1 v.2.2.2.1 (lk9 v).2.2).2 (lk9 v).2.1, (fbA (u.1 0) (E9 u).1 (lk9 v).2.1 v.2.2.2.1 (lk9 v).2.2).2) := by
    show fbS (v.1 1) (v.1 2) v.2.2.2.1 v.2.2.1 v.2.2.2.2 = _
    unfold fbS
    rw [g1', hv1]
    show _ = ((fbA (u.1 0) (E9 u).1 (lkF (v.1 1) (v.1 2) v.2.2.2.1 v.2.2.1 v.2.2.2.2).2.1 v.2.2.2.1 (lkF (v.1 1) (v.1 2) v.2.2.2.1 v.2.2.1 v.2.2.2.2).2.2).1, bgA (fbA (u.1 0) (E9 u).1 (lkF (v.1 1) (v.1 2) v.2.2.2.1 v.2.2.1 v.2.2.2.2).2.1 v.2.2.2.1 (lkF (v.1 1) (v.1 2) v.2.2.2.1 v.2.2.1 v.2.2.2.2).2.2).1 (fbA (u.1 0) (E9 u).1 (lkF (v.1 1) (v.1 2) v.2.2.2.1 v.2.2.1 v.2.2.2.2).2.1 v.2.2.2.1 (lkF (v.1 1) (v.1 2) v.2.2.2.1 v.2.2.1 v.2.2.2.2).2.2).2 (lkF (v.1 1) (v.1 2) v.2.2.2.1 v.2.2.1 v.2.2.2.2).2.1, (fbA (u.1 0) (E9 u).1 (lkF (v.1 1) (v.1 2) v.2.2.2.1 v.2.2.1 v.2.2.2.2).2.1 v.2.2.2.1 (lkF (v.1 1) (v.1 2) v.2.2.2.1 v.2.2.1 v.2.2.2.2).2.2).2)
    rw [hv1]
  refine ⟨?_, β, ?_⟩
  · unfold okB
    rw [g1', hv1]
    have := c1
    show okFb (u.1 0) (E9 u).1 (lkF (u.1 0) (v.1 2) v.2.2.2.1 v.2.2.1 v.2.2.2.2).2.1 v.2.2.2.1 (lkF (u.1 0) (v.1 2) v.2.2.2.1 v.2.2.1 v.2.2.2.2).2.2
    rw [← hv1] at this ⊢
    exact this
  · rw [eB]
    dsimp only
    have hbg : ∀ k, k < (fbA (u.1 0) (E9 u).1 (lk9 v).2.1 v.2.2.2.1 (lk9 v).2.2).1 → bgF (fbA (u.1 0) (E9 u).1 (lk9 v).2.1 v.2.2.2.1 (lk9 v).2.2).2 k = β k := fun k hk => by
      unfold bgF
      rw [c2.2.2.1 k hk]; rfl
    have hat : ∀ a k, bgA (fbA (u.1 0) (E9 u).1 (lk9 v).2.1 v.2.2.2.1 (lk9 v).2.2).1 (fbA (u.1 0) (E9 u).1 (lk9 v).2.1 v.2.2.2.1 (lk9 v).2.2).2 (lk9 v).2.1 a k = if a = 10 ∧ 0 ≤ k ∧ k < 0 + (fbA (u.1 0) (E9 u).1 (lk9 v).2.1 v.2.2.2.1 (lk9 v).2.2).1 then bgF (fbA (u.1 0) (E9 u).1 (lk9 v).2.1 v.2.2.2.1 (lk9 v).2.2).2 k else (lk9 v).2.1 a k := fun a k => by
      unfold bgA
      exact fo_fil (g := fun k => bgF (fbA (u.1 0) (E9 u).1 (lk9 v).2.1 v.2.2.2.1 (lk9 v).2.2).2 k) _ _ _ a k
    refine ⟨c2, fun k hk => ?_, fun a ha => funext fun k => ?_, ⟨fun c hc => ?_, fun c hc => ?_, fun c hc => ?_, fun c hc => ?_⟩, fun a ha => fbA_frame a ha⟩
    · rw [hat, if_pos ⟨rfl, Nat.zero_le _, by omega⟩, hbg k hk]
    · rw [hat, if_neg (fun h => ha h.1)]
    · rw [hat, if_neg (fun h => absurd h.1 (by omega))]; exact g3.1 c hc
    · rw [hat, if_neg (fun h => absurd h.1 (by omega))]; exact g3.2.1 c hc
    · rw [hat, if_neg (fun h => absurd h.1 (by omega))]; exact g3.2.2.1 c hc
    · rw [hat]
      by_cases hk : c < (fbA (u.1 0) (E9 u).1 (lk9 v).2.1 v.2.2.2.1 (lk9 v).2.2).1
      · rw [if_pos ⟨rfl, Nat.zero_le _, by omega⟩, hbg c hk]
        have := c2.2.1.1 c hk
        omega
      · rw [if_neg (fun h => hk (by omega))]; exact g3.2.2.2 c hc
/-- class's and Model's base are the same -/
theorem base_eq {u : TS} {v : MS} (hI : Inv u v) {s : Nat} {β : Nat → Nat} {X : Nat → Nat → Int64} (h : FB u s β X) : sM u = s ∧ ∀ k, k < s → gM u k = β k ∧ ∀ j, j < u.1 0 → bM u k j = (X 9 (3 * k + j)).toInt := by
  have h1 := hb_unique kA_sub (sp_hb hI).2.2 h.2.1
  refine ⟨h1.1, fun k hk => h1.2 k (by rw [h1.1]; exact hk)⟩
theorem inv_tS {u : TS} {v : MS} (hI : Inv u v) {J' : Nat → Nat} {G' : Nat → Int64} {BN' : Nat → Nat → Nat} {BL' : Nat → Nat → Int64} (e2 : J' 1 = v.1 1) (e3 : J' 2 = v.1 2) (hok : okA BN') : Inv (tS u) (J', G', BN', v.2.2.2.1, BL') := by
  obtain ⟨_, _, _, _, _, h6, h7⟩ := sp_pack hI
  exact inv_keep hI rfl rfl e2 e3 h7 (fun k hk => by rw [h6 5 (by omega)]; exact hI.2.2.2.1.2 k hk) hok
theorem m_base : M_base := fun u v k x hI => by
  obtain ⟨o, β, h, h10, hfr, hok, hL⟩ := fb_pack hI
  obtain ⟨e1, e2⟩ := base_eq hI h
  refine ⟨o, ?_⟩
  have hs3 := h.1
  have e1 : mbs (S9 u).1 (u.1 0) = (fb9 v).1 := e1
  have hk : (decide (¬ k < 0 ∧ k < nI (mbs (S9 u).1 (u.1 0))) = true) ↔ szM (fb9 v).1 k = true := by
    rw [szM_iff hs3, decide_eq_true_iff, e1, i32l, i32l, z32, nI_toInt (by omega)]
    omega
  unfold clBase basR basS
  rw [un_eq (n := u.1 0) hI.2.1.1 hI.1.2.1]
  have inv : ∀ c, Inv (tS u) (up1 (up1 (up1 v.1 3 (lkF (v.1 1) (v.1 2) v.2.2.2.1 v.2.2.1 v.2.2.2.2).1) 4 (fbS (v.1 1) (v.1 2) v.2.2.2.1 v.2.2.1 v.2.2.2.2).1) 0 c, v.2.1, (fbS (v.1 1) (v.1 2) v.2.2.2.1 v.2.2.1 v.2.2.2.2).2.1, v.2.2.2.1, (fbS (v.1 1) (v.1 2) v.2.2.2.1 v.2.2.1 v.2.2.2.2).2.2) := fun c => inv_tS hI rfl rfl hok
  by_cases c1 : szM (fb9 v).1 k = true ∧ isU (u.1 0) x = true
  · have c2 : (szM (fbS (v.1 1) (v.1 2) v.2.2.2.1 v.2.2.1 v.2.2.2.2).1 k && isU (u.1 0) x) = true := by rw [c1.2]; simp; exact c1.1
    rw [if_pos ⟨hk.mpr c1.1, c1.2⟩, if_pos c2, if_pos c2]
    refine ag0 rfl ?_ (inv 0)
    obtain ⟨k1, k2⟩ := (szM_iff hs3).mp c1.1
    obtain ⟨x1, x2⟩ := (isU_iff hI.1.2.1).mp c1.2
    have ck := clamp_toInt k1
    have cx := clamp_toInt x1
    have := (e2 k.toNatClampNeg (by omega)).2 x.toNatClampNeg (by omega)
    refine Int64.toInt_inj.mp ?_
    exact this
  · have c2 : ¬ (szM (fbS (v.1 1) (v.1 2) v.2.2.2.1 v.2.2.1 v.2.2.2.2).1 k && isU (u.1 0) x) = true := fun h => c1 (by simpa using h)
    rw [if_neg (fun h => c1 ⟨hk.mp h.1, h.2⟩), if_neg c2, if_neg c2]
    exact agk (by decide) (by decide) rfl (inv 1)
