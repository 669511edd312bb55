abbrev rmX2_commonDivisor : Room := { frames := 1, cells := 0, slots := 0, locals := 21 }
set_option maxHeartbeats 4000000 in
set_option maxRecDepth 100000 in
/-- commonDivisor -/
theorem ctX2_commonDivisor (l : Launch) (D : va_G) (cs : Nat → ClassId) (ad : Nat → Nat) (I : Nat → Nat) (AN : Nat → Nat → Nat) (AI : Nat → Nat → Int32) (AL : Nat → Nat → Int64) (sz : Nat) (x y : Int64)  : Met l yX2_commonDivisor (Cond.code yX2_commonDivisor cX2_commonDivisor 11 (some FieldType.long) :: GW) rmX2_commonDivisor (va_Pc [.long x, .long y] (gP D cs (wT cs ad I AN AI AL) sz)) (va_Ql (fun (r : Int64) (u : TS) => u = (I, AN, AI, AL) ∧ r = cd64 x y) (gB D cs (va_A (wT cs ad I AN AI AL) sz) (wTs cs ad)) (va_A (wT cs ad I AN AI AL) sz)) 0 0 (va_A (wT cs ad I AN AI AL) sz) := by
  refine Met.ofW (cc := cX2_commonDivisor) (maxL := 11) (ret := (some FieldType.long)) (by decide) rfl ?_
  intro p e s m args below meth c s₁ B hml hv
  obtain ⟨rfl, hsz, hP, hK, hD0, hN⟩ := hv
  have hx := B.exec
  have hb := B.bytes
  have hr := B.returns
  have hts : ∀ w ∈ GW, w.before _ s = true := fun w h => atoms_spec (ws := Cond.code yX2_commonDivisor cX2_commonDivisor 11 (some FieldType.long) :: GW) B.pre w (List.mem_cons_of_mem _ h)
  have hown : s.vm.findClass RX2 = some m.cls := findClass_of_methodNamed B.named
  have hlocks := B.notSynchronized
  subst hsz
  have hD := hD0.self (sz := s.heap.size)
  generalize hAe : va_A (wT cs ad I AN AI AL) s.heap.size = A at hD ⊢
  have hA : ∀ q : Nat, s.heap.size ≤ q → A q := fun q h => by rw [← hAe]; exact Or.inr h
  have hS : va_S A s.heap s.heap [] := va_S.rf
  have hl := lv_entry [.long x, .long y] (n := 11) (Nat.le_of_ble_eq_true rfl)
  rw [lg_entry_eq]
  generalize (lg_sl [.long x, .long y] ++ List.replicate (11 - (lg_sl [.long x, .long y]).length) Slot.unset).toArray = ls at hl ⊢
  have hl : lv_has ls 11 [(0, .long x), (2, .long y)] := hl
  generalize hargs : ([.long x, .long y] : List Value).toArray = args at *
  show W p l e rmX2_commonDivisor s m args below meth c s.heap [] 0 0 _ (F0 m 0 ls [])
  refine lv_lload_n hx hb dX2_commonDivisor_0 rfl (lv_at hl 0 rfl) ?_
  refine va_mabs_long hx hb (by rw [hml]; exact hl.1.symm) hown (hts _ gw_187) (hts _ gw_188) (hts _ gw_54) (hts _ gw_189) (Nat.le_of_ble_eq_true rfl) (Nat.le_of_ble_eq_true rfl) (Nat.zero_le _) (Nat.zero_le _) dX2_commonDivisor_1 ?_
  show W p l e rmX2_commonDivisor s m args below meth c s.heap [] 0 0 _ (F0 m 4 ls [.long (ab64 x)])
  refine lv_lstore (lv' := [(4, .long (ab64 x)), (0, .long x), (2, .long y)]) hx hb dX2_commonDivisor_4 hl (by decide) rfl (fun ls hl => ?_)
  refine lv_lload_n hx hb dX2_commonDivisor_6 rfl (lv_at hl 2 rfl) ?_
  refine va_mabs_long hx hb (by rw [hml]; exact hl.1.symm) hown (hts _ gw_187) (hts _ gw_188) (hts _ gw_54) (hts _ gw_189) (Nat.le_of_ble_eq_true rfl) (Nat.le_of_ble_eq_true rfl) (Nat.zero_le _) (Nat.zero_le _) dX2_commonDivisor_7 ?_
  show W p l e rmX2_commonDivisor s m args below meth c s.heap [] 0 0 _ (F0 m 10 ls [.long (ab64 y)])
  refine lv_lstore (lv' := [(6, .long (ab64 y)), (4, .long (ab64 x)), (0, .long x), (2, .long y)]) hx hb dX2_commonDivisor_10 hl (by decide) rfl (fun ls hl => ?_)
  refine lv_iconst (v := nI 0) hx hb dX2_commonDivisor_12 (by decide) ?_
  refine lv_istore (lv' := [(8, .int (nI 0)), (6, .long (ab64 y)), (4, .long (ab64 x)), (0, .long x), (2, .long y)]) hx hb dX2_commonDivisor_13 hl (by decide) rfl (fun ls hl => ?_)
  have lp15 : ∀ (n k : Nat) (bg sm : Int64) (H : Heap) (locs : List Loc) (ls : Array Slot), k + n = 100 → va_P D vc (wT cs ad I AN AI AL) H → va_D A (wT cs ad I AN AI AL) → va_S A s.heap H locs → lv_has ls 11 [(8, .int (nI k)), (6, .long sm), (4, .long bg), (0, .long x), (2, .long y)] → W p l e rmX2_commonDivisor s m args below meth c H locs 0 0 (MQ below (va_Ql (fun (r : Int64) (u : TS) => u = (I, AN, AI, AL) ∧ r = eu64 n bg sm) (gB D cs A (wTs cs ad)) A) args s 0 0 A) (F0 m 15 ls []) := by
    intro n
    induction n with
    | zero =>
      intro k bg sm H locs ls hn hP hD hS hl
      have hi : k = 100 := by omega
      refine lv_iload hx hb dX2_commonDivisor_15 (lv_at hl 0 rfl) ?_
      refine lv_bipush (v := nI 100) hx hb dX2_commonDivisor_17 (by decide) ?_
      refine b_ge_t (tgt := 50) hx hb dX2_commonDivisor_19 (by decide) (by omega) (by omega) ?_
      refine lv_lload hx hb dX2_commonDivisor_50 (lv_at hl 2 rfl) ?_
      exact g_lret hx hb hr hlocks (I, AN, AI, AL) (⟨rfl, rfl⟩) hK hP hD hS dX2_commonDivisor_52
    | succ n ih =>
      intro k bg sm H locs ls hn hP hD hS hl
      have hi : k < 100 := by omega
      refine lv_iload hx hb dX2_commonDivisor_15 (lv_at hl 0 rfl) ?_
      refine lv_bipush (v := nI 100) hx hb dX2_commonDivisor_17 (by decide) ?_
      refine b_ge_f (tgt := 50) hx hb dX2_commonDivisor_19 (by decide) (by omega) (by omega) ?_
      refine lv_lload hx hb dX2_commonDivisor_22 (lv_at hl 1 rfl) ?_
      refine lv_lconst (v := 0) hx hb dX2_commonDivisor_24 (by decide) ?_
      refine b_lceq (tgt := 50) hx hb dX2_commonDivisor_25 dX2_commonDivisor_26 (by decide) (fun h => ?_) (fun h => ?_)
      · refine lv_lload hx hb dX2_commonDivisor_50 (lv_at hl 2 rfl) ?_
        exact g_lret hx hb hr hlocks (I, AN, AI, AL) (⟨rfl, by rw [eu64, if_pos h]⟩) hK hP hD hS dX2_commonDivisor_52
      · refine lv_lload hx hb dX2_commonDivisor_29 (lv_at hl 2 rfl) ?_
        refine lv_lload hx hb dX2_commonDivisor_31 (lv_at hl 1 rfl) ?_
        refine lv_lrem hx hb dX2_commonDivisor_33 (h) ?_
        refine lv_lstore (lv' := [(9, .long (bg - bg / sm * sm)), (8, .int (nI k)), (6, .long sm), (4, .long bg), (0, .long x), (2, .long y)]) hx hb dX2_commonDivisor_34 hl (by decide) rfl (fun ls hl => ?_)
        refine lv_lload hx hb dX2_commonDivisor_36 (lv_at hl 2 rfl) ?_
        refine lv_lstore (lv' := [(4, .long sm), (9, .long (bg - bg / sm * sm)), (8, .int (nI k)), (6, .long sm), (0, .long x), (2, .long y)]) hx hb dX2_commonDivisor_38 hl (by decide) rfl (fun ls hl => ?_)
        refine lv_lload hx hb dX2_commonDivisor_40 (lv_at hl 1 rfl) ?_
        refine lv_lstore (lv' := [(6, .long (bg - bg / sm * sm)), (4, .long sm), (9, .long (bg - bg / sm * sm)), (8, .int (nI k)), (0, .long x), (2, .long y)]) hx hb dX2_commonDivisor_42 hl (by decide) rfl (fun ls hl => ?_)
        refine b_iinc (lv' := [(8, .int (nI (k + 1))), (6, .long (bg - bg / sm * sm)), (4, .long sm), (9, .long (bg - bg / sm * sm)), (0, .long x), (2, .long y)]) hx hb dX2_commonDivisor_44 hl (k := 3) rfl (by decide) rfl (fun ls hl => ?_)
        refine lv_goto (tgt := 15) hx hb dX2_commonDivisor_47 (by decide) ?_
        have ih2 := ih (k + 1) sm (bg - bg / sm * sm) H locs ls (by omega) hP hD hS (lv_sub hl [0, 1, 2, 4, 5] rfl)
        rw [show eu64 (n + 1) bg sm = eu64 n sm (bg - bg / sm * sm) from if_neg h]
        exact ih2
  exact lp15 (100 - 0) 0 (ab64 x) (ab64 y) _ _ ls (by omega) hP hD hS (lv_sub hl [0, 1, 2, 3, 4] rfl)

theorem ne_of_gt1 {x : Int64} (h : 1 < x) : ¬ x = 0 := by
  intro e
  subst e
  exact absurd h (by decide)
theorem zn {x : Int32} (h : x = 0) : x = 0 := h

abbrev rmX2_lowestPart : Room := { frames := 2, cells := 0, slots := 0, locals := 51 }
set_option maxHeartbeats 4000000 in
set_option maxRecDepth 100000 in
/-- lowestPart -/
theorem ctX2_lowestPart (l : Launch) (D : va_G) (cs : Nat → ClassId) (ad : Nat → Nat) (I : Nat → Nat) (AN : Nat → Nat → Nat) (AI : Nat → Nat → Int32) (AL : Nat → Nat → Int64) (sz : Nat) (x y : Int64) (q : Int32)  : Met l yX2_lowestPart (Cond.code yX2_lowestPart cX2_lowestPart 9 (some FieldType.long) :: GW) rmX2_lowestPart (va_Pc [.long x, .long y, .int q] (gP D cs (wT cs ad I AN AI AL) sz)) (va_Ql (fun (r : Int64) (u : TS) => u = (I, AN, AI, AL) ∧ r = lp64 x y q) (gB D cs (va_A (wT cs ad I AN AI AL) sz) (wTs cs ad)) (va_A (wT cs ad I AN AI AL) sz)) 0 0 (va_A (wT cs ad I AN AI AL) sz) := by
  refine Met.ofW (cc := cX2_lowestPart) (maxL := 9) (ret := (some FieldType.long)) (by decide) rfl ?_
  intro p e s m args below meth c s₁ B hml hv
  obtain ⟨rfl, hsz, hP, hK, hD0, hN⟩ := hv
  have hx := B.exec
  have hb := B.bytes
  have hr := B.returns
  have hts : ∀ w ∈ GW, w.before _ s = true := fun w h => atoms_spec (ws := Cond.code yX2_lowestPart cX2_lowestPart 9 (some FieldType.long) :: GW) B.pre w (List.mem_cons_of_mem _ h)
  have hown : s.vm.findClass RX2 = some m.cls := findClass_of_methodNamed B.named
  have hlocks := B.notSynchronized
  subst hsz
  have hD := hD0.self (sz := s.heap.size)
  generalize hAe : va_A (wT cs ad I AN AI AL) s.heap.size = A at hD ⊢
  have hA : ∀ q : Nat, s.heap.size ≤ q → A q := fun q h => by rw [← hAe]; exact Or.inr h
  have hS : va_S A s.heap s.heap [] := va_S.rf
  have hl := lv_entry [.long x, .long y, .int q] (n := 9) (Nat.le_of_ble_eq_true rfl)
  rw [lg_entry_eq]
  generalize (lg_sl [.long x, .long y, .int q] ++ List.replicate (9 - (lg_sl [.long x, .long y, .int q]).length) Slot.unset).toArray = ls at hl ⊢
  have hl : lv_has ls 9 [(0, .long x), (2, .long y), (4, .int q)] := hl
  generalize hargs : ([.long x, .long y, .int q] : List Value).toArray = args at *
  show W p l e rmX2_lowestPart s m args below meth c s.heap [] 0 0 _ (F0 m 0 ls [])
  refine lv_iload hx hb dX2_lowestPart_0 (lv_at hl 2 rfl) ?_
  refine lv_if_ne (tgt := 9) hx hb dX2_lowestPart_2 (by decide) (fun h => ?_) (fun h => ?_)
  · refine lv_lload_n hx hb dX2_lowestPart_9 rfl (lv_at hl 1 rfl) ?_
    refine lv_lstore (lv' := [(5, .long y), (0, .long x), (2, .long y), (4, .int q)]) hx hb dX2_lowestPart_10 hl (by decide) rfl (fun ls hl => ?_)
    refine lv_lload_n hx hb dX2_lowestPart_12 rfl (lv_at hl 1 rfl) ?_
    refine lv_lload_n hx hb dX2_lowestPart_13 rfl (lv_at hl 2 rfl) ?_
    refine g_calll (va_runS (As := [.long x, .long y]) (rest := []) ⟨hx, hb, hml, hown, hts⟩ (ctX2_commonDivisor l D cs ad I AN AI AL _ x y) (va_cwS 2 hts (gi_S gw_426 gw_185 gw_53 gw_186) rfl rfl rfl (by decide +kernel) ⟨Nat.le_of_ble_eq_true rfl, Nat.le_of_ble_eq_true rfl⟩) ⟨g_blind, g_pre hP hK hD hN⟩ rfl rfl hl.1 rfl (lv_room (Nat.le_of_ble_eq_true rfl)) dX2_lowestPart_14 ⟨Nat.zero_le _, Nat.zero_le _⟩) hD hS hA (fun r u H locs hw hP hD hS => ?_)
    obtain ⟨rfl, rfl⟩ := hw
    have hP : va_P D vc (wT cs ad I AN AI AL) H := hP
    have hD : va_D A (wT cs ad I AN AI AL) := hD
    refine lv_lstore (lv' := [(7, .long (cd64 x y)), (5, .long y), (0, .long x), (2, .long y), (4, .int q)]) hx hb dX2_lowestPart_17 hl (by decide) rfl (fun ls hl => ?_)
    refine lv_lload hx hb dX2_lowestPart_19 (lv_at hl 0 rfl) ?_
    refine lv_lconst (v := 1) hx hb dX2_lowestPart_21 (by decide) ?_
    refine b_lcle (tgt := 34) hx hb dX2_lowestPart_22 dX2_lowestPart_23 (by decide) (fun h2 => ?_) (fun h2 => ?_)
    · refine lv_lload hx hb dX2_lowestPart_34 (lv_at hl 1 rfl) ?_
      exact g_lret hx hb hr hlocks (I, AN, AI, AL) (⟨rfl, by rw [lp64, if_neg h2, if_neg h]⟩) hK hP hD hS dX2_lowestPart_36
    · refine lv_lload hx hb dX2_lowestPart_26 (lv_at hl 1 rfl) ?_
      refine lv_lload hx hb dX2_lowestPart_28 (lv_at hl 0 rfl) ?_
      refine lv_ldiv hx hb dX2_lowestPart_30 (ne_of_gt1 h2) ?_
      refine lv_goto (tgt := 36) hx hb dX2_lowestPart_31 (by decide) ?_
      exact g_lret hx hb hr hlocks (I, AN, AI, AL) (⟨rfl, by rw [lp64, if_pos h2, if_neg h]⟩) hK hP hD hS dX2_lowestPart_36
  · refine lv_lload_n hx hb dX2_lowestPart_5 rfl (lv_at hl 0 rfl) ?_
    refine lv_goto (tgt := 10) hx hb dX2_lowestPart_6 (by decide) ?_
    refine lv_lstore (lv' := [(5, .long x), (0, .long x), (2, .long y), (4, .int q)]) hx hb dX2_lowestPart_10 hl (by decide) rfl (fun ls hl => ?_)
    refine lv_lload_n hx hb dX2_lowestPart_12 rfl (lv_at hl 1 rfl) ?_
    refine lv_lload_n hx hb dX2_lowestPart_13 rfl (lv_at hl 2 rfl) ?_
    refine g_calll (va_runS (As := [.long x, .long y]) (rest := []) ⟨hx, hb, hml, hown, hts⟩ (ctX2_commonDivisor l D cs ad I AN AI AL _ x y) (va_cwS 2 hts (gi_S gw_426 gw_185 gw_53 gw_186) rfl rfl rfl (by decide +kernel) ⟨Nat.le_of_ble_eq_true rfl, Nat.le_of_ble_eq_true rfl⟩) ⟨g_blind, g_pre hP hK hD hN⟩ rfl rfl hl.1 rfl (lv_room (Nat.le_of_ble_eq_true rfl)) dX2_lowestPart_14 ⟨Nat.zero_le _, Nat.zero_le _⟩) hD hS hA (fun r u H locs hw hP hD hS => ?_)
    obtain ⟨rfl, rfl⟩ := hw
    have hP : va_P D vc (wT cs ad I AN AI AL) H := hP
    have hD : va_D A (wT cs ad I AN AI AL) := hD
    refine lv_lstore (lv' := [(7, .long (cd64 x y)), (5, .long x), (0, .long x), (2, .long y), (4, .int q)]) hx hb dX2_lowestPart_17 hl (by decide) rfl (fun ls hl => ?_)
    refine lv_lload hx hb dX2_lowestPart_19 (lv_at hl 0 rfl) ?_
    refine lv_lconst (v := 1) hx hb dX2_lowestPart_21 (by decide) ?_
    refine b_lcle (tgt := 34) hx hb dX2_lowestPart_22 dX2_lowestPart_23 (by decide) (fun h2 => ?_) (fun h2 => ?_)
    · refine lv_lload hx hb dX2_lowestPart_34 (lv_at hl 1 rfl) ?_
      exact g_lret hx hb hr hlocks (I, AN, AI, AL) (⟨rfl, by rw [lp64, if_neg h2, if_pos (zn h)]⟩) hK hP hD hS dX2_lowestPart_36
    · refine lv_lload hx hb dX2_lowestPart_26 (lv_at hl 1 rfl) ?_
      refine lv_lload hx hb dX2_lowestPart_28 (lv_at hl 0 rfl) ?_
      refine lv_ldiv hx hb dX2_lowestPart_30 (ne_of_gt1 h2) ?_
      refine lv_goto (tgt := 36) hx hb dX2_lowestPart_31 (by decide) ?_
      exact g_lret hx hb hr hlocks (I, AN, AI, AL) (⟨rfl, by rw [lp64, if_pos h2, if_pos (zn h)]⟩) hK hP hD hS dX2_lowestPart_36
