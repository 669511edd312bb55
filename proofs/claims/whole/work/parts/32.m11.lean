def neaS (I : Nat → Nat) (G : Nat → Int64) (AN : Nat → Nat → Nat) (AI : Nat → Int32) (AL : Nat → Nat → Int64) (u q : Int32) : MS :=
  if unM I u then
    if paM q then (up1 (up1 I 0 0) 3 (lkF (I 1) (I 2) AI AN AL).1, lowG (up1 (up1 G 3 (nrF (I 1) (I 2) AI AN AL).1) 0 (nrF (I 1) (I 2) AI AN AL).1) ((nrF (I 1) (I 2) AI AN AL).2 13 u.toNatClampNeg) (nrF (I 1) (I 2) AI AN AL).1, (lkF (I 1) (I 2) AI AN AL).2.1, AI, (nrF (I 1) (I 2) AI AN AL).2)
    else (up1 I 0 2, G, AN, AI, AL)
  else (up1 I 0 1, G, AN, AI, AL)
def neaR (I : Nat → Nat) (G : Nat → Int64) (AN : Nat → Nat → Nat) (AI : Nat → Int32) (AL : Nat → Nat → Int64) (u q : Int32) : Int64 := if unM I u ∧ paM q then (if q = 0 then (neaS I G AN AI AL u q).2.1 1 else (neaS I G AN AI AL u q).2.1 2) else 0
def sqS (n m : Nat) (AI : Nat → Int32) (be : Int64) (AL : Nat → Nat → Int64) : Int64 := fo (fun g z => fo (fun u z => z - Int32.toInt64 (AI (4 * g + 3)) * Int32.toInt64 (AI (4 * g + u)) * AL 13 u) n 0 (z + Int32.toInt64 (AI (4 * g + 3)) * Int32.toInt64 (AI (4 * g + 3)) * be)) m 0 0
def squV (n m : Nat) (AI : Nat → Int32) (AN : Nat → Nat → Nat) (AL : Nat → Nat → Int64) : Int64 := sqS n m AI (nrF n m AI AN AL).1 (nrF n m AI AN AL).2
def squS (I : Nat → Nat) (G : Nat → Int64) (AN : Nat → Nat → Nat) (AI : Nat → Int32) (AL : Nat → Nat → Int64) (q : Int32) : MS :=
  if paM q then (up1 (up1 I 0 0) 3 (lkF (I 1) (I 2) AI AN AL).1, lowG (up1 (up1 G 3 (nrF (I 1) (I 2) AI AN AL).1) 0 (nrF (I 1) (I 2) AI AN AL).1) (squV (I 1) (I 2) AI AN AL) (nrF (I 1) (I 2) AI AN AL).1, (lkF (I 1) (I 2) AI AN AL).2.1, AI, (nrF (I 1) (I 2) AI AN AL).2)
  else (up1 I 0 1, G, AN, AI, AL)
def squR (I : Nat → Nat) (G : Nat → Int64) (AN : Nat → Nat → Nat) (AI : Nat → Int32) (AL : Nat → Nat → Int64) (q : Int32) : Int64 := if paM q then (if q = 0 then (squS I G AN AI AL q).2.1 1 else (squS I G AN AI AL q).2.1 2) else 0

abbrev rmX3_nearest : Room := { frames := 4, cells := 0, slots := 0, locals := 91 }
set_option maxHeartbeats 4000000 in
set_option maxRecDepth 100000 in
theorem ctX3_nearest (l : Launch) (D : va_G) (cs : Nat → ClassId) (ad : Nat → Nat) (I : Nat → Nat) (G : Nat → Int64) (AN : Nat → Nat → Nat) (AI : Nat → Int32) (AL : Nat → Nat → Int64) (sz : Nat) (u q : Int32) (h1 : I 1 ≤ 3) (h2 : I 2 ≤ 3) (hok : okA AN) (hlo : ∀ u, u < I 1 → okLow ((nrF (I 1) (I 2) AI AN AL).2 13 u) (nrF (I 1) (I 2) AI AN AL).1) : Met l yX3_nearest (Cond.code yX3_nearest cX3_nearest 3 (some FieldType.long) :: GW) rmX3_nearest (va_Pc [.ref (ad 0), .int u, .int q] (gP D cs (wM cs ad I G AN AI AL) sz)) (va_Ql (fun (r : Int64) (v : MS) => v = neaS I G AN AI AL u q ∧ r = neaR I G AN AI AL u q) (gB D cs (va_A (wM cs ad I G AN AI AL) sz) (wMs cs ad)) (va_A (wM cs ad I G AN AI AL) sz)) 0 0 (va_A (wM cs ad I G AN AI AL) sz) := by
  refine Met.ofW (cc := cX3_nearest) (maxL := 3) (ret := (some FieldType.long)) (by decide) rfl ?_
  intro p e s m args below meth c s₁ B hml hv
  obtain ⟨rfl, hsz, hP, hK, hD0, hN⟩ := hv
  have hx := B.exec
  have hb := B.bytes
  have hr := B.returns
  have hts : ∀ w ∈ GW, w.before _ s = true := fun w h => atoms_spec (ws := Cond.code yX3_nearest cX3_nearest 3 (some FieldType.long) :: GW) B.pre w (List.mem_cons_of_mem _ h)
  have hown : s.vm.findClass RX3 = some m.cls := findClass_of_methodNamed B.named
  have hlocks := B.notSynchronized
  subst hsz
  have hD := hD0.self (sz := s.heap.size)
  generalize hAe : va_A (wM cs ad I G AN AI AL) s.heap.size = A at hD ⊢
  have hA : ∀ q : Nat, s.heap.size ≤ q → A q := fun q h => by rw [← hAe]; exact Or.inr h
  have hS : va_S A s.heap s.heap [] := va_S.rf
  have hl := lv_entry [.ref (ad 0), .int u, .int q] (n := 3) (Nat.le_of_ble_eq_true rfl)
  rw [lg_entry_eq]
  generalize (lg_sl [.ref (ad 0), .int u, .int q] ++ List.replicate (3 - (lg_sl [.ref (ad 0), .int u, .int q]).length) Slot.unset).toArray = ls at hl ⊢
  have hl : lv_has ls 3 [(0, .ref (ad 0)), (1, .int u), (2, .int q)] := hl
  generalize hargs : ([.ref (ad 0), .int u, .int q] : List Value).toArray = args at *
  show W p l e rmX3_nearest s m args below meth c s.heap [] 0 0 _ (F0 m 0 ls [])
  refine lv_aload_n hx hb dX3_nearest_0 rfl (lv_at hl 0 rfl) ?_
  refine lv_aload_n hx hb dX3_nearest_1 rfl (lv_at hl 0 rfl) ?_
  refine lv_iload_n hx hb dX3_nearest_2 rfl (lv_at hl 1 rfl) ?_
  refine g_calli (va_runV (As := [.int u]) (rest := [.ref (ad 0)]) ⟨hx, hb, hml, hown, hts⟩ (ctX3_isUnknown l D cs ad I G AN AI AL _ u) (cwV 1 hts (gi_V gw_656 gw_658 gw_37 gw_57 gw_659) rfl rfl rfl (by decide +kernel) ⟨Nat.le_of_ble_eq_true rfl, Nat.le_of_ble_eq_true rfl⟩) ⟨g_blind, va_recv hK hP (ci := 3) (q0 := 0) rfl (wm_at (by decide) rfl), g_pre hP hK hD hN⟩ rfl rfl hl.1 rfl (lv_room (Nat.le_of_ble_eq_true rfl)) dX3_nearest_3 ⟨Nat.zero_le _, Nat.zero_le _⟩) hD hS hA (fun r u H locs hw hP hD hS => ?_)
  obtain ⟨rfl, hw2⟩ := hw
  have hP : va_P D vc (wM cs ad I G AN AI AL) H := hP
  have hD : va_D A (wM cs ad I G AN AI AL) := hD
  have hw2 : r = bz (unM I u) := hw2
  subst hw2
  refine lv_if_ne (tgt := 13) hx hb dX3_nearest_6 (by decide) (fun h => ?_) (fun h => ?_)
  · have hun := bz_t h
    obtain ⟨u', rfl, hu⟩ := unM_spec h1 hun
    refine lv_iload_n hx hb dX3_nearest_13 rfl (lv_at hl 2 rfl) ?_
    refine lv_i2l (v := Int32.toInt64 q) hx hb dX3_nearest_14 rfl ?_
    refine lv_lconst (v := 0) hx hb dX3_nearest_15 (by decide) ?_
    refine lv_lconst (v := 1) hx hb dX3_nearest_16 (by decide) ?_
    refine g_calli (va_runS (As := [.long (Int32.toInt64 q), .long 0, .long 1]) (rest := [.ref (ad 0)]) ⟨hx, hb, hml, hown, hts⟩ (ctX3_in l D cs ad I G AN AI AL _ (Int32.toInt64 q) 0 1) (va_cwS 3 hts (gi_S gw_591 gw_592 gw_57 gw_593) rfl rfl rfl (by decide +kernel) ⟨Nat.le_of_ble_eq_true rfl, Nat.le_of_ble_eq_true rfl⟩) ⟨g_blind, g_pre hP hK hD hN⟩ rfl rfl hl.1 rfl (lv_room (Nat.le_of_ble_eq_true rfl)) dX3_nearest_17 ⟨Nat.zero_le _, Nat.zero_le _⟩) hD hS hA (fun r u H locs hw hP hD hS => ?_)
    obtain ⟨rfl, hw2⟩ := hw
    have hP : va_P D vc (wM cs ad I G AN AI AL) H := hP
    have hD : va_D A (wM cs ad I G AN AI AL) := hD
    have hw2 : r = bz (paM q) := hw2
    subst hw2
    refine lv_if_eq (tgt := 27) hx hb dX3_nearest_20 (by decide) (fun h8 => ?_) (fun h8 => ?_)
    · have hpa : ¬ paM q = true := by rw [show paM q = false from bz_1.mp h8]; decide
      refine lv_iconst (v := nI 2) hx hb dX3_nearest_27 (by decide) ?_
      refine b_put (own := RX3) (C := RX3) (T := TX3) (N := 23) (ci := 3) (v := .int (nI 2)) hx hb hts usX3 tyX3 tyX3_ok nmX3 hown hK hP hD hS 0 (by decide) rfl rfl 0 (by decide) (hts _ gw_504) rfl rfl rfl (Nat.le_of_ble_eq_true rfl) dX3_nearest_28 sM_I0 (fun H locs hP hD hS => ?_)
      refine lv_aload_n hx hb dX3_nearest_31 rfl (lv_at hl 0 rfl) ?_
      refine b_get (own := RX3) (C := RX3) (T := TX3) (N := 23) (ci := 3) (v := .int (nI 2)) hx hb hts usX3 hown hK hP 0 (by decide) rfl rfl 0 (by decide) (hts _ gw_504) rfl dX3_nearest_32 ?_
      refine lv_if_le (tgt := 40) hx hb dX3_nearest_35 (by decide) (fun q => absurd q (by decide)) (fun _ => ?_)
      refine lv_lconst (v := 0) hx hb dX3_nearest_38 (by decide) ?_
      exact g_lret hx hb hr hlocks (up1 I 0 2, G, AN, AI, AL) (⟨by unfold neaS; rw [if_pos hun, if_neg hpa], by unfold neaR; rw [if_neg (fun z => hpa z.2)]⟩) hK hP hD hS dX3_nearest_39
    · have hpa := bz_t h8
      refine lv_iconst (v := nI 0) hx hb dX3_nearest_23 (by decide) ?_
      refine lv_goto (tgt := 28) hx hb dX3_nearest_24 (by decide) ?_
      refine b_put (own := RX3) (C := RX3) (T := TX3) (N := 23) (ci := 3) (v := .int (nI 0)) hx hb hts usX3 tyX3 tyX3_ok nmX3 hown hK hP hD hS 0 (by decide) rfl rfl 0 (by decide) (hts _ gw_504) rfl rfl rfl (Nat.le_of_ble_eq_true rfl) dX3_nearest_28 sM_I0 (fun H locs hP hD hS => ?_)
      refine lv_aload_n hx hb dX3_nearest_31 rfl (lv_at hl 0 rfl) ?_
      refine b_get (own := RX3) (C := RX3) (T := TX3) (N := 23) (ci := 3) (v := .int (nI 0)) hx hb hts usX3 hown hK hP 0 (by decide) rfl rfl 0 (by decide) (hts _ gw_504) rfl dX3_nearest_32 ?_
      refine lv_if_le (tgt := 40) hx hb dX3_nearest_35 (by decide) (fun _ => ?_) (fun q => absurd (by decide) q)
      refine lv_aload_n hx hb dX3_nearest_40 rfl (lv_at hl 0 rfl) ?_
      refine g_callv (va_runV (As := []) (rest := []) ⟨hx, hb, hml, hown, hts⟩ (ctX3_findNearest l D cs ad (up1 I 0 0) G AN AI AL _ (show I 1 ≤ 3 from h1) (show I 2 ≤ 3 from h2) hok) (cwV 0 hts (gi_V gw_727 gw_729 gw_49 gw_57 gw_730) rfl rfl rfl (by decide +kernel) ⟨Nat.le_of_ble_eq_true rfl, Nat.le_of_ble_eq_true rfl⟩) ⟨g_blind, va_recv hK hP (ci := 3) (q0 := 0) rfl (wm_at (by decide) rfl), g_pre hP hK hD hN⟩ rfl rfl hl.1 rfl (lv_room (Nat.le_of_ble_eq_true rfl)) dX3_nearest_41 ⟨Nat.zero_le _, Nat.zero_le _⟩) hD hS hA (fun u H locs hw hP hD hS => ?_)
      obtain rfl := hw
      have hP : va_P D vc (wM cs ad (up1 (up1 I 0 0) 3 (lkF (I 1) (I 2) AI AN AL).1) (up1 (up1 G 3 (nrF (I 1) (I 2) AI AN AL).1) 0 (nrF (I 1) (I 2) AI AN AL).1) ((lkF (I 1) (I 2) AI AN AL).2.1) AI ((nrF (I 1) (I 2) AI AN AL).2)) H := hP
      have hD : va_D A (wM cs ad (up1 (up1 I 0 0) 3 (lkF (I 1) (I 2) AI AN AL).1) (up1 (up1 G 3 (nrF (I 1) (I 2) AI AN AL).1) 0 (nrF (I 1) (I 2) AI AN AL).1) ((lkF (I 1) (I 2) AI AN AL).2.1) AI ((nrF (I 1) (I 2) AI AN AL).2)) := hD
      refine lv_aload_n hx hb dX3_nearest_44 rfl (lv_at hl 0 rfl) ?_
      refine lv_aload_n hx hb dX3_nearest_45 rfl (lv_at hl 0 rfl) ?_
      refine b_get (own := RX3) (C := RX3) (T := TX3) (N := 23) (ci := 3) (v := .ref (ad 13)) hx hb hts usX3 hown hK hP 0 (by decide) rfl rfl 20 (by decide) (hts _ gw_524) rfl dX3_nearest_46 ?_
      refine lv_iload_n hx hb dX3_nearest_49 rfl (lv_at hl 1 rfl) ?_
      refine b_lald hx hb hK hP 13 1 (by decide) rfl rfl (by omega) (by decide) dX3_nearest_50 ?_
      refine lv_aload_n hx hb dX3_nearest_51 rfl (lv_at hl 0 rfl) ?_
      refine b_get (own := RX3) (C := RX3) (T := TX3) (N := 23) (ci := 3) (v := .long ((nrF (I 1) (I 2) AI AN AL).1)) hx hb hts usX3 hown hK hP 0 (by decide) rfl rfl 21 (by decide) (hts _ gw_525) rfl dX3_nearest_52 ?_
      refine g_callv (va_runV (As := [.long (((nrF (I 1) (I 2) AI AN AL).2) 13 u'), .long ((nrF (I 1) (I 2) AI AN AL).1)]) (rest := []) ⟨hx, hb, hml, hown, hts⟩ (ctX3_lowest l D cs ad (up1 (up1 I 0 0) 3 (lkF (I 1) (I 2) AI AN AL).1) (up1 (up1 G 3 (nrF (I 1) (I 2) AI AN AL).1) 0 (nrF (I 1) (I 2) AI AN AL).1) ((lkF (I 1) (I 2) AI AN AL).2.1) AI ((nrF (I 1) (I 2) AI AN AL).2) _ (((nrF (I 1) (I 2) AI AN AL).2) 13 u') (nrF (I 1) (I 2) AI AN AL).1 (hlo u' hu)) (cwV 2 hts (gi_V gw_668 gw_670 gw_40 gw_57 gw_671) rfl rfl rfl (by decide +kernel) ⟨Nat.le_of_ble_eq_true rfl, Nat.le_of_ble_eq_true rfl⟩) ⟨g_blind, va_recv hK hP (ci := 3) (q0 := 0) rfl (wm_at (by decide) rfl), g_pre hP hK hD hN⟩ rfl rfl hl.1 rfl (lv_room (Nat.le_of_ble_eq_true rfl)) dX3_nearest_55 ⟨Nat.zero_le _, Nat.zero_le _⟩) hD hS hA (fun u H locs hw hP hD hS => ?_)
      obtain rfl := hw
      have hP : va_P D vc (wM cs ad (up1 (up1 I 0 0) 3 (lkF (I 1) (I 2) AI AN AL).1) (lowG (up1 (up1 G 3 (nrF (I 1) (I 2) AI AN AL).1) 0 (nrF (I 1) (I 2) AI AN AL).1) (((nrF (I 1) (I 2) AI AN AL).2) 13 u') (nrF (I 1) (I 2) AI AN AL).1) ((lkF (I 1) (I 2) AI AN AL).2.1) AI ((nrF (I 1) (I 2) AI AN AL).2)) H := hP
      have hD : va_D A (wM cs ad (up1 (up1 I 0 0) 3 (lkF (I 1) (I 2) AI AN AL).1) (lowG (up1 (up1 G 3 (nrF (I 1) (I 2) AI AN AL).1) 0 (nrF (I 1) (I 2) AI AN AL).1) (((nrF (I 1) (I 2) AI AN AL).2) 13 u') (nrF (I 1) (I 2) AI AN AL).1) ((lkF (I 1) (I 2) AI AN AL).2.1) AI ((nrF (I 1) (I 2) AI AN AL).2)) := hD
      refine lv_aload_n hx hb dX3_nearest_58 rfl (lv_at hl 0 rfl) ?_
      refine lv_iload_n hx hb dX3_nearest_59 rfl (lv_at hl 2 rfl) ?_
      refine g_calll (va_runV (As := [.int q]) (rest := []) ⟨hx, hb, hml, hown, hts⟩ (ctX3_told l D cs ad (up1 (up1 I 0 0) 3 (lkF (I 1) (I 2) AI AN AL).1) (lowG (up1 (up1 G 3 (nrF (I 1) (I 2) AI AN AL).1) 0 (nrF (I 1) (I 2) AI AN AL).1) (((nrF (I 1) (I 2) AI AN AL).2) 13 u') (nrF (I 1) (I 2) AI AN AL).1) ((lkF (I 1) (I 2) AI AN AL).2.1) AI ((nrF (I 1) (I 2) AI AN AL).2) _ q) (cwV 1 hts (gi_V gw_675 gw_677 gw_41 gw_57 gw_678) rfl rfl rfl (by decide +kernel) ⟨Nat.le_of_ble_eq_true rfl, Nat.le_of_ble_eq_true rfl⟩) ⟨g_blind, va_recv hK hP (ci := 3) (q0 := 0) rfl (wm_at (by decide) rfl), g_pre hP hK hD hN⟩ rfl rfl hl.1 rfl (lv_room (Nat.le_of_ble_eq_true rfl)) dX3_nearest_60 ⟨Nat.zero_le _, Nat.zero_le _⟩) hD hS hA (fun r u H locs hw hP hD hS => ?_)
      obtain ⟨rfl, rfl⟩ := hw
      have hP : va_P D vc (wM cs ad (up1 (up1 I 0 0) 3 (lkF (I 1) (I 2) AI AN AL).1) (lowG (up1 (up1 G 3 (nrF (I 1) (I 2) AI AN AL).1) 0 (nrF (I 1) (I 2) AI AN AL).1) (((nrF (I 1) (I 2) AI AN AL).2) 13 u') (nrF (I 1) (I 2) AI AN AL).1) ((lkF (I 1) (I 2) AI AN AL).2.1) AI ((nrF (I 1) (I 2) AI AN AL).2)) H := hP
      have hD : va_D A (wM cs ad (up1 (up1 I 0 0) 3 (lkF (I 1) (I 2) AI AN AL).1) (lowG (up1 (up1 G 3 (nrF (I 1) (I 2) AI AN AL).1) 0 (nrF (I 1) (I 2) AI AN AL).1) (((nrF (I 1) (I 2) AI AN AL).2) 13 u') (nrF (I 1) (I 2) AI AN AL).1) ((lkF (I 1) (I 2) AI AN AL).2.1) AI ((nrF (I 1) (I 2) AI AN AL).2)) := hD
      have e8 : neaS I G AN AI AL (nI u') q = (up1 (up1 I 0 0) 3 (lkF (I 1) (I 2) AI AN AL).1, lowG (up1 (up1 G 3 (nrF (I 1) (I 2) AI AN AL).1) 0 (nrF (I 1) (I 2) AI AN AL).1) (((nrF (I 1) (I 2) AI AN AL).2) 13 u') (nrF (I 1) (I 2) AI AN AL).1, (lkF (I 1) (I 2) AI AN AL).2.1, AI, (nrF (I 1) (I 2) AI AN AL).2) := by unfold neaS; rw [if_pos hun, if_pos hpa, nI_cl (show u' < 2 ^ 31 by omega)]
      have e7 : neaR I G AN AI AL (nI u') q = (if q = 0 then (neaS I G AN AI AL (nI u') q).2.1 1 else (neaS I G AN AI AL (nI u') q).2.1 2) := if_pos ⟨hun, hpa⟩
      exact g_lret hx hb hr hlocks (up1 (up1 I 0 0) 3 (lkF (I 1) (I 2) AI AN AL).1, lowG (up1 (up1 G 3 (nrF (I 1) (I 2) AI AN AL).1) 0 (nrF (I 1) (I 2) AI AN AL).1) (((nrF (I 1) (I 2) AI AN AL).2) 13 u') (nrF (I 1) (I 2) AI AN AL).1, (lkF (I 1) (I 2) AI AN AL).2.1, AI, (nrF (I 1) (I 2) AI AN AL).2) (⟨e8.symm, by rw [e7, e8]⟩) hK hP hD hS dX3_nearest_63
  · have hun : ¬ unM I u = true := by rw [show unM I u = false from bz_1.mp h]; decide
    refine lv_iconst (v := nI 1) hx hb dX3_nearest_9 (by decide) ?_
    refine lv_goto (tgt := 28) hx hb dX3_nearest_10 (by decide) ?_
    refine b_put (own := RX3) (C := RX3) (T := TX3) (N := 23) (ci := 3) (v := .int (nI 1)) hx hb hts usX3 tyX3 tyX3_ok nmX3 hown hK hP hD hS 0 (by decide) rfl rfl 0 (by decide) (hts _ gw_504) rfl rfl rfl (Nat.le_of_ble_eq_true rfl) dX3_nearest_28 sM_I0 (fun H locs hP hD hS => ?_)
    refine lv_aload_n hx hb dX3_nearest_31 rfl (lv_at hl 0 rfl) ?_
    refine b_get (own := RX3) (C := RX3) (T := TX3) (N := 23) (ci := 3) (v := .int (nI 1)) hx hb hts usX3 hown hK hP 0 (by decide) rfl rfl 0 (by decide) (hts _ gw_504) rfl dX3_nearest_32 ?_
    refine lv_if_le (tgt := 40) hx hb dX3_nearest_35 (by decide) (fun q => absurd q (by decide)) (fun _ => ?_)
    refine lv_lconst (v := 0) hx hb dX3_nearest_38 (by decide) ?_
    exact g_lret hx hb hr hlocks (up1 I 0 1, G, AN, AI, AL) (⟨by unfold neaS; rw [if_neg hun], by unfold neaR; rw [if_neg (fun z => hun z.1)]⟩) hK hP hD hS dX3_nearest_39

abbrev rmX3_squares : Room := { frames := 4, cells := 0, slots := 0, locals := 91 }
set_option maxHeartbeats 4000000 in
set_option maxRecDepth 100000 in
theorem ctX3_squares (l : Launch) (D : va_G) (cs : Nat → ClassId) (ad : Nat → Nat) (I : Nat → Nat) (G : Nat → Int64) (AN : Nat → Nat → Nat) (AI : Nat → Int32) (AL : Nat → Nat → Int64) (sz : Nat) (q : Int32) (h1 : I 1 ≤ 3) (h2 : I 2 ≤ 3) (hok : okA AN) (hlo : okLow (squV (I 1) (I 2) AI AN AL) (nrF (I 1) (I 2) AI AN AL).1) : Met l yX3_squares (Cond.code yX3_squares cX3_squares 8 (some FieldType.long) :: GW) rmX3_squares (va_Pc [.ref (ad 0), .int q] (gP D cs (wM cs ad I G AN AI AL) sz)) (va_Ql (fun (r : Int64) (v : MS) => v = squS I G AN AI AL q ∧ r = squR I G AN AI AL q) (gB D cs (va_A (wM cs ad I G AN AI AL) sz) (wMs cs ad)) (va_A (wM cs ad I G AN AI AL) sz)) 0 0 (va_A (wM cs ad I G AN AI AL) sz) := by
  refine Met.ofW (cc := cX3_squares) (maxL := 8) (ret := (some FieldType.long)) (by decide) rfl ?_
  intro p e s m args below meth c s₁ B hml hv
  obtain ⟨rfl, hsz, hP, hK, hD0, hN⟩ := hv
  have hx := B.exec
  have hb := B.bytes
  have hr := B.returns
  have hts : ∀ w ∈ GW, w.before _ s = true := fun w h => atoms_spec (ws := Cond.code yX3_squares cX3_squares 8 (some FieldType.long) :: GW) B.pre w (List.mem_cons_of_mem _ h)
  have hown : s.vm.findClass RX3 = some m.cls := findClass_of_methodNamed B.named
  have hlocks := B.notSynchronized
  subst hsz
  have hD := hD0.self (sz := s.heap.size)
  generalize hAe : va_A (wM cs ad I G AN AI AL) s.heap.size = A at hD ⊢
  have hA : ∀ q : Nat, s.heap.size ≤ q → A q := fun q h => by rw [← hAe]; exact Or.inr h
  have hS : va_S A s.heap s.heap [] := va_S.rf
  have hl := lv_entry [.ref (ad 0), .int q] (n := 8) (Nat.le_of_ble_eq_true rfl)
  rw [lg_entry_eq]
  generalize (lg_sl [.ref (ad 0), .int q] ++ List.replicate (8 - (lg_sl [.ref (ad 0), .int q]).length) Slot.unset).toArray = ls at hl ⊢
  have hl : lv_has ls 8 [(0, .ref (ad 0)), (1, .int q)] := hl
  generalize hargs : ([.ref (ad 0), .int q] : List Value).toArray = args at *
  show W p l e rmX3_squares s m args below meth c s.heap [] 0 0 _ (F0 m 0 ls [])
  refine lv_aload_n hx hb dX3_squares_0 rfl (lv_at hl 0 rfl) ?_
  refine lv_iload_n hx hb dX3_squares_1 rfl (lv_at hl 1 rfl) ?_
  refine lv_i2l (v := Int32.toInt64 q) hx hb dX3_squares_2 rfl ?_
  refine lv_lconst (v := 0) hx hb dX3_squares_3 (by decide) ?_
  refine lv_lconst (v := 1) hx hb dX3_squares_4 (by decide) ?_
  refine g_calli (va_runS (As := [.long (Int32.toInt64 q), .long 0, .long 1]) (rest := [.ref (ad 0)]) ⟨hx, hb, hml, hown, hts⟩ (ctX3_in l D cs ad I G AN AI AL _ (Int32.toInt64 q) 0 1) (va_cwS 3 hts (gi_S gw_591 gw_592 gw_57 gw_593) rfl rfl rfl (by decide +kernel) ⟨Nat.le_of_ble_eq_true rfl, Nat.le_of_ble_eq_true rfl⟩) ⟨g_blind, g_pre hP hK hD hN⟩ rfl rfl hl.1 rfl (lv_room (Nat.le_of_ble_eq_true rfl)) dX3_squares_5 ⟨Nat.zero_le _, Nat.zero_le _⟩) hD hS hA (fun r u H locs hw hP hD hS => ?_)
  obtain ⟨rfl, hw2⟩ := hw
  have hP : va_P D vc (wM cs ad I G AN AI AL) H := hP
  have hD : va_D A (wM cs ad I G AN AI AL) := hD
  have hw2 : r = bz (paM q) := hw2
  subst hw2
  refine lv_if_eq (tgt := 15) hx hb dX3_squares_8 (by decide) (fun h8 => ?_) (fun h8 => ?_)
  · have hpa : ¬ paM q = true := by rw [show paM q = false from bz_1.mp h8]; decide
    refine lv_iconst (v := nI 1) hx hb dX3_squares_15 (by decide) ?_
    refine b_put (own := RX3) (C := RX3) (T := TX3) (N := 23) (ci := 3) (v := .int (nI 1)) hx hb hts usX3 tyX3 tyX3_ok nmX3 hown hK hP hD hS 0 (by decide) rfl rfl 0 (by decide) (hts _ gw_504) rfl rfl rfl (Nat.le_of_ble_eq_true rfl) dX3_squares_16 sM_I0 (fun H locs hP hD hS => ?_)
    refine lv_aload_n hx hb dX3_squares_19 rfl (lv_at hl 0 rfl) ?_
    refine b_get (own := RX3) (C := RX3) (T := TX3) (N := 23) (ci := 3) (v := .int (nI 1)) hx hb hts usX3 hown hK hP 0 (by decide) rfl rfl 0 (by decide) (hts _ gw_504) rfl dX3_squares_20 ?_
    refine lv_if_le (tgt := 28) hx hb dX3_squares_23 (by decide) (fun q => absurd q (by decide)) (fun _ => ?_)
    refine lv_lconst (v := 0) hx hb dX3_squares_26 (by decide) ?_
    exact g_lret hx hb hr hlocks (up1 I 0 1, G, AN, AI, AL) (⟨by unfold squS; rw [if_neg hpa], by unfold squR; rw [if_neg hpa]⟩) hK hP hD hS dX3_squares_27
  · have hpa := bz_t h8
    refine lv_iconst (v := nI 0) hx hb dX3_squares_11 (by decide) ?_
    refine lv_goto (tgt := 16) hx hb dX3_squares_12 (by decide) ?_
    refine b_put (own := RX3) (C := RX3) (T := TX3) (N := 23) (ci := 3) (v := .int (nI 0)) hx hb hts usX3 tyX3 tyX3_ok nmX3 hown hK hP hD hS 0 (by decide) rfl rfl 0 (by decide) (hts _ gw_504) rfl rfl rfl (Nat.le_of_ble_eq_true rfl) dX3_squares_16 sM_I0 (fun H locs hP hD hS => ?_)
    refine lv_aload_n hx hb dX3_squares_19 rfl (lv_at hl 0 rfl) ?_
    refine b_get (own := RX3) (C := RX3) (T := TX3) (N := 23) (ci := 3) (v := .int (nI 0)) hx hb hts usX3 hown hK hP 0 (by decide) rfl rfl 0 (by decide) (hts _ gw_504) rfl dX3_squares_20 ?_
    refine lv_if_le (tgt := 28) hx hb dX3_squares_23 (by decide) (fun _ => ?_) (fun q => absurd (by decide) q)
    refine lv_aload_n hx hb dX3_squares_28 rfl (lv_at hl 0 rfl) ?_
    refine g_callv (va_runV (As := []) (rest := []) ⟨hx, hb, hml, hown, hts⟩ (ctX3_findNearest l D cs ad (up1 I 0 0) G AN AI AL _ (show I 1 ≤ 3 from h1) (show I 2 ≤ 3 from h2) hok) (cwV 0 hts (gi_V gw_727 gw_729 gw_49 gw_57 gw_730) rfl rfl rfl (by decide +kernel) ⟨Nat.le_of_ble_eq_true rfl, Nat.le_of_ble_eq_true rfl⟩) ⟨g_blind, va_recv hK hP (ci := 3) (q0 := 0) rfl (wm_at (by decide) rfl), g_pre hP hK hD hN⟩ rfl rfl hl.1 rfl (lv_room (Nat.le_of_ble_eq_true rfl)) dX3_squares_29 ⟨Nat.zero_le _, Nat.zero_le _⟩) hD hS hA (fun u H locs hw hP hD hS => ?_)
    obtain rfl := hw
    have hP : va_P D vc (wM cs ad (up1 (up1 I 0 0) 3 (lkF (I 1) (I 2) AI AN AL).1) (up1 (up1 G 3 (nrF (I 1) (I 2) AI AN AL).1) 0 (nrF (I 1) (I 2) AI AN AL).1) ((lkF (I 1) (I 2) AI AN AL).2.1) AI ((nrF (I 1) (I 2) AI AN AL).2)) H := hP
    have hD : va_D A (wM cs ad (up1 (up1 I 0 0) 3 (lkF (I 1) (I 2) AI AN AL).1) (up1 (up1 G 3 (nrF (I 1) (I 2) AI AN AL).1) 0 (nrF (I 1) (I 2) AI AN AL).1) ((lkF (I 1) (I 2) AI AN AL).2.1) AI ((nrF (I 1) (I 2) AI AN AL).2)) := hD
    refine lv_lconst (v := 0) hx hb dX3_squares_32 (by decide) ?_
    refine lv_lstore_n (lv' := [(2, .long 0), (0, .ref (ad 0)), (1, .int q)]) hx hb dX3_squares_33 rfl hl (by decide) rfl (fun ls hl => ?_)
    refine lv_iconst (v := nI 0) hx hb dX3_squares_34 (by decide) ?_
    refine lv_istore (lv' := [(4, .int (nI 0)), (2, .long 0), (0, .ref (ad 0)), (1, .int q)]) hx hb dX3_squares_35 hl (by decide) rfl (fun ls hl => ?_)
    have lp37 : ∀ (Q : State → Prop) (n g9 : Nat) (z : Int64) (H : Heap) (locs : List Loc) (ls : Array Slot), g9 + n = I 2 → va_P D vc (wM cs ad (up1 (up1 I 0 0) 3 (lkF (I 1) (I 2) AI AN AL).1) (up1 (up1 G 3 (nrF (I 1) (I 2) AI AN AL).1) 0 (nrF (I 1) (I 2) AI AN AL).1) ((lkF (I 1) (I 2) AI AN AL).2.1) AI ((nrF (I 1) (I 2) AI AN AL).2)) H → va_D A (wM cs ad (up1 (up1 I 0 0) 3 (lkF (I 1) (I 2) AI AN AL).1) (up1 (up1 G 3 (nrF (I 1) (I 2) AI AN AL).1) 0 (nrF (I 1) (I 2) AI AN AL).1) ((lkF (I 1) (I 2) AI AN AL).2.1) AI ((nrF (I 1) (I 2) AI AN AL).2)) → va_S A s.heap H locs → lv_has ls 8 [(4, .int (nI g9)), (2, .long z), (0, .ref (ad 0)), (1, .int q)] → (∀ (H : Heap) (locs : List Loc) (ls : Array Slot), va_P D vc (wM cs ad (up1 (up1 I 0 0) 3 (lkF (I 1) (I 2) AI AN AL).1) (up1 (up1 G 3 (nrF (I 1) (I 2) AI AN AL).1) 0 (nrF (I 1) (I 2) AI AN AL).1) ((lkF (I 1) (I 2) AI AN AL).2.1) AI ((nrF (I 1) (I 2) AI AN AL).2)) H → va_D A (wM cs ad (up1 (up1 I 0 0) 3 (lkF (I 1) (I 2) AI AN AL).1) (up1 (up1 G 3 (nrF (I 1) (I 2) AI AN AL).1) 0 (nrF (I 1) (I 2) AI AN AL).1) ((lkF (I 1) (I 2) AI AN AL).2.1) AI ((nrF (I 1) (I 2) AI AN AL).2)) → va_S A s.heap H locs → lv_has ls 8 [(4, .int (nI (I 2))), (2, .long (fo (fun g z => fo (fun u z => z - Int32.toInt64 (AI (4 * g + 3)) * Int32.toInt64 (AI (4 * g + u)) * (nrF (I 1) (I 2) AI AN AL).2 13 u) (I 1) 0 (z + Int32.toInt64 (AI (4 * g + 3)) * Int32.toInt64 (AI (4 * g + 3)) * (nrF (I 1) (I 2) AI AN AL).1)) n g9 z)), (0, .ref (ad 0)), (1, .int q)] → W p l e rmX3_squares s m args below meth c H locs 0 0 Q (F0 m 124 ls [])) → W p l e rmX3_squares s m args below meth c H locs 0 0 Q (F0 m 37 ls []) := by
      intro Q n
      induction n with
      | zero =>
        intro g9 z H locs ls hn hP hD hS hl kx
        have hi : g9 = I 2 := by omega
        refine lv_iload hx hb dX3_squares_37 (lv_at hl 0 rfl) ?_
        refine lv_aload_n hx hb dX3_squares_39 rfl (lv_at hl 2 rfl) ?_
        refine b_get (own := RX3) (C := RX3) (T := TX3) (N := 23) (ci := 3) (v := .int (nI (I 2))) hx hb hts usX3 hown hK hP 0 (by decide) rfl rfl 2 (by decide) (hts _ gw_506) rfl dX3_squares_40 ?_
        refine b_ge_t (tgt := 124) hx hb dX3_squares_43 (by decide) (by omega) (by omega) ?_
        rw [hi] at hl
        exact kx H locs ls hP hD hS (lv_sub hl [0, 1, 2, 3] rfl)
      | succ n ih =>
        intro g9 z H locs ls hn hP hD hS hl kx
        have hi : g9 < I 2 := by omega
        refine lv_iload hx hb dX3_squares_37 (lv_at hl 0 rfl) ?_
        refine lv_aload_n hx hb dX3_squares_39 rfl (lv_at hl 2 rfl) ?_
        refine b_get (own := RX3) (C := RX3) (T := TX3) (N := 23) (ci := 3) (v := .int (nI (I 2))) hx hb hts usX3 hown hK hP 0 (by decide) rfl rfl 2 (by decide) (hts _ gw_506) rfl dX3_squares_40 ?_
        refine b_ge_f (tgt := 124) hx hb dX3_squares_43 (by decide) (by omega) (by omega) ?_
        refine lv_aload_n hx hb dX3_squares_46 rfl (lv_at hl 2 rfl) ?_
        refine b_get (own := RX3) (C := RX3) (T := TX3) (N := 23) (ci := 3) (v := .ref (ad 1)) hx hb hts usX3 hown hK hP 0 (by decide) rfl rfl 3 (by decide) (hts _ gw_507) rfl dX3_squares_47 ?_
        refine lv_iconst (v := nI 4) hx hb dX3_squares_50 (by decide) ?_
        refine lv_iload hx hb dX3_squares_51 (lv_at hl 0 rfl) ?_
        refine b_muln hx hb dX3_squares_53 ?_
        refine lv_iconst (v := nI 3) hx hb dX3_squares_54 (by decide) ?_
        refine b_addn hx hb dX3_squares_55 ?_
        refine b_iald hx hb hK hP 1 0 (by decide) rfl rfl (by omega) (by decide) dX3_squares_56 ?_
        refine lv_i2l (v := Int32.toInt64 (AI ((4 * g9) + 3))) hx hb dX3_squares_57 rfl ?_
        refine lv_lstore (lv' := [(5, .long (Int32.toInt64 (AI ((4 * g9) + 3)))), (4, .int (nI g9)), (2, .long z), (0, .ref (ad 0)), (1, .int q)]) hx hb dX3_squares_58 hl (by decide) rfl (fun ls hl => ?_)
        refine lv_lload_n hx hb dX3_squares_60 rfl (lv_at hl 2 rfl) ?_
        refine lv_lload hx hb dX3_squares_61 (lv_at hl 0 rfl) ?_
        refine lv_lload hx hb dX3_squares_63 (lv_at hl 0 rfl) ?_
        refine lv_lmul hx hb dX3_squares_65 ?_
        refine lv_aload_n hx hb dX3_squares_66 rfl (lv_at hl 3 rfl) ?_
        refine b_get (own := RX3) (C := RX3) (T := TX3) (N := 23) (ci := 3) (v := .long ((nrF (I 1) (I 2) AI AN AL).1)) hx hb hts usX3 hown hK hP 0 (by decide) rfl rfl 21 (by decide) (hts _ gw_525) rfl dX3_squares_67 ?_
        refine lv_lmul hx hb dX3_squares_70 ?_
        refine lv_ladd hx hb dX3_squares_71 ?_
        refine lv_lstore_n (lv' := [(2, .long (z + (((Int32.toInt64 (AI ((4 * g9) + 3))) * (Int32.toInt64 (AI ((4 * g9) + 3)))) * ((nrF (I 1) (I 2) AI AN AL).1)))), (5, .long (Int32.toInt64 (AI ((4 * g9) + 3)))), (4, .int (nI g9)), (0, .ref (ad 0)), (1, .int q)]) hx hb dX3_squares_72 rfl hl (by decide) rfl (fun ls hl => ?_)
        refine lv_iconst (v := nI 0) hx hb dX3_squares_73 (by decide) ?_
        refine lv_istore (lv' := [(7, .int (nI 0)), (2, .long (z + (((Int32.toInt64 (AI ((4 * g9) + 3))) * (Int32.toInt64 (AI ((4 * g9) + 3)))) * ((nrF (I 1) (I 2) AI AN AL).1)))), (5, .long (Int32.toInt64 (AI ((4 * g9) + 3)))), (4, .int (nI g9)), (0, .ref (ad 0)), (1, .int q)]) hx hb dX3_squares_74 hl (by decide) rfl (fun ls hl => ?_)
        have lp76 : ∀ (Q : State → Prop) (n u9 : Nat) (y : Int64) (H : Heap) (locs : List Loc) (ls : Array Slot), u9 + n = I 1 → va_P D vc (wM cs ad (up1 (up1 I 0 0) 3 (lkF (I 1) (I 2) AI AN AL).1) (up1 (up1 G 3 (nrF (I 1) (I 2) AI AN AL).1) 0 (nrF (I 1) (I 2) AI AN AL).1) ((lkF (I 1) (I 2) AI AN AL).2.1) AI ((nrF (I 1) (I 2) AI AN AL).2)) H → va_D A (wM cs ad (up1 (up1 I 0 0) 3 (lkF (I 1) (I 2) AI AN AL).1) (up1 (up1 G 3 (nrF (I 1) (I 2) AI AN AL).1) 0 (nrF (I 1) (I 2) AI AN AL).1) ((lkF (I 1) (I 2) AI AN AL).2.1) AI ((nrF (I 1) (I 2) AI AN AL).2)) → va_S A s.heap H locs → lv_has ls 8 [(7, .int (nI u9)), (2, .long y), (5, .long (Int32.toInt64 (AI ((4 * g9) + 3)))), (4, .int (nI g9)), (0, .ref (ad 0)), (1, .int q)] → (∀ (H : Heap) (locs : List Loc) (ls : Array Slot), va_P D vc (wM cs ad (up1 (up1 I 0 0) 3 (lkF (I 1) (I 2) AI AN AL).1) (up1 (up1 G 3 (nrF (I 1) (I 2) AI AN AL).1) 0 (nrF (I 1) (I 2) AI AN AL).1) ((lkF (I 1) (I 2) AI AN AL).2.1) AI ((nrF (I 1) (I 2) AI AN AL).2)) H → va_D A (wM cs ad (up1 (up1 I 0 0) 3 (lkF (I 1) (I 2) AI AN AL).1) (up1 (up1 G 3 (nrF (I 1) (I 2) AI AN AL).1) 0 (nrF (I 1) (I 2) AI AN AL).1) ((lkF (I 1) (I 2) AI AN AL).2.1) AI ((nrF (I 1) (I 2) AI AN AL).2)) → va_S A s.heap H locs → lv_has ls 8 [(7, .int (nI (I 1))), (2, .long (fo (fun u z => z - Int32.toInt64 (AI (4 * g9 + 3)) * Int32.toInt64 (AI (4 * g9 + u)) * (nrF (I 1) (I 2) AI AN AL).2 13 u) n u9 y)), (5, .long (Int32.toInt64 (AI ((4 * g9) + 3)))), (4, .int (nI g9)), (0, .ref (ad 0)), (1, .int q)] → W p l e rmX3_squares s m args below meth c H locs 0 0 Q (F0 m 118 ls [])) → W p l e rmX3_squares s m args below meth c H locs 0 0 Q (F0 m 76 ls []) := by
          intro Q n
          induction n with
          | zero =>
            intro u9 y H locs ls hn hP hD hS hl kx
            have hi : u9 = I 1 := by omega
            refine lv_iload hx hb dX3_squares_76 (lv_at hl 0 rfl) ?_
            refine lv_aload_n hx hb dX3_squares_78 rfl (lv_at hl 4 rfl) ?_
            refine b_get (own := RX3) (C := RX3) (T := TX3) (N := 23) (ci := 3) (v := .int (nI (I 1))) hx hb hts usX3 hown hK hP 0 (by decide) rfl rfl 1 (by decide) (hts _ gw_505) rfl dX3_squares_79 ?_
            refine b_ge_t (tgt := 118) hx hb dX3_squares_82 (by decide) (by omega) (by omega) ?_
            rw [hi] at hl
            exact kx H locs ls hP hD hS (lv_sub hl [0, 1, 2, 3, 4, 5] rfl)
          | succ n ih =>
            intro u9 y H locs ls hn hP hD hS hl kx
            have hi : u9 < I 1 := by omega
            refine lv_iload hx hb dX3_squares_76 (lv_at hl 0 rfl) ?_
            refine lv_aload_n hx hb dX3_squares_78 rfl (lv_at hl 4 rfl) ?_
            refine b_get (own := RX3) (C := RX3) (T := TX3) (N := 23) (ci := 3) (v := .int (nI (I 1))) hx hb hts usX3 hown hK hP 0 (by decide) rfl rfl 1 (by decide) (hts _ gw_505) rfl dX3_squares_79 ?_
            refine b_ge_f (tgt := 118) hx hb dX3_squares_82 (by decide) (by omega) (by omega) ?_
            refine lv_lload_n hx hb dX3_squares_85 rfl (lv_at hl 1 rfl) ?_
            refine lv_lload hx hb dX3_squares_86 (lv_at hl 2 rfl) ?_
            refine lv_aload_n hx hb dX3_squares_88 rfl (lv_at hl 4 rfl) ?_
            refine b_get (own := RX3) (C := RX3) (T := TX3) (N := 23) (ci := 3) (v := .ref (ad 1)) hx hb hts usX3 hown hK hP 0 (by decide) rfl rfl 3 (by decide) (hts _ gw_507) rfl dX3_squares_89 ?_
            refine lv_iconst (v := nI 4) hx hb dX3_squares_92 (by decide) ?_
            refine lv_iload hx hb dX3_squares_93 (lv_at hl 3 rfl) ?_
            refine b_muln hx hb dX3_squares_95 ?_
            refine lv_iload hx hb dX3_squares_96 (lv_at hl 0 rfl) ?_
            refine b_addn hx hb dX3_squares_98 ?_
            refine b_iald hx hb hK hP 1 0 (by decide) rfl rfl (by omega) (by decide) dX3_squares_99 ?_
            refine lv_i2l (v := Int32.toInt64 (AI ((4 * g9) + u9))) hx hb dX3_squares_100 rfl ?_
            refine lv_lmul hx hb dX3_squares_101 ?_
            refine lv_aload_n hx hb dX3_squares_102 rfl (lv_at hl 4 rfl) ?_
            refine b_get (own := RX3) (C := RX3) (T := TX3) (N := 23) (ci := 3) (v := .ref (ad 13)) hx hb hts usX3 hown hK hP 0 (by decide) rfl rfl 20 (by decide) (hts _ gw_524) rfl dX3_squares_103 ?_
            refine lv_iload hx hb dX3_squares_106 (lv_at hl 0 rfl) ?_
            refine b_lald hx hb hK hP 13 1 (by decide) rfl rfl (by omega) (by decide) dX3_squares_108 ?_
            refine lv_lmul hx hb dX3_squares_109 ?_
            refine lv_lsub hx hb dX3_squares_110 ?_
            refine lv_lstore_n (lv' := [(2, .long (y - (((Int32.toInt64 (AI ((4 * g9) + 3))) * (Int32.toInt64 (AI ((4 * g9) + u9)))) * (((nrF (I 1) (I 2) AI AN AL).2) 13 u9)))), (7, .int (nI u9)), (5, .long (Int32.toInt64 (AI ((4 * g9) + 3)))), (4, .int (nI g9)), (0, .ref (ad 0)), (1, .int q)]) hx hb dX3_squares_111 rfl hl (by decide) rfl (fun ls hl => ?_)
            refine b_iinc (lv' := [(7, .int (nI (u9 + 1))), (2, .long (y - (((Int32.toInt64 (AI ((4 * g9) + 3))) * (Int32.toInt64 (AI ((4 * g9) + u9)))) * (((nrF (I 1) (I 2) AI AN AL).2) 13 u9)))), (5, .long (Int32.toInt64 (AI ((4 * g9) + 3)))), (4, .int (nI g9)), (0, .ref (ad 0)), (1, .int q)]) hx hb dX3_squares_112 hl (k := 1) rfl (by decide) rfl (fun ls hl => ?_)
            refine lv_goto (tgt := 76) hx hb dX3_squares_115 (by decide) ?_
            exact ih (u9 + 1) _ H locs ls (by omega) hP hD hS (lv_sub hl [0, 1, 2, 3, 4, 5] rfl) kx
        refine lp76 _ (I 1) 0 (z + (((Int32.toInt64 (AI ((4 * g9) + 3))) * (Int32.toInt64 (AI ((4 * g9) + 3)))) * ((nrF (I 1) (I 2) AI AN AL).1))) _ _ ls (by omega) hP hD hS (lv_sub hl [0, 1, 2, 3, 4, 5] rfl) (fun H locs ls hP hD hS hl => ?_)
        refine b_iinc (lv' := [(4, .int (nI (g9 + 1))), (7, .int (nI (I 1))), (2, .long (fo (fun u z => z - Int32.toInt64 (AI (4 * g9 + 3)) * Int32.toInt64 (AI (4 * g9 + u)) * (nrF (I 1) (I 2) AI AN AL).2 13 u) (I 1) 0 (z + (((Int32.toInt64 (AI ((4 * g9) + 3))) * (Int32.toInt64 (AI ((4 * g9) + 3)))) * ((nrF (I 1) (I 2) AI AN AL).1))))), (5, .long (Int32.toInt64 (AI ((4 * g9) + 3)))), (0, .ref (ad 0)), (1, .int q)]) hx hb dX3_squares_118 hl (k := 3) rfl (by decide) rfl (fun ls hl => ?_)
        refine lv_goto (tgt := 37) hx hb dX3_squares_121 (by decide) ?_
        exact ih (g9 + 1) _ H locs ls (by omega) hP hD hS (lv_sub hl [0, 2, 4, 5] rfl) kx
    refine lp37 _ (I 2) 0 0 _ _ ls (by omega) hP hD hS (lv_sub hl [0, 1, 2, 3] rfl) (fun H locs ls hP hD hS hl => ?_)
    have hl : lv_has ls 8 [(4, .int (nI (I 2))), (2, .long (squV (I 1) (I 2) AI AN AL)), (0, .ref (ad 0)), (1, .int q)] := hl
    refine lv_aload_n hx hb dX3_squares_124 rfl (lv_at hl 2 rfl) ?_
    refine lv_lload_n hx hb dX3_squares_125 rfl (lv_at hl 1 rfl) ?_
    refine lv_aload_n hx hb dX3_squares_126 rfl (lv_at hl 2 rfl) ?_
    refine b_get (own := RX3) (C := RX3) (T := TX3) (N := 23) (ci := 3) (v := .long ((nrF (I 1) (I 2) AI AN AL).1)) hx hb hts usX3 hown hK hP 0 (by decide) rfl rfl 21 (by decide) (hts _ gw_525) rfl dX3_squares_127 ?_
    refine g_callv (va_runV (As := [.long (squV (I 1) (I 2) AI AN AL), .long ((nrF (I 1) (I 2) AI AN AL).1)]) (rest := []) ⟨hx, hb, hml, hown, hts⟩ (ctX3_lowest l D cs ad (up1 (up1 I 0 0) 3 (lkF (I 1) (I 2) AI AN AL).1) (up1 (up1 G 3 (nrF (I 1) (I 2) AI AN AL).1) 0 (nrF (I 1) (I 2) AI AN AL).1) ((lkF (I 1) (I 2) AI AN AL).2.1) AI ((nrF (I 1) (I 2) AI AN AL).2) _ (squV (I 1) (I 2) AI AN AL) (nrF (I 1) (I 2) AI AN AL).1 hlo) (cwV 2 hts (gi_V gw_668 gw_670 gw_40 gw_57 gw_671) rfl rfl rfl (by decide +kernel) ⟨Nat.le_of_ble_eq_true rfl, Nat.le_of_ble_eq_true rfl⟩) ⟨g_blind, va_recv hK hP (ci := 3) (q0 := 0) rfl (wm_at (by decide) rfl), g_pre hP hK hD hN⟩ rfl rfl hl.1 rfl (lv_room (Nat.le_of_ble_eq_true rfl)) dX3_squares_130 ⟨Nat.zero_le _, Nat.zero_le _⟩) hD hS hA (fun u H locs hw hP hD hS => ?_)
    obtain rfl := hw
    have hP : va_P D vc (wM cs ad (up1 (up1 I 0 0) 3 (lkF (I 1) (I 2) AI AN AL).1) (lowG (up1 (up1 G 3 (nrF (I 1) (I 2) AI AN AL).1) 0 (nrF (I 1) (I 2) AI AN AL).1) (squV (I 1) (I 2) AI AN AL) (nrF (I 1) (I 2) AI AN AL).1) ((lkF (I 1) (I 2) AI AN AL).2.1) AI ((nrF (I 1) (I 2) AI AN AL).2)) H := hP
    have hD : va_D A (wM cs ad (up1 (up1 I 0 0) 3 (lkF (I 1) (I 2) AI AN AL).1) (lowG (up1 (up1 G 3 (nrF (I 1) (I 2) AI AN AL).1) 0 (nrF (I 1) (I 2) AI AN AL).1) (squV (I 1) (I 2) AI AN AL) (nrF (I 1) (I 2) AI AN AL).1) ((lkF (I 1) (I 2) AI AN AL).2.1) AI ((nrF (I 1) (I 2) AI AN AL).2)) := hD
    refine lv_aload_n hx hb dX3_squares_133 rfl (lv_at hl 2 rfl) ?_
    refine lv_iload_n hx hb dX3_squares_134 rfl (lv_at hl 3 rfl) ?_
    refine g_calll (va_runV (As := [.int q]) (rest := []) ⟨hx, hb, hml, hown, hts⟩ (ctX3_told l D cs ad (up1 (up1 I 0 0) 3 (lkF (I 1) (I 2) AI AN AL).1) (lowG (up1 (up1 G 3 (nrF (I 1) (I 2) AI AN AL).1) 0 (nrF (I 1) (I 2) AI AN AL).1) (squV (I 1) (I 2) AI AN AL) (nrF (I 1) (I 2) AI AN AL).1) ((lkF (I 1) (I 2) AI AN AL).2.1) AI ((nrF (I 1) (I 2) AI AN AL).2) _ q) (cwV 1 hts (gi_V gw_675 gw_677 gw_41 gw_57 gw_678) rfl rfl rfl (by decide +kernel) ⟨Nat.le_of_ble_eq_true rfl, Nat.le_of_ble_eq_true rfl⟩) ⟨g_blind, va_recv hK hP (ci := 3) (q0 := 0) rfl (wm_at (by decide) rfl), g_pre hP hK hD hN⟩ rfl rfl hl.1 rfl (lv_room (Nat.le_of_ble_eq_true rfl)) dX3_squares_135 ⟨Nat.zero_le _, Nat.zero_le _⟩) hD hS hA (fun r u H locs hw hP hD hS => ?_)
    obtain ⟨rfl, rfl⟩ := hw
    have hP : va_P D vc (wM cs ad (up1 (up1 I 0 0) 3 (lkF (I 1) (I 2) AI AN AL).1) (lowG (up1 (up1 G 3 (nrF (I 1) (I 2) AI AN AL).1) 0 (nrF (I 1) (I 2) AI AN AL).1) (squV (I 1) (I 2) AI AN AL) (nrF (I 1) (I 2) AI AN AL).1) ((lkF (I 1) (I 2) AI AN AL).2.1) AI ((nrF (I 1) (I 2) AI AN AL).2)) H := hP
    have hD : va_D A (wM cs ad (up1 (up1 I 0 0) 3 (lkF (I 1) (I 2) AI AN AL).1) (lowG (up1 (up1 G 3 (nrF (I 1) (I 2) AI AN AL).1) 0 (nrF (I 1) (I 2) AI AN AL).1) (squV (I 1) (I 2) AI AN AL) (nrF (I 1) (I 2) AI AN AL).1) ((lkF (I 1) (I 2) AI AN AL).2.1) AI ((nrF (I 1) (I 2) AI AN AL).2)) := hD
    have e8 : squS I G AN AI AL q = (up1 (up1 I 0 0) 3 (lkF (I 1) (I 2) AI AN AL).1, lowG (up1 (up1 G 3 (nrF (I 1) (I 2) AI AN AL).1) 0 (nrF (I 1) (I 2) AI AN AL).1) (squV (I 1) (I 2) AI AN AL) (nrF (I 1) (I 2) AI AN AL).1, (lkF (I 1) (I 2) AI AN AL).2.1, AI, (nrF (I 1) (I 2) AI AN AL).2) := by unfold squS; rw [if_pos hpa]
    have e7 : squR I G AN AI AL q = (if q = 0 then (squS I G AN AI AL q).2.1 1 else (squS I G AN AI AL q).2.1 2) := if_pos hpa
    exact g_lret hx hb hr hlocks (up1 (up1 I 0 0) 3 (lkF (I 1) (I 2) AI AN AL).1, lowG (up1 (up1 G 3 (nrF (I 1) (I 2) AI AN AL).1) 0 (nrF (I 1) (I 2) AI AN AL).1) (squV (I 1) (I 2) AI AN AL) (nrF (I 1) (I 2) AI AN AL).1, (lkF (I 1) (I 2) AI AN AL).2.1, AI, (nrF (I 1) (I 2) AI AN AL).2) (⟨e8.symm, by rw [e7, e8]⟩) hK hP hD hS dX3_squares_138
