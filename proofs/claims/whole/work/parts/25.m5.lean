def plnS (I : Nat → Nat) (G : Nat → Int64) (AN : Nat → Nat → Nat) (AI : Nat → Int32) (AL : Nat → Nat → Int64) (u q : Int32) : MS :=
  if unM I u then
    if plok (I 1) (I 2) AI AN AL then
      (up1 (up1 I 3 (lkF (I 1) (I 2) AI AN AL).1) 0 (if paM q then 0 else 3), takG (lkF (I 1) (I 2) AI AN AL).1 (lkF (I 1) (I 2) AI AN AL).2.1 (plAL (I 1) (I 2) AI AN AL) u.toNatClampNeg (up1 G 0 (plall (I 1) (I 2) AI AN AL)), (lkF (I 1) (I 2) AI AN AL).2.1, AI, plAL (I 1) (I 2) AI AN AL)
    else (up1 (up1 I 3 (lkF (I 1) (I 2) AI AN AL).1) 0 2, up1 G 0 (plall (I 1) (I 2) AI AN AL), (lkF (I 1) (I 2) AI AN AL).2.1, AI, plAL (I 1) (I 2) AI AN AL)
  else (up1 I 0 1, G, AN, AI, AL)
def plnR (I : Nat → Nat) (G : Nat → Int64) (AN : Nat → Nat → Nat) (AI : Nat → Int32) (AL : Nat → Nat → Int64) (u q : Int32) : Int64 :=
  if unM I u ∧ plok (I 1) (I 2) AI AN AL ∧ paM q then (if q = 0 then (plnS I G AN AI AL u q).2.1 1 else (plnS I G AN AI AL u q).2.1 2) else 0
theorem i0 : Int32.toInt64 (nI 0) = 0 := by decide

abbrev rmX3_plain : Room := { frames := 4, cells := 0, slots := 0, locals := 92 }
set_option maxHeartbeats 4000000 in
set_option maxRecDepth 100000 in
theorem ctX3_plain (l : Launch) (D : va_G) (cs : Nat → ClassId) (ad : Nat → Nat) (I : Nat → Nat) (G : Nat → Int64) (AN : Nat → Nat → Nat) (AI : Nat → Int32) (AL : Nat → Nat → Int64) (sz : Nat) (u q : Int32) (h1 : I 1 ≤ 3) (h2 : I 2 ≤ 3) (hok : okA AN) (hlo : ∀ c, c < (lkF (I 1) (I 2) AI AN AL).1 → okLow (plAL (I 1) (I 2) AI AN AL 7 c) (plall (I 1) (I 2) AI AN AL)) : Met l yX3_plain (Cond.code yX3_plain cX3_plain 3 (some FieldType.long) :: GW) rmX3_plain (va_Pc [.ref (ad 0), .int u, .int q] (gP D cs (wM cs ad I G AN AI AL) sz)) (va_Ql (fun (r : Int64) (v : MS) => v = plnS I G AN AI AL u q ∧ r = plnR I G AN AI AL u q) (gB D cs (va_A (wM cs ad I G AN AI AL) sz) (wMs cs ad)) (va_A (wM cs ad I G AN AI AL) sz)) 0 0 (va_A (wM cs ad I G AN AI AL) sz) := by
  refine Met.ofW (cc := cX3_plain) (maxL := 3) (ret := (some FieldType.long)) (by decide) rfl ?_
  intro p e s m args below meth c s₁ B hml hv
  obtain ⟨rfl, hsz, hP, hK, hD0, hN⟩ := hv
  have hx := B.exec
  have hb := B.bytes
  have hr := B.returns
  have hts : ∀ w ∈ GW, w.before _ s = true := fun w h => atoms_spec (ws := Cond.code yX3_plain cX3_plain 3 (some FieldType.long) :: GW) B.pre w (List.mem_cons_of_mem _ h)
  have hown : s.vm.findClass RX3 = some m.cls := findClass_of_methodNamed B.named
  have hlocks := B.notSynchronized
  subst hsz
  have hD := hD0.self (sz := s.heap.size)
  generalize hAe : va_A (wM cs ad I G AN AI AL) s.heap.size = A at hD ⊢
  have hA : ∀ q : Nat, s.heap.size ≤ q → A q := fun q h => by rw [← hAe]; exact Or.inr h
  have hS : va_S A s.heap s.heap [] := va_S.rf
  have hl := lv_entry [.ref (ad 0), .int u, .int q] (n := 3) (Nat.le_of_ble_eq_true rfl)
  rw [lg_entry_eq]
  generalize (lg_sl [.ref (ad 0), .int u, .int q] ++ List.replicate (3 - (lg_sl [.ref (ad 0), .int u, .int q]).length) Slot.unset).toArray = ls at hl ⊢
  have hl : lv_has ls 3 [(0, .ref (ad 0)), (1, .int u), (2, .int q)] := hl
  generalize hargs : ([.ref (ad 0), .int u, .int q] : List Value).toArray = args at *
  show W p l e rmX3_plain s m args below meth c s.heap [] 0 0 _ (F0 m 0 ls [])
  refine lv_aload_n hx hb dX3_plain_0 rfl (lv_at hl 0 rfl) ?_
  refine lv_iload_n hx hb dX3_plain_1 rfl (lv_at hl 1 rfl) ?_
  refine g_calli (va_runV (As := [.int u]) (rest := []) ⟨hx, hb, hml, hown, hts⟩ (ctX3_isUnknown l D cs ad I G AN AI AL _ u) (cwV 1 hts (gi_V gw_656 gw_658 gw_37 gw_57 gw_659) rfl rfl rfl (by decide +kernel) ⟨Nat.le_of_ble_eq_true rfl, Nat.le_of_ble_eq_true rfl⟩) ⟨g_blind, va_recv hK hP (ci := 3) (q0 := 0) rfl (wm_at (by decide) rfl), g_pre hP hK hD hN⟩ rfl rfl hl.1 rfl (lv_room (Nat.le_of_ble_eq_true rfl)) dX3_plain_2 ⟨Nat.zero_le _, Nat.zero_le _⟩) hD hS hA (fun r u H locs hw hP hD hS => ?_)
  obtain ⟨rfl, hw2⟩ := hw
  have hP : va_P D vc (wM cs ad I G AN AI AL) H := hP
  have hD : va_D A (wM cs ad I G AN AI AL) := hD
  have hw2 : r = bz (unM I u) := hw2
  subst hw2
  refine lv_if_ne (tgt := 15) hx hb dX3_plain_5 (by decide) (fun h => ?_) (fun h => ?_)
  · have hun := bz_t h
    obtain ⟨u', rfl, hu⟩ := unM_spec h1 hun
    refine lv_aload_n hx hb dX3_plain_15 rfl (lv_at hl 0 rfl) ?_
    refine g_calli (va_runV (As := []) (rest := []) ⟨hx, hb, hml, hown, hts⟩ (ctX3_findPlain l D cs ad I G AN AI AL _ h1 h2 hok) (cwV 0 hts (gi_V gw_632 gw_634 gw_33 gw_57 gw_635) rfl rfl rfl (by decide +kernel) ⟨Nat.le_of_ble_eq_true rfl, Nat.le_of_ble_eq_true rfl⟩) ⟨g_blind, va_recv hK hP (ci := 3) (q0 := 0) rfl (wm_at (by decide) rfl), g_pre hP hK hD hN⟩ rfl rfl hl.1 rfl (lv_room (Nat.le_of_ble_eq_true rfl)) dX3_plain_16 ⟨Nat.zero_le _, Nat.zero_le _⟩) hD hS hA (fun r u H locs hw hP hD hS => ?_)
    obtain ⟨rfl, hw2⟩ := hw
    have hP : va_P D vc (wM cs ad (up1 I 3 (lkF (I 1) (I 2) AI AN AL).1) (up1 G 0 (plall (I 1) (I 2) AI AN AL)) ((lkF (I 1) (I 2) AI AN AL).2.1) AI (plAL (I 1) (I 2) AI AN AL)) H := hP
    have hD : va_D A (wM cs ad (up1 I 3 (lkF (I 1) (I 2) AI AN AL).1) (up1 G 0 (plall (I 1) (I 2) AI AN AL)) ((lkF (I 1) (I 2) AI AN AL).2.1) AI (plAL (I 1) (I 2) AI AN AL)) := hD
    have hw2 : r = bz (plok (I 1) (I 2) AI AN AL) := hw2
    subst hw2
    have hL := lk_ok (AI := AI) (AL := AL) h1 h2 hok
    have hL1 : (lkF (I 1) (I 2) AI AN AL).1 ≤ 3 := Nat.le_trans hL.2.1 h1
    have hL2 := hL.2.1
    have hL3 : okA (lkF (I 1) (I 2) AI AN AL).2.1 := hL.2.2
    refine lv_if_ne (tgt := 29) hx hb dX3_plain_19 (by decide) (fun h9 => ?_) (fun h9 => ?_)
    · have hpo := bz_t h9
      refine lv_aload_n hx hb dX3_plain_29 rfl (lv_at hl 0 rfl) ?_
      refine lv_iload_n hx hb dX3_plain_30 rfl (lv_at hl 2 rfl) ?_
      refine lv_i2l (v := Int32.toInt64 q) hx hb dX3_plain_31 rfl ?_
      refine lv_lconst (v := 0) hx hb dX3_plain_32 (by decide) ?_
      refine lv_lconst (v := 1) hx hb dX3_plain_33 (by decide) ?_
      refine g_calli (va_runS (As := [.long (Int32.toInt64 q), .long 0, .long 1]) (rest := [.ref (ad 0)]) ⟨hx, hb, hml, hown, hts⟩ (ctX3_in l D cs ad (up1 I 3 (lkF (I 1) (I 2) AI AN AL).1) (up1 G 0 (plall (I 1) (I 2) AI AN AL)) ((lkF (I 1) (I 2) AI AN AL).2.1) AI (plAL (I 1) (I 2) AI AN AL) _ (Int32.toInt64 q) 0 1) (va_cwS 3 hts (gi_S gw_591 gw_592 gw_57 gw_593) rfl rfl rfl (by decide +kernel) ⟨Nat.le_of_ble_eq_true rfl, Nat.le_of_ble_eq_true rfl⟩) ⟨g_blind, g_pre hP hK hD hN⟩ rfl rfl hl.1 rfl (lv_room (Nat.le_of_ble_eq_true rfl)) dX3_plain_34 ⟨Nat.zero_le _, Nat.zero_le _⟩) hD hS hA (fun r u H locs hw hP hD hS => ?_)
      obtain ⟨rfl, hw2⟩ := hw
      have hP : va_P D vc (wM cs ad (up1 I 3 (lkF (I 1) (I 2) AI AN AL).1) (up1 G 0 (plall (I 1) (I 2) AI AN AL)) ((lkF (I 1) (I 2) AI AN AL).2.1) AI (plAL (I 1) (I 2) AI AN AL)) H := hP
      have hD : va_D A (wM cs ad (up1 I 3 (lkF (I 1) (I 2) AI AN AL).1) (up1 G 0 (plall (I 1) (I 2) AI AN AL)) ((lkF (I 1) (I 2) AI AN AL).2.1) AI (plAL (I 1) (I 2) AI AN AL)) := hD
      have hw2 : r = bz (paM q) := hw2
      subst hw2
      refine lv_if_eq (tgt := 44) hx hb dX3_plain_37 (by decide) (fun h8 => ?_) (fun h8 => ?_)
      · have hpa : paM q = false := bz_1.mp h8
        refine lv_iconst (v := nI 3) hx hb dX3_plain_44 (by decide) ?_
        refine b_put (own := RX3) (C := RX3) (T := TX3) (N := 23) (ci := 3) (v := .int (nI 3)) hx hb hts usX3 tyX3 tyX3_ok nmX3 hown hK hP hD hS 0 (by decide) rfl rfl 0 (by decide) (hts _ gw_504) rfl rfl rfl (Nat.le_of_ble_eq_true rfl) dX3_plain_45 sM_I0 (fun H locs hP hD hS => ?_)
        refine lv_aload_n hx hb dX3_plain_48 rfl (lv_at hl 0 rfl) ?_
        refine lv_iload_n hx hb dX3_plain_49 rfl (lv_at hl 1 rfl) ?_
        refine g_callv (va_runV (As := [.int (nI u')]) (rest := []) ⟨hx, hb, hml, hown, hts⟩ (ctX3_takeAnswer l D cs ad (up1 (up1 I 3 (lkF (I 1) (I 2) AI AN AL).1) 0 3) (up1 G 0 (plall (I 1) (I 2) AI AN AL)) ((lkF (I 1) (I 2) AI AN AL).2.1) AI (plAL (I 1) (I 2) AI AN AL) _ u' hL1 hL3 (by omega) hlo) (cwV 1 hts (gi_V gw_664 gw_666 gw_39 gw_57 gw_667) rfl rfl rfl (by decide +kernel) ⟨Nat.le_of_ble_eq_true rfl, Nat.le_of_ble_eq_true rfl⟩) ⟨g_blind, va_recv hK hP (ci := 3) (q0 := 0) rfl (wm_at (by decide) rfl), g_pre hP hK hD hN⟩ rfl rfl hl.1 rfl (lv_room (Nat.le_of_ble_eq_true rfl)) dX3_plain_50 ⟨Nat.zero_le _, Nat.zero_le _⟩) hD hS hA (fun u H locs hw hP hD hS => ?_)
        obtain rfl := hw
        have hP : va_P D vc (wM cs ad (up1 (up1 I 3 (lkF (I 1) (I 2) AI AN AL).1) 0 3) (takG (lkF (I 1) (I 2) AI AN AL).1 (lkF (I 1) (I 2) AI AN AL).2.1 (plAL (I 1) (I 2) AI AN AL) u' (up1 G 0 (plall (I 1) (I 2) AI AN AL))) ((lkF (I 1) (I 2) AI AN AL).2.1) AI (plAL (I 1) (I 2) AI AN AL)) H := hP
        have hD : va_D A (wM cs ad (up1 (up1 I 3 (lkF (I 1) (I 2) AI AN AL).1) 0 3) (takG (lkF (I 1) (I 2) AI AN AL).1 (lkF (I 1) (I 2) AI AN AL).2.1 (plAL (I 1) (I 2) AI AN AL) u' (up1 G 0 (plall (I 1) (I 2) AI AN AL))) ((lkF (I 1) (I 2) AI AN AL).2.1) AI (plAL (I 1) (I 2) AI AN AL)) := hD
        refine lv_aload_n hx hb dX3_plain_53 rfl (lv_at hl 0 rfl) ?_
        refine b_get (own := RX3) (C := RX3) (T := TX3) (N := 23) (ci := 3) (v := .int (nI 3)) hx hb hts usX3 hown hK hP 0 (by decide) rfl rfl 0 (by decide) (hts _ gw_504) rfl dX3_plain_54 ?_
        refine lv_if_le (tgt := 64) hx hb dX3_plain_57 (by decide) (fun q => absurd q (by decide)) (fun _ => ?_)
        refine lv_lconst (v := 0) hx hb dX3_plain_60 (by decide) ?_
        refine lv_goto (tgt := 69) hx hb dX3_plain_61 (by decide) ?_
        exact g_lret hx hb hr hlocks (up1 (up1 I 3 (lkF (I 1) (I 2) AI AN AL).1) 0 3, takG (lkF (I 1) (I 2) AI AN AL).1 (lkF (I 1) (I 2) AI AN AL).2.1 (plAL (I 1) (I 2) AI AN AL) u' (up1 G 0 (plall (I 1) (I 2) AI AN AL)), (lkF (I 1) (I 2) AI AN AL).2.1, AI, plAL (I 1) (I 2) AI AN AL) (⟨by unfold plnS; rw [if_pos hun, if_pos hpo, nI_cl (show u' < 2 ^ 31 by omega), if_neg (show ¬ paM q = true by rw [hpa]; decide)], by unfold plnR; rw [if_neg (fun z => by rw [hpa] at z; exact absurd z.2.2 (by decide))]⟩) hK hP hD hS dX3_plain_69
      · have hpa := bz_t h8
        refine lv_iconst (v := nI 0) hx hb dX3_plain_40 (by decide) ?_
        refine lv_goto (tgt := 45) hx hb dX3_plain_41 (by decide) ?_
        refine b_put (own := RX3) (C := RX3) (T := TX3) (N := 23) (ci := 3) (v := .int (nI 0)) hx hb hts usX3 tyX3 tyX3_ok nmX3 hown hK hP hD hS 0 (by decide) rfl rfl 0 (by decide) (hts _ gw_504) rfl rfl rfl (Nat.le_of_ble_eq_true rfl) dX3_plain_45 sM_I0 (fun H locs hP hD hS => ?_)
        refine lv_aload_n hx hb dX3_plain_48 rfl (lv_at hl 0 rfl) ?_
        refine lv_iload_n hx hb dX3_plain_49 rfl (lv_at hl 1 rfl) ?_
        refine g_callv (va_runV (As := [.int (nI u')]) (rest := []) ⟨hx, hb, hml, hown, hts⟩ (ctX3_takeAnswer l D cs ad (up1 (up1 I 3 (lkF (I 1) (I 2) AI AN AL).1) 0 0) (up1 G 0 (plall (I 1) (I 2) AI AN AL)) ((lkF (I 1) (I 2) AI AN AL).2.1) AI (plAL (I 1) (I 2) AI AN AL) _ u' hL1 hL3 (by omega) hlo) (cwV 1 hts (gi_V gw_664 gw_666 gw_39 gw_57 gw_667) rfl rfl rfl (by decide +kernel) ⟨Nat.le_of_ble_eq_true rfl, Nat.le_of_ble_eq_true rfl⟩) ⟨g_blind, va_recv hK hP (ci := 3) (q0 := 0) rfl (wm_at (by decide) rfl), g_pre hP hK hD hN⟩ rfl rfl hl.1 rfl (lv_room (Nat.le_of_ble_eq_true rfl)) dX3_plain_50 ⟨Nat.zero_le _, Nat.zero_le _⟩) hD hS hA (fun u H locs hw hP hD hS => ?_)
        obtain rfl := hw
        have hP : va_P D vc (wM cs ad (up1 (up1 I 3 (lkF (I 1) (I 2) AI AN AL).1) 0 0) (takG (lkF (I 1) (I 2) AI AN AL).1 (lkF (I 1) (I 2) AI AN AL).2.1 (plAL (I 1) (I 2) AI AN AL) u' (up1 G 0 (plall (I 1) (I 2) AI AN AL))) ((lkF (I 1) (I 2) AI AN AL).2.1) AI (plAL (I 1) (I 2) AI AN AL)) H := hP
        have hD : va_D A (wM cs ad (up1 (up1 I 3 (lkF (I 1) (I 2) AI AN AL).1) 0 0) (takG (lkF (I 1) (I 2) AI AN AL).1 (lkF (I 1) (I 2) AI AN AL).2.1 (plAL (I 1) (I 2) AI AN AL) u' (up1 G 0 (plall (I 1) (I 2) AI AN AL))) ((lkF (I 1) (I 2) AI AN AL).2.1) AI (plAL (I 1) (I 2) AI AN AL)) := hD
        refine lv_aload_n hx hb dX3_plain_53 rfl (lv_at hl 0 rfl) ?_
        refine b_get (own := RX3) (C := RX3) (T := TX3) (N := 23) (ci := 3) (v := .int (nI 0)) hx hb hts usX3 hown hK hP 0 (by decide) rfl rfl 0 (by decide) (hts _ gw_504) rfl dX3_plain_54 ?_
        refine lv_if_le (tgt := 64) hx hb dX3_plain_57 (by decide) (fun _ => ?_) (fun q => absurd (by decide) q)
        refine lv_aload_n hx hb dX3_plain_64 rfl (lv_at hl 0 rfl) ?_
        refine lv_iload_n hx hb dX3_plain_65 rfl (lv_at hl 2 rfl) ?_
        refine g_calll (va_runV (As := [.int q]) (rest := []) ⟨hx, hb, hml, hown, hts⟩ (ctX3_told l D cs ad (up1 (up1 I 3 (lkF (I 1) (I 2) AI AN AL).1) 0 0) (takG (lkF (I 1) (I 2) AI AN AL).1 (lkF (I 1) (I 2) AI AN AL).2.1 (plAL (I 1) (I 2) AI AN AL) u' (up1 G 0 (plall (I 1) (I 2) AI AN AL))) ((lkF (I 1) (I 2) AI AN AL).2.1) AI (plAL (I 1) (I 2) AI AN AL) _ q) (cwV 1 hts (gi_V gw_675 gw_677 gw_41 gw_57 gw_678) rfl rfl rfl (by decide +kernel) ⟨Nat.le_of_ble_eq_true rfl, Nat.le_of_ble_eq_true rfl⟩) ⟨g_blind, va_recv hK hP (ci := 3) (q0 := 0) rfl (wm_at (by decide) rfl), g_pre hP hK hD hN⟩ rfl rfl hl.1 rfl (lv_room (Nat.le_of_ble_eq_true rfl)) dX3_plain_66 ⟨Nat.zero_le _, Nat.zero_le _⟩) hD hS hA (fun r u H locs hw hP hD hS => ?_)
        obtain ⟨rfl, rfl⟩ := hw
        have hP : va_P D vc (wM cs ad (up1 (up1 I 3 (lkF (I 1) (I 2) AI AN AL).1) 0 0) (takG (lkF (I 1) (I 2) AI AN AL).1 (lkF (I 1) (I 2) AI AN AL).2.1 (plAL (I 1) (I 2) AI AN AL) u' (up1 G 0 (plall (I 1) (I 2) AI AN AL))) ((lkF (I 1) (I 2) AI AN AL).2.1) AI (plAL (I 1) (I 2) AI AN AL)) H := hP
        have hD : va_D A (wM cs ad (up1 (up1 I 3 (lkF (I 1) (I 2) AI AN AL).1) 0 0) (takG (lkF (I 1) (I 2) AI AN AL).1 (lkF (I 1) (I 2) AI AN AL).2.1 (plAL (I 1) (I 2) AI AN AL) u' (up1 G 0 (plall (I 1) (I 2) AI AN AL))) ((lkF (I 1) (I 2) AI AN AL).2.1) AI (plAL (I 1) (I 2) AI AN AL)) := hD
        have e8 : plnS I G AN AI AL (nI u') q = (up1 (up1 I 3 (lkF (I 1) (I 2) AI AN AL).1) 0 0, takG (lkF (I 1) (I 2) AI AN AL).1 (lkF (I 1) (I 2) AI AN AL).2.1 (plAL (I 1) (I 2) AI AN AL) u' (up1 G 0 (plall (I 1) (I 2) AI AN AL)), (lkF (I 1) (I 2) AI AN AL).2.1, AI, plAL (I 1) (I 2) AI AN AL) := by unfold plnS; rw [if_pos hun, if_pos hpo, nI_cl (show u' < 2 ^ 31 by omega), if_pos hpa]
        have e7 : plnR I G AN AI AL (nI u') q = (if q = 0 then (plnS I G AN AI AL (nI u') q).2.1 1 else (plnS I G AN AI AL (nI u') q).2.1 2) := if_pos ⟨hun, hpo, hpa⟩
        exact g_lret hx hb hr hlocks (up1 (up1 I 3 (lkF (I 1) (I 2) AI AN AL).1) 0 0, takG (lkF (I 1) (I 2) AI AN AL).1 (lkF (I 1) (I 2) AI AN AL).2.1 (plAL (I 1) (I 2) AI AN AL) u' (up1 G 0 (plall (I 1) (I 2) AI AN AL)), (lkF (I 1) (I 2) AI AN AL).2.1, AI, plAL (I 1) (I 2) AI AN AL) (⟨e8.symm, by rw [e7, e8]⟩) hK hP hD hS dX3_plain_69
    · have hpo : plok (I 1) (I 2) AI AN AL = false := bz_1.mp h9
      refine lv_aload_n hx hb dX3_plain_22 rfl (lv_at hl 0 rfl) ?_
      refine lv_iconst (v := nI 2) hx hb dX3_plain_23 (by decide) ?_
      refine g_calli (va_runV (As := [.int (nI 2)]) (rest := []) ⟨hx, hb, hml, hown, hts⟩ (ctX3_raise l D cs ad (up1 I 3 (lkF (I 1) (I 2) AI AN AL).1) (up1 G 0 (plall (I 1) (I 2) AI AN AL)) ((lkF (I 1) (I 2) AI AN AL).2.1) AI (plAL (I 1) (I 2) AI AN AL) _ 2) (cwV 1 hts (gi_V gw_660 gw_662 gw_38 gw_57 gw_663) rfl rfl rfl (by decide +kernel) ⟨Nat.le_of_ble_eq_true rfl, Nat.le_of_ble_eq_true rfl⟩) ⟨g_blind, va_recv hK hP (ci := 3) (q0 := 0) rfl (wm_at (by decide) rfl), g_pre hP hK hD hN⟩ rfl rfl hl.1 rfl (lv_room (Nat.le_of_ble_eq_true rfl)) dX3_plain_24 ⟨Nat.zero_le _, Nat.zero_le _⟩) hD hS hA (fun r u H locs hw hP hD hS => ?_)
      obtain ⟨rfl, rfl⟩ := hw
      have hP : va_P D vc (wM cs ad (up1 (up1 I 3 (lkF (I 1) (I 2) AI AN AL).1) 0 2) (up1 G 0 (plall (I 1) (I 2) AI AN AL)) ((lkF (I 1) (I 2) AI AN AL).2.1) AI (plAL (I 1) (I 2) AI AN AL)) H := hP
      have hD : va_D A (wM cs ad (up1 (up1 I 3 (lkF (I 1) (I 2) AI AN AL).1) 0 2) (up1 G 0 (plall (I 1) (I 2) AI AN AL)) ((lkF (I 1) (I 2) AI AN AL).2.1) AI (plAL (I 1) (I 2) AI AN AL)) := hD
      refine lv_i2l (v := Int32.toInt64 (nI 0)) hx hb dX3_plain_27 rfl ?_
      exact g_lret hx hb hr hlocks (up1 (up1 I 3 (lkF (I 1) (I 2) AI AN AL).1) 0 2, up1 G 0 (plall (I 1) (I 2) AI AN AL), (lkF (I 1) (I 2) AI AN AL).2.1, AI, plAL (I 1) (I 2) AI AN AL) (⟨by unfold plnS; rw [if_pos hun, if_neg (by rw [hpo]; decide)], by unfold plnR; rw [if_neg (fun z => by rw [hpo] at z; exact absurd z.2.1 (by decide))]; exact i0⟩) hK hP hD hS dX3_plain_28
  · have hun : unM I u = false := bz_1.mp h
    refine lv_aload_n hx hb dX3_plain_8 rfl (lv_at hl 0 rfl) ?_
    refine lv_iconst (v := nI 1) hx hb dX3_plain_9 (by decide) ?_
    refine g_calli (va_runV (As := [.int (nI 1)]) (rest := []) ⟨hx, hb, hml, hown, hts⟩ (ctX3_raise l D cs ad I G AN AI AL _ 1) (cwV 1 hts (gi_V gw_660 gw_662 gw_38 gw_57 gw_663) rfl rfl rfl (by decide +kernel) ⟨Nat.le_of_ble_eq_true rfl, Nat.le_of_ble_eq_true rfl⟩) ⟨g_blind, va_recv hK hP (ci := 3) (q0 := 0) rfl (wm_at (by decide) rfl), g_pre hP hK hD hN⟩ rfl rfl hl.1 rfl (lv_room (Nat.le_of_ble_eq_true rfl)) dX3_plain_10 ⟨Nat.zero_le _, Nat.zero_le _⟩) hD hS hA (fun r u H locs hw hP hD hS => ?_)
    obtain ⟨rfl, rfl⟩ := hw
    have hP : va_P D vc (wM cs ad (up1 I 0 1) G AN AI AL) H := hP
    have hD : va_D A (wM cs ad (up1 I 0 1) G AN AI AL) := hD
    refine lv_i2l (v := Int32.toInt64 (nI 0)) hx hb dX3_plain_13 rfl ?_
    exact g_lret hx hb hr hlocks (up1 I 0 1, G, AN, AI, AL) (⟨by unfold plnS; rw [if_neg (by rw [hun]; decide)], by unfold plnR; rw [if_neg (fun z => by rw [hun] at z; exact absurd z.1 (by decide))]; exact i0⟩) hK hP hD hS dX3_plain_14

def dcm (rk f : Nat) (AN : Nat → Nat → Nat) (AI : Nat → Int32) (AL : Nat → Nat → Int64) : Nat → Nat → Int64 := fo (fun r X => up2 X 6 r (Int32.toInt64 (-AI (4 * AN 3 r + f)))) rk 0 AL
def diSq (n m f : Nat) (AI : Nat → Int32) (AN : Nat → Nat → Nat) (AL : Nat → Nat → Int64) : Nat → Nat → Int64 := sqf (lkF n m AI AN AL).1 (lkF n m AI AN AL).2.1 AI (dcm (lkF n m AI AN AL).1 f (lkF n m AI AN AL).2.1 AI (lkF n m AI AN AL).2.2)
def diAL (n m f : Nat) (AI : Nat → Int32) (AN : Nat → Nat → Nat) (AL : Nat → Nat → Int64) : Nat → Nat → Int64 := ssq (lkF n m AI AN AL).1 (diSq n m f AI AN AL)
def diall (n m f : Nat) (AI : Nat → Int32) (AN : Nat → Nat → Nat) (AL : Nat → Nat → Int64) : Int64 := det (lkF n m AI AN AL).1 (diSq n m f AI AN AL 5)
def frA (n m : Nat) (AI : Nat → Int32) (AN : Nat → Nat → Nat) (AL : Nat → Nat → Int64) (k : Int32) : Option Nat := fra (lkF n m AI AN AL).2.1 k n 0 0
def diG (n m f u : Nat) (AI : Nat → Int32) (AN : Nat → Nat → Nat) (AL : Nat → Nat → Int64) (G : Nat → Int64) : Nat → Int64 :=
  if u = f then lowG (takG (lkF n m AI AN AL).1 (lkF n m AI AN AL).2.1 (diAL n m f AI AN AL) u (up1 G 0 (diall n m f AI AN AL))) 1 1 else takG (lkF n m AI AN AL).1 (lkF n m AI AN AL).2.1 (diAL n m f AI AN AL) u (up1 G 0 (diall n m f AI AN AL))
def dirS (I : Nat → Nat) (G : Nat → Int64) (AN : Nat → Nat → Nat) (AI : Nat → Int32) (AL : Nat → Nat → Int64) (k u q : Int32) : MS :=
  match frA (I 1) (I 2) AI AN AL k with
  | none => (up1 (up1 I 3 (lkF (I 1) (I 2) AI AN AL).1) 0 1, G, (lkF (I 1) (I 2) AI AN AL).2.1, AI, (lkF (I 1) (I 2) AI AN AL).2.2)
  | some f =>
    if unM I u then
      if paM q then (up1 (up1 I 3 (lkF (I 1) (I 2) AI AN AL).1) 0 0, diG (I 1) (I 2) f u.toNatClampNeg AI AN AL G, (lkF (I 1) (I 2) AI AN AL).2.1, AI, diAL (I 1) (I 2) f AI AN AL)
      else (up1 (up1 I 3 (lkF (I 1) (I 2) AI AN AL).1) 0 2, G, (lkF (I 1) (I 2) AI AN AL).2.1, AI, (lkF (I 1) (I 2) AI AN AL).2.2)
    else (up1 (up1 I 3 (lkF (I 1) (I 2) AI AN AL).1) 0 1, G, (lkF (I 1) (I 2) AI AN AL).2.1, AI, (lkF (I 1) (I 2) AI AN AL).2.2)
def dirR (I : Nat → Nat) (G : Nat → Int64) (AN : Nat → Nat → Nat) (AI : Nat → Int32) (AL : Nat → Nat → Int64) (k u q : Int32) : Int64 :=
  if (frA (I 1) (I 2) AI AN AL k).isSome ∧ unM I u ∧ paM q then (if q = 0 then (dirS I G AN AI AL k u q).2.1 1 else (dirS I G AN AI AL k u q).2.1 2) else 0

abbrev rmX3_direction : Room := { frames := 3, cells := 0, slots := 0, locals := 77 }
set_option maxHeartbeats 4000000 in
set_option maxRecDepth 100000 in
theorem ctX3_direction (l : Launch) (D : va_G) (cs : Nat → ClassId) (ad : Nat → Nat) (I : Nat → Nat) (G : Nat → Int64) (AN : Nat → Nat → Nat) (AI : Nat → Int32) (AL : Nat → Nat → Int64) (sz : Nat) (k u q : Int32) (h1 : I 1 ≤ 3) (h2 : I 2 ≤ 3) (hok : okA AN) (hlo : ∀ f, frA (I 1) (I 2) AI AN AL k = some f → ∀ c, c < (lkF (I 1) (I 2) AI AN AL).1 → okLow (diAL (I 1) (I 2) f AI AN AL 7 c) (diall (I 1) (I 2) f AI AN AL)) : Met l yX3_direction (Cond.code yX3_direction cX3_direction 6 (some FieldType.long) :: GW) rmX3_direction (va_Pc [.ref (ad 0), .int k, .int u, .int q] (gP D cs (wM cs ad I G AN AI AL) sz)) (va_Ql (fun (r : Int64) (v : MS) => v = dirS I G AN AI AL k u q ∧ r = dirR I G AN AI AL k u q) (gB D cs (va_A (wM cs ad I G AN AI AL) sz) (wMs cs ad)) (va_A (wM cs ad I G AN AI AL) sz)) 0 0 (va_A (wM cs ad I G AN AI AL) sz) := by
  refine Met.ofW (cc := cX3_direction) (maxL := 6) (ret := (some FieldType.long)) (by decide) rfl ?_
  intro p e s m args below meth c s₁ B hml hv
  obtain ⟨rfl, hsz, hP, hK, hD0, hN⟩ := hv
  have hx := B.exec
  have hb := B.bytes
  have hr := B.returns
  have hts : ∀ w ∈ GW, w.before _ s = true := fun w h => atoms_spec (ws := Cond.code yX3_direction cX3_direction 6 (some FieldType.long) :: GW) B.pre w (List.mem_cons_of_mem _ h)
  have hown : s.vm.findClass RX3 = some m.cls := findClass_of_methodNamed B.named
  have hlocks := B.notSynchronized
  subst hsz
  have hD := hD0.self (sz := s.heap.size)
  generalize hAe : va_A (wM cs ad I G AN AI AL) s.heap.size = A at hD ⊢
  have hA : ∀ q : Nat, s.heap.size ≤ q → A q := fun q h => by rw [← hAe]; exact Or.inr h
  have hS : va_S A s.heap s.heap [] := va_S.rf
  have hl := lv_entry [.ref (ad 0), .int k, .int u, .int q] (n := 6) (Nat.le_of_ble_eq_true rfl)
  rw [lg_entry_eq]
  generalize (lg_sl [.ref (ad 0), .int k, .int u, .int q] ++ List.replicate (6 - (lg_sl [.ref (ad 0), .int k, .int u, .int q]).length) Slot.unset).toArray = ls at hl ⊢
  have hl : lv_has ls 6 [(0, .ref (ad 0)), (1, .int k), (2, .int u), (3, .int q)] := hl
  generalize hargs : ([.ref (ad 0), .int k, .int u, .int q] : List Value).toArray = args at *
  show W p l e rmX3_direction s m args below meth c s.heap [] 0 0 _ (F0 m 0 ls [])
  refine lv_aload_n hx hb dX3_direction_0 rfl (lv_at hl 0 rfl) ?_
  refine g_callv (va_runV (As := []) (rest := []) ⟨hx, hb, hml, hown, hts⟩ (ctX3_look l D cs ad I G AN AI AL _ h1 h2 hok) (cwV 0 hts (gi_V gw_616 gw_618 gw_30 gw_57 gw_619) rfl rfl rfl (by decide +kernel) ⟨Nat.le_of_ble_eq_true rfl, Nat.le_of_ble_eq_true rfl⟩) ⟨g_blind, va_recv hK hP (ci := 3) (q0 := 0) rfl (wm_at (by decide) rfl), g_pre hP hK hD hN⟩ rfl rfl hl.1 rfl (lv_room (Nat.le_of_ble_eq_true rfl)) dX3_direction_1 ⟨Nat.zero_le _, Nat.zero_le _⟩) hD hS hA (fun u H locs hw hP hD hS => ?_)
  obtain rfl := hw
  have hP : va_P D vc (wM cs ad (up1 I 3 (lkF (I 1) (I 2) AI AN AL).1) G ((lkF (I 1) (I 2) AI AN AL).2.1) AI ((lkF (I 1) (I 2) AI AN AL).2.2)) H := hP
  have hD : va_D A (wM cs ad (up1 I 3 (lkF (I 1) (I 2) AI AN AL).1) G ((lkF (I 1) (I 2) AI AN AL).2.1) AI ((lkF (I 1) (I 2) AI AN AL).2.2)) := hD
  have hL := lk_ok (AI := AI) (AL := AL) h1 h2 hok
  have hL1 : (lkF (I 1) (I 2) AI AN AL).1 ≤ 3 := Nat.le_trans hL.2.1 h1
  have hL2 := hL.2.1
  have hL3 : okA (lkF (I 1) (I 2) AI AN AL).2.1 := hL.2.2
  refine lv_aload_n hx hb dX3_direction_4 rfl (lv_at hl 0 rfl) ?_
  refine lv_iload_n hx hb dX3_direction_5 rfl (lv_at hl 1 rfl) ?_
  refine g_calli (va_runV (As := [.int k]) (rest := []) ⟨hx, hb, hml, hown, hts⟩ (ctX3_freeAt l D cs ad (up1 I 3 (lkF (I 1) (I 2) AI AN AL).1) G ((lkF (I 1) (I 2) AI AN AL).2.1) AI ((lkF (I 1) (I 2) AI AN AL).2.2) _ k (show I 1 ≤ 3 from h1) hL3) (cwV 1 hts (gi_V gw_648 gw_650 gw_36 gw_57 gw_651) rfl rfl rfl (by decide +kernel) ⟨Nat.le_of_ble_eq_true rfl, Nat.le_of_ble_eq_true rfl⟩) ⟨g_blind, va_recv hK hP (ci := 3) (q0 := 0) rfl (wm_at (by decide) rfl), g_pre hP hK hD hN⟩ rfl rfl hl.1 rfl (lv_room (Nat.le_of_ble_eq_true rfl)) dX3_direction_6 ⟨Nat.zero_le _, Nat.zero_le _⟩) hD hS hA (fun r u H locs hw hP hD hS => ?_)
  obtain ⟨rfl, hw2⟩ := hw
  have hP : va_P D vc (wM cs ad (up1 I 3 (lkF (I 1) (I 2) AI AN AL).1) G ((lkF (I 1) (I 2) AI AN AL).2.1) AI ((lkF (I 1) (I 2) AI AN AL).2.2)) H := hP
  have hD : va_D A (wM cs ad (up1 I 3 (lkF (I 1) (I 2) AI AN AL).1) G ((lkF (I 1) (I 2) AI AN AL).2.1) AI ((lkF (I 1) (I 2) AI AN AL).2.2)) := hD
  have hw2 : r = enc (frA (I 1) (I 2) AI AN AL k) := hw2
  cases hf : frA (I 1) (I 2) AI AN AL k with
  | none =>
    rw [hf] at hw2
    subst hw2
    refine lv_istore (lv' := [(4, .int (enc none)), (0, .ref (ad 0)), (1, .int k), (2, .int u), (3, .int q)]) hx hb dX3_direction_9 hl (by decide) rfl (fun ls hl => ?_)
    refine lv_iload hx hb dX3_direction_11 (lv_at hl 0 rfl) ?_
    refine lv_iconst (v := -1) hx hb dX3_direction_13 (by decide) ?_
    refine lv_icmp_eq (tgt := 25) hx hb dX3_direction_14 (by decide) (fun h => ?_) (fun h => ?_)
    · refine lv_aload_n hx hb dX3_direction_25 rfl (lv_at hl 1 rfl) ?_
      refine lv_iconst (v := nI 1) hx hb dX3_direction_26 (by decide) ?_
      refine g_calli (va_runV (As := [.int (nI 1)]) (rest := []) ⟨hx, hb, hml, hown, hts⟩ (ctX3_raise l D cs ad (up1 I 3 (lkF (I 1) (I 2) AI AN AL).1) G ((lkF (I 1) (I 2) AI AN AL).2.1) AI ((lkF (I 1) (I 2) AI AN AL).2.2) _ 1) (cwV 1 hts (gi_V gw_660 gw_662 gw_38 gw_57 gw_663) rfl rfl rfl (by decide +kernel) ⟨Nat.le_of_ble_eq_true rfl, Nat.le_of_ble_eq_true rfl⟩) ⟨g_blind, va_recv hK hP (ci := 3) (q0 := 0) rfl (wm_at (by decide) rfl), g_pre hP hK hD hN⟩ rfl rfl hl.1 rfl (lv_room (Nat.le_of_ble_eq_true rfl)) dX3_direction_27 ⟨Nat.zero_le _, Nat.zero_le _⟩) hD hS hA (fun r u H locs hw hP hD hS => ?_)
      obtain ⟨rfl, rfl⟩ := hw
      have hP : va_P D vc (wM cs ad (up1 (up1 I 3 (lkF (I 1) (I 2) AI AN AL).1) 0 1) G ((lkF (I 1) (I 2) AI AN AL).2.1) AI ((lkF (I 1) (I 2) AI AN AL).2.2)) H := hP
      have hD : va_D A (wM cs ad (up1 (up1 I 3 (lkF (I 1) (I 2) AI AN AL).1) 0 1) G ((lkF (I 1) (I 2) AI AN AL).2.1) AI ((lkF (I 1) (I 2) AI AN AL).2.2)) := hD
      refine lv_i2l (v := Int32.toInt64 (nI 0)) hx hb dX3_direction_30 rfl ?_
      exact g_lret hx hb hr hlocks (up1 (up1 I 3 (lkF (I 1) (I 2) AI AN AL).1) 0 1, G, (lkF (I 1) (I 2) AI AN AL).2.1, AI, (lkF (I 1) (I 2) AI AN AL).2.2) (⟨by unfold dirS; rw [hf], by unfold dirR; rw [if_neg (fun z => by rw [hf] at z; exact absurd z.1 (by decide))]; exact i0⟩) hK hP hD hS dX3_direction_31
    · exact absurd rfl h
  | some f =>
    rw [hf] at hw2
    have hw2 : r = nI f := hw2
    subst hw2
    have hfl : f < 0 + I 1 := fra_lt hf
    refine lv_istore (lv' := [(4, .int (nI f)), (0, .ref (ad 0)), (1, .int k), (2, .int u), (3, .int q)]) hx hb dX3_direction_9 hl (by decide) rfl (fun ls hl => ?_)
    refine lv_iload hx hb dX3_direction_11 (lv_at hl 0 rfl) ?_
    refine lv_iconst (v := -1) hx hb dX3_direction_13 (by decide) ?_
    refine lv_icmp_eq (tgt := 25) hx hb dX3_direction_14 (by decide) (fun h => ?_) (fun h => ?_)
    · exact absurd ((enc_m1 (o := some f) (fun k hk => by cases hk; omega)).mp h) (fun z => nomatch z)
    · refine lv_aload_n hx hb dX3_direction_17 rfl (lv_at hl 1 rfl) ?_
      refine lv_iload_n hx hb dX3_direction_18 rfl (lv_at hl 3 rfl) ?_
      refine g_calli (va_runV (As := [.int u]) (rest := []) ⟨hx, hb, hml, hown, hts⟩ (ctX3_isUnknown l D cs ad (up1 I 3 (lkF (I 1) (I 2) AI AN AL).1) G ((lkF (I 1) (I 2) AI AN AL).2.1) AI ((lkF (I 1) (I 2) AI AN AL).2.2) _ u) (cwV 1 hts (gi_V gw_656 gw_658 gw_37 gw_57 gw_659) rfl rfl rfl (by decide +kernel) ⟨Nat.le_of_ble_eq_true rfl, Nat.le_of_ble_eq_true rfl⟩) ⟨g_blind, va_recv hK hP (ci := 3) (q0 := 0) rfl (wm_at (by decide) rfl), g_pre hP hK hD hN⟩ rfl rfl hl.1 rfl (lv_room (Nat.le_of_ble_eq_true rfl)) dX3_direction_19 ⟨Nat.zero_le _, Nat.zero_le _⟩) hD hS hA (fun r u H locs hw hP hD hS => ?_)
      obtain ⟨rfl, hw2⟩ := hw
      have hP : va_P D vc (wM cs ad (up1 I 3 (lkF (I 1) (I 2) AI AN AL).1) G ((lkF (I 1) (I 2) AI AN AL).2.1) AI ((lkF (I 1) (I 2) AI AN AL).2.2)) H := hP
      have hD : va_D A (wM cs ad (up1 I 3 (lkF (I 1) (I 2) AI AN AL).1) G ((lkF (I 1) (I 2) AI AN AL).2.1) AI ((lkF (I 1) (I 2) AI AN AL).2.2)) := hD
      have hw2 : r = bz (unM I u) := hw2
      subst hw2
      refine lv_if_ne (tgt := 32) hx hb dX3_direction_22 (by decide) (fun h7 => ?_) (fun h7 => ?_)
      · have hun := bz_t h7
        obtain ⟨u', rfl, hu⟩ := unM_spec h1 hun
        refine lv_aload_n hx hb dX3_direction_32 rfl (lv_at hl 1 rfl) ?_
        refine lv_iload_n hx hb dX3_direction_33 rfl (lv_at hl 4 rfl) ?_
        refine lv_i2l (v := Int32.toInt64 q) hx hb dX3_direction_34 rfl ?_
        refine lv_lconst (v := 0) hx hb dX3_direction_35 (by decide) ?_
        refine lv_lconst (v := 1) hx hb dX3_direction_36 (by decide) ?_
        refine g_calli (va_runS (As := [.long (Int32.toInt64 q), .long 0, .long 1]) (rest := [.ref (ad 0)]) ⟨hx, hb, hml, hown, hts⟩ (ctX3_in l D cs ad (up1 I 3 (lkF (I 1) (I 2) AI AN AL).1) G ((lkF (I 1) (I 2) AI AN AL).2.1) AI ((lkF (I 1) (I 2) AI AN AL).2.2) _ (Int32.toInt64 q) 0 1) (va_cwS 3 hts (gi_S gw_591 gw_592 gw_57 gw_593) rfl rfl rfl (by decide +kernel) ⟨Nat.le_of_ble_eq_true rfl, Nat.le_of_ble_eq_true rfl⟩) ⟨g_blind, g_pre hP hK hD hN⟩ rfl rfl hl.1 rfl (lv_room (Nat.le_of_ble_eq_true rfl)) dX3_direction_37 ⟨Nat.zero_le _, Nat.zero_le _⟩) hD hS hA (fun r u H locs hw hP hD hS => ?_)
        obtain ⟨rfl, hw2⟩ := hw
        have hP : va_P D vc (wM cs ad (up1 I 3 (lkF (I 1) (I 2) AI AN AL).1) G ((lkF (I 1) (I 2) AI AN AL).2.1) AI ((lkF (I 1) (I 2) AI AN AL).2.2)) H := hP
        have hD : va_D A (wM cs ad (up1 I 3 (lkF (I 1) (I 2) AI AN AL).1) G ((lkF (I 1) (I 2) AI AN AL).2.1) AI ((lkF (I 1) (I 2) AI AN AL).2.2)) := hD
        have hw2 : r = bz (paM q) := hw2
        subst hw2
        refine lv_if_eq (tgt := 47) hx hb dX3_direction_40 (by decide) (fun h8 => ?_) (fun h8 => ?_)
        · have hpa : ¬ paM q = true := by rw [show paM q = false from bz_1.mp h8]; decide
          refine lv_iconst (v := nI 2) hx hb dX3_direction_47 (by decide) ?_
          refine b_put (own := RX3) (C := RX3) (T := TX3) (N := 23) (ci := 3) (v := .int (nI 2)) hx hb hts usX3 tyX3 tyX3_ok nmX3 hown hK hP hD hS 0 (by decide) rfl rfl 0 (by decide) (hts _ gw_504) rfl rfl rfl (Nat.le_of_ble_eq_true rfl) dX3_direction_48 sM_I0 (fun H locs hP hD hS => ?_)
          refine lv_aload_n hx hb dX3_direction_51 rfl (lv_at hl 1 rfl) ?_
          refine b_get (own := RX3) (C := RX3) (T := TX3) (N := 23) (ci := 3) (v := .int (nI 2)) hx hb hts usX3 hown hK hP 0 (by decide) rfl rfl 0 (by decide) (hts _ gw_504) rfl dX3_direction_52 ?_
          refine lv_if_le (tgt := 60) hx hb dX3_direction_55 (by decide) (fun q => absurd q (by decide)) (fun _ => ?_)
          refine lv_lconst (v := 0) hx hb dX3_direction_58 (by decide) ?_
          exact g_lret hx hb hr hlocks (up1 (up1 I 3 (lkF (I 1) (I 2) AI AN AL).1) 0 2, G, (lkF (I 1) (I 2) AI AN AL).2.1, AI, (lkF (I 1) (I 2) AI AN AL).2.2) (⟨by unfold dirS; rw [hf]; dsimp only; rw [if_pos hun, if_neg hpa], by unfold dirR; rw [if_neg (fun z => hpa z.2.2)]⟩) hK hP hD hS dX3_direction_59
        · have hpa := bz_t h8
          refine lv_iconst (v := nI 0) hx hb dX3_direction_43 (by decide) ?_
          refine lv_goto (tgt := 48) hx hb dX3_direction_44 (by decide) ?_
          refine b_put (own := RX3) (C := RX3) (T := TX3) (N := 23) (ci := 3) (v := .int (nI 0)) hx hb hts usX3 tyX3 tyX3_ok nmX3 hown hK hP hD hS 0 (by decide) rfl rfl 0 (by decide) (hts _ gw_504) rfl rfl rfl (Nat.le_of_ble_eq_true rfl) dX3_direction_48 sM_I0 (fun H locs hP hD hS => ?_)
          refine lv_aload_n hx hb dX3_direction_51 rfl (lv_at hl 1 rfl) ?_
          refine b_get (own := RX3) (C := RX3) (T := TX3) (N := 23) (ci := 3) (v := .int (nI 0)) hx hb hts usX3 hown hK hP 0 (by decide) rfl rfl 0 (by decide) (hts _ gw_504) rfl dX3_direction_52 ?_
          refine lv_if_le (tgt := 60) hx hb dX3_direction_55 (by decide) (fun _ => ?_) (fun q => absurd (by decide) q)
          refine lv_iconst (v := nI 0) hx hb dX3_direction_60 (by decide) ?_
          refine lv_istore (lv' := [(5, .int (nI 0)), (4, .int (nI f)), (0, .ref (ad 0)), (1, .int k), (2, .int (nI u')), (3, .int q)]) hx hb dX3_direction_61 hl (by decide) rfl (fun ls hl => ?_)
          have lp63 : ∀ (Q : State → Prop) (n r9 : Nat) (X : Nat → Nat → Int64) (H : Heap) (locs : List Loc) (ls : Array Slot), r9 + n = (lkF (I 1) (I 2) AI AN AL).1 → va_P D vc (wM cs ad (up1 (up1 I 3 (lkF (I 1) (I 2) AI AN AL).1) 0 0) G ((lkF (I 1) (I 2) AI AN AL).2.1) AI X) H → va_D A (wM cs ad (up1 (up1 I 3 (lkF (I 1) (I 2) AI AN AL).1) 0 0) G ((lkF (I 1) (I 2) AI AN AL).2.1) AI X) → va_S A s.heap H locs → lv_has ls 6 [(5, .int (nI r9)), (4, .int (nI f)), (0, .ref (ad 0)), (1, .int k), (2, .int (nI u')), (3, .int q)] → (∀ (H : Heap) (locs : List Loc) (ls : Array Slot), va_P D vc (wM cs ad (up1 (up1 I 3 (lkF (I 1) (I 2) AI AN AL).1) 0 0) G ((lkF (I 1) (I 2) AI AN AL).2.1) AI (fo (fun r X => up2 X 6 r (Int32.toInt64 (-AI (4 * (lkF (I 1) (I 2) AI AN AL).2.1 3 r + f)))) n r9 X)) H → va_D A (wM cs ad (up1 (up1 I 3 (lkF (I 1) (I 2) AI AN AL).1) 0 0) G ((lkF (I 1) (I 2) AI AN AL).2.1) AI (fo (fun r X => up2 X 6 r (Int32.toInt64 (-AI (4 * (lkF (I 1) (I 2) AI AN AL).2.1 3 r + f)))) n r9 X)) → va_S A s.heap H locs → lv_has ls 6 [(5, .int (nI ((lkF (I 1) (I 2) AI AN AL).1))), (4, .int (nI f)), (0, .ref (ad 0)), (1, .int k), (2, .int (nI u')), (3, .int q)] → W p l e rmX3_direction s m args below meth c H locs 0 0 Q (F0 m 104 ls [])) → W p l e rmX3_direction s m args below meth c H locs 0 0 Q (F0 m 63 ls []) := by
            intro Q n
            induction n with
            | zero =>
              intro r9 X H locs ls hn hP hD hS hl kx
              have hi : r9 = (lkF (I 1) (I 2) AI AN AL).1 := by omega
              refine lv_iload hx hb dX3_direction_63 (lv_at hl 0 rfl) ?_
              refine lv_aload_n hx hb dX3_direction_65 rfl (lv_at hl 2 rfl) ?_
              refine b_get (own := RX3) (C := RX3) (T := TX3) (N := 23) (ci := 3) (v := .int (nI ((lkF (I 1) (I 2) AI AN AL).1))) hx hb hts usX3 hown hK hP 0 (by decide) rfl rfl 4 (by decide) (hts _ gw_508) rfl dX3_direction_66 ?_
              refine b_ge_t (tgt := 104) hx hb dX3_direction_69 (by decide) (by omega) (by omega) ?_
              rw [hi] at hl
              exact kx H locs ls hP hD hS (lv_sub hl [0, 1, 2, 3, 4, 5] rfl)
            | succ n ih =>
              intro r9 X H locs ls hn hP hD hS hl kx
              have hi : r9 < (lkF (I 1) (I 2) AI AN AL).1 := by omega
              refine lv_iload hx hb dX3_direction_63 (lv_at hl 0 rfl) ?_
              refine lv_aload_n hx hb dX3_direction_65 rfl (lv_at hl 2 rfl) ?_
              refine b_get (own := RX3) (C := RX3) (T := TX3) (N := 23) (ci := 3) (v := .int (nI ((lkF (I 1) (I 2) AI AN AL).1))) hx hb hts usX3 hown hK hP 0 (by decide) rfl rfl 4 (by decide) (hts _ gw_508) rfl dX3_direction_66 ?_
              refine b_ge_f (tgt := 104) hx hb dX3_direction_69 (by decide) (by omega) (by omega) ?_
              have hl3 := hL3.2.1 r9 (by omega)
              refine lv_aload_n hx hb dX3_direction_72 rfl (lv_at hl 2 rfl) ?_
              refine b_get (own := RX3) (C := RX3) (T := TX3) (N := 23) (ci := 3) (v := .ref (ad 6)) hx hb hts usX3 hown hK hP 0 (by decide) rfl rfl 9 (by decide) (hts _ gw_513) rfl dX3_direction_73 ?_
              refine lv_iload hx hb dX3_direction_76 (lv_at hl 0 rfl) ?_
              refine lv_aload_n hx hb dX3_direction_78 rfl (lv_at hl 2 rfl) ?_
              refine b_get (own := RX3) (C := RX3) (T := TX3) (N := 23) (ci := 3) (v := .ref (ad 1)) hx hb hts usX3 hown hK hP 0 (by decide) rfl rfl 3 (by decide) (hts _ gw_507) rfl dX3_direction_79 ?_
              refine lv_iconst (v := nI 4) hx hb dX3_direction_82 (by decide) ?_
              refine lv_aload_n hx hb dX3_direction_83 rfl (lv_at hl 2 rfl) ?_
              refine b_get (own := RX3) (C := RX3) (T := TX3) (N := 23) (ci := 3) (v := .ref (ad 3)) hx hb hts usX3 hown hK hP 0 (by decide) rfl rfl 6 (by decide) (hts _ gw_510) rfl dX3_direction_84 ?_
              refine lv_iload hx hb dX3_direction_87 (lv_at hl 0 rfl) ?_
              refine b_iald hx hb hK hP 3 0 (by decide) rfl rfl (by omega) (by decide) dX3_direction_89 ?_
              refine b_muln hx hb dX3_direction_90 ?_
              refine lv_iload hx hb dX3_direction_91 (lv_at hl 1 rfl) ?_
              refine b_addn hx hb dX3_direction_93 ?_
              refine b_iald hx hb hK hP 1 0 (by decide) rfl rfl (by omega) (by decide) dX3_direction_94 ?_
              refine lv_ineg hx hb dX3_direction_95 ?_
              refine lv_i2l (v := Int32.toInt64 (-(AI ((4 * (((lkF (I 1) (I 2) AI AN AL).2.1) 3 r9)) + f)))) hx hb dX3_direction_96 rfl ?_
              refine b_last hx hb hK hP hD hS 6 1 (by decide) rfl rfl (by omega) (by decide) dX3_direction_97 sM_L6 (fun H locs hP hD hS => ?_)
              refine b_iinc (lv' := [(5, .int (nI (r9 + 1))), (4, .int (nI f)), (0, .ref (ad 0)), (1, .int k), (2, .int (nI u')), (3, .int q)]) hx hb dX3_direction_98 hl (k := 0) rfl (by decide) rfl (fun ls hl => ?_)
              refine lv_goto (tgt := 63) hx hb dX3_direction_101 (by decide) ?_
              exact ih (r9 + 1) _ H locs ls (by omega) hP hD hS (lv_sub hl [0, 1, 2, 3, 4, 5] rfl) kx
          refine lp63 _ ((lkF (I 1) (I 2) AI AN AL).1) 0 ((lkF (I 1) (I 2) AI AN AL).2.2) _ _ ls (by omega) hP hD hS (lv_sub hl [0, 1, 2, 3, 4, 5] rfl) (fun H locs ls hP hD hS hl => ?_)
          have hP : va_P D vc (wM cs ad (up1 (up1 I 3 (lkF (I 1) (I 2) AI AN AL).1) 0 0) G ((lkF (I 1) (I 2) AI AN AL).2.1) AI (dcm (lkF (I 1) (I 2) AI AN AL).1 f (lkF (I 1) (I 2) AI AN AL).2.1 AI (lkF (I 1) (I 2) AI AN AL).2.2)) H := hP
          have hD : va_D A (wM cs ad (up1 (up1 I 3 (lkF (I 1) (I 2) AI AN AL).1) 0 0) G ((lkF (I 1) (I 2) AI AN AL).2.1) AI (dcm (lkF (I 1) (I 2) AI AN AL).1 f (lkF (I 1) (I 2) AI AN AL).2.1 AI (lkF (I 1) (I 2) AI AN AL).2.2)) := hD
          refine lv_aload_n hx hb dX3_direction_104 rfl (lv_at hl 2 rfl) ?_
          refine g_callv (va_runV (As := []) (rest := []) ⟨hx, hb, hml, hown, hts⟩ (ctX3_solve l D cs ad (up1 (up1 I 3 (lkF (I 1) (I 2) AI AN AL).1) 0 0) G ((lkF (I 1) (I 2) AI AN AL).2.1) AI (dcm (lkF (I 1) (I 2) AI AN AL).1 f (lkF (I 1) (I 2) AI AN AL).2.1 AI (lkF (I 1) (I 2) AI AN AL).2.2) _ hL1 hL3) (cwV 0 hts (gi_V gw_636 gw_638 gw_34 gw_57 gw_639) rfl rfl rfl (by decide +kernel) ⟨Nat.le_of_ble_eq_true rfl, Nat.le_of_ble_eq_true rfl⟩) ⟨g_blind, va_recv hK hP (ci := 3) (q0 := 0) rfl (wm_at (by decide) rfl), g_pre hP hK hD hN⟩ rfl rfl hl.1 rfl (lv_room (Nat.le_of_ble_eq_true rfl)) dX3_direction_105 ⟨Nat.zero_le _, Nat.zero_le _⟩) hD hS hA (fun u H locs hw hP hD hS => ?_)
          obtain rfl := hw
          have hP : va_P D vc (wM cs ad (up1 (up1 I 3 (lkF (I 1) (I 2) AI AN AL).1) 0 0) (up1 G 0 (diall (I 1) (I 2) f AI AN AL)) ((lkF (I 1) (I 2) AI AN AL).2.1) AI (diAL (I 1) (I 2) f AI AN AL)) H := hP
          have hD : va_D A (wM cs ad (up1 (up1 I 3 (lkF (I 1) (I 2) AI AN AL).1) 0 0) (up1 G 0 (diall (I 1) (I 2) f AI AN AL)) ((lkF (I 1) (I 2) AI AN AL).2.1) AI (diAL (I 1) (I 2) f AI AN AL)) := hD
          refine lv_aload_n hx hb dX3_direction_108 rfl (lv_at hl 2 rfl) ?_
          refine lv_iload_n hx hb dX3_direction_109 rfl (lv_at hl 4 rfl) ?_
          refine g_callv (va_runV (As := [.int (nI u')]) (rest := []) ⟨hx, hb, hml, hown, hts⟩ (ctX3_takeAnswer l D cs ad (up1 (up1 I 3 (lkF (I 1) (I 2) AI AN AL).1) 0 0) (up1 G 0 (diall (I 1) (I 2) f AI AN AL)) ((lkF (I 1) (I 2) AI AN AL).2.1) AI (diAL (I 1) (I 2) f AI AN AL) _ u' hL1 hL3 (by omega) (hlo f hf)) (cwV 1 hts (gi_V gw_664 gw_666 gw_39 gw_57 gw_667) rfl rfl rfl (by decide +kernel) ⟨Nat.le_of_ble_eq_true rfl, Nat.le_of_ble_eq_true rfl⟩) ⟨g_blind, va_recv hK hP (ci := 3) (q0 := 0) rfl (wm_at (by decide) rfl), g_pre hP hK hD hN⟩ rfl rfl hl.1 rfl (lv_room (Nat.le_of_ble_eq_true rfl)) dX3_direction_110 ⟨Nat.zero_le _, Nat.zero_le _⟩) hD hS hA (fun u H locs hw hP hD hS => ?_)
          obtain rfl := hw
          have hP : va_P D vc (wM cs ad (up1 (up1 I 3 (lkF (I 1) (I 2) AI AN AL).1) 0 0) (takG (lkF (I 1) (I 2) AI AN AL).1 (lkF (I 1) (I 2) AI AN AL).2.1 (diAL (I 1) (I 2) f AI AN AL) u' (up1 G 0 (diall (I 1) (I 2) f AI AN AL))) ((lkF (I 1) (I 2) AI AN AL).2.1) AI (diAL (I 1) (I 2) f AI AN AL)) H := hP
          have hD : va_D A (wM cs ad (up1 (up1 I 3 (lkF (I 1) (I 2) AI AN AL).1) 0 0) (takG (lkF (I 1) (I 2) AI AN AL).1 (lkF (I 1) (I 2) AI AN AL).2.1 (diAL (I 1) (I 2) f AI AN AL) u' (up1 G 0 (diall (I 1) (I 2) f AI AN AL))) ((lkF (I 1) (I 2) AI AN AL).2.1) AI (diAL (I 1) (I 2) f AI AN AL)) := hD
          refine lv_iload_n hx hb dX3_direction_113 rfl (lv_at hl 4 rfl) ?_
          refine lv_iload hx hb dX3_direction_114 (lv_at hl 1 rfl) ?_
          by_cases huf : u' = f
          · refine b_ne_f (tgt := 125) hx hb dX3_direction_116 (by decide) (huf)  ?_
            refine lv_aload_n hx hb dX3_direction_119 rfl (lv_at hl 2 rfl) ?_
            refine lv_lconst (v := 1) hx hb dX3_direction_120 (by decide) ?_
            refine lv_lconst (v := 1) hx hb dX3_direction_121 (by decide) ?_
            refine g_callv (va_runV (As := [.long 1, .long 1]) (rest := []) ⟨hx, hb, hml, hown, hts⟩ (ctX3_lowest l D cs ad (up1 (up1 I 3 (lkF (I 1) (I 2) AI AN AL).1) 0 0) (takG (lkF (I 1) (I 2) AI AN AL).1 (lkF (I 1) (I 2) AI AN AL).2.1 (diAL (I 1) (I 2) f AI AN AL) u' (up1 G 0 (diall (I 1) (I 2) f AI AN AL))) ((lkF (I 1) (I 2) AI AN AL).2.1) AI (diAL (I 1) (I 2) f AI AN AL) _ 1 1 okLow11) (cwV 2 hts (gi_V gw_668 gw_670 gw_40 gw_57 gw_671) rfl rfl rfl (by decide +kernel) ⟨Nat.le_of_ble_eq_true rfl, Nat.le_of_ble_eq_true rfl⟩) ⟨g_blind, va_recv hK hP (ci := 3) (q0 := 0) rfl (wm_at (by decide) rfl), g_pre hP hK hD hN⟩ rfl rfl hl.1 rfl (lv_room (Nat.le_of_ble_eq_true rfl)) dX3_direction_122 ⟨Nat.zero_le _, Nat.zero_le _⟩) hD hS hA (fun u H locs hw hP hD hS => ?_)
            obtain rfl := hw
            have hP : va_P D vc (wM cs ad (up1 (up1 I 3 (lkF (I 1) (I 2) AI AN AL).1) 0 0) (lowG (takG (lkF (I 1) (I 2) AI AN AL).1 (lkF (I 1) (I 2) AI AN AL).2.1 (diAL (I 1) (I 2) f AI AN AL) u' (up1 G 0 (diall (I 1) (I 2) f AI AN AL))) 1 1) ((lkF (I 1) (I 2) AI AN AL).2.1) AI (diAL (I 1) (I 2) f AI AN AL)) H := hP
            have hD : va_D A (wM cs ad (up1 (up1 I 3 (lkF (I 1) (I 2) AI AN AL).1) 0 0) (lowG (takG (lkF (I 1) (I 2) AI AN AL).1 (lkF (I 1) (I 2) AI AN AL).2.1 (diAL (I 1) (I 2) f AI AN AL) u' (up1 G 0 (diall (I 1) (I 2) f AI AN AL))) 1 1) ((lkF (I 1) (I 2) AI AN AL).2.1) AI (diAL (I 1) (I 2) f AI AN AL)) := hD
            refine lv_aload_n hx hb dX3_direction_125 rfl (lv_at hl 2 rfl) ?_
            refine lv_iload_n hx hb dX3_direction_126 rfl (lv_at hl 5 rfl) ?_
            have eG : diG (I 1) (I 2) f u' AI AN AL G = lowG (takG (lkF (I 1) (I 2) AI AN AL).1 (lkF (I 1) (I 2) AI AN AL).2.1 (diAL (I 1) (I 2) f AI AN AL) u' (up1 G 0 (diall (I 1) (I 2) f AI AN AL))) 1 1 := if_pos huf
            rw [← eG] at hP hD
            refine g_calll (va_runV (As := [.int q]) (rest := []) ⟨hx, hb, hml, hown, hts⟩ (ctX3_told l D cs ad (up1 (up1 I 3 (lkF (I 1) (I 2) AI AN AL).1) 0 0) (diG (I 1) (I 2) f u' AI AN AL G) ((lkF (I 1) (I 2) AI AN AL).2.1) AI (diAL (I 1) (I 2) f AI AN AL) _ q) (cwV 1 hts (gi_V gw_675 gw_677 gw_41 gw_57 gw_678) rfl rfl rfl (by decide +kernel) ⟨Nat.le_of_ble_eq_true rfl, Nat.le_of_ble_eq_true rfl⟩) ⟨g_blind, va_recv hK hP (ci := 3) (q0 := 0) rfl (wm_at (by decide) rfl), g_pre hP hK hD hN⟩ rfl rfl hl.1 rfl (lv_room (Nat.le_of_ble_eq_true rfl)) dX3_direction_127 ⟨Nat.zero_le _, Nat.zero_le _⟩) hD hS hA (fun r u H locs hw hP hD hS => ?_)
            obtain ⟨rfl, rfl⟩ := hw
            have hP : va_P D vc (wM cs ad (up1 (up1 I 3 (lkF (I 1) (I 2) AI AN AL).1) 0 0) (diG (I 1) (I 2) f u' AI AN AL G) ((lkF (I 1) (I 2) AI AN AL).2.1) AI (diAL (I 1) (I 2) f AI AN AL)) H := hP
            have hD : va_D A (wM cs ad (up1 (up1 I 3 (lkF (I 1) (I 2) AI AN AL).1) 0 0) (diG (I 1) (I 2) f u' AI AN AL G) ((lkF (I 1) (I 2) AI AN AL).2.1) AI (diAL (I 1) (I 2) f AI AN AL)) := hD
            skip
            have e8 : dirS I G AN AI AL k (nI u') q = (up1 (up1 I 3 (lkF (I 1) (I 2) AI AN AL).1) 0 0, diG (I 1) (I 2) f u' AI AN AL G, (lkF (I 1) (I 2) AI AN AL).2.1, AI, diAL (I 1) (I 2) f AI AN AL) := by unfold dirS; rw [hf]; dsimp only; rw [if_pos hun, if_pos hpa, nI_cl (show u' < 2 ^ 31 by omega)]
            have e7 : dirR I G AN AI AL k (nI u') q = (if q = 0 then (dirS I G AN AI AL k (nI u') q).2.1 1 else (dirS I G AN AI AL k (nI u') q).2.1 2) := if_pos ⟨by rw [hf]; rfl, hun, hpa⟩
            exact g_lret hx hb hr hlocks (up1 (up1 I 3 (lkF (I 1) (I 2) AI AN AL).1) 0 0, diG (I 1) (I 2) f u' AI AN AL G, (lkF (I 1) (I 2) AI AN AL).2.1, AI, diAL (I 1) (I 2) f AI AN AL) (⟨e8.symm, by rw [e7, e8]⟩) hK hP hD hS dX3_direction_130
          · refine b_ne_t (tgt := 125) hx hb dX3_direction_116 (by decide) (huf) (by omega) (by omega) ?_
            refine lv_aload_n hx hb dX3_direction_125 rfl (lv_at hl 2 rfl) ?_
            refine lv_iload_n hx hb dX3_direction_126 rfl (lv_at hl 5 rfl) ?_
            have eG : diG (I 1) (I 2) f u' AI AN AL G = takG (lkF (I 1) (I 2) AI AN AL).1 (lkF (I 1) (I 2) AI AN AL).2.1 (diAL (I 1) (I 2) f AI AN AL) u' (up1 G 0 (diall (I 1) (I 2) f AI AN AL)) := if_neg huf
            rw [← eG] at hP hD
            refine g_calll (va_runV (As := [.int q]) (rest := []) ⟨hx, hb, hml, hown, hts⟩ (ctX3_told l D cs ad (up1 (up1 I 3 (lkF (I 1) (I 2) AI AN AL).1) 0 0) (diG (I 1) (I 2) f u' AI AN AL G) ((lkF (I 1) (I 2) AI AN AL).2.1) AI (diAL (I 1) (I 2) f AI AN AL) _ q) (cwV 1 hts (gi_V gw_675 gw_677 gw_41 gw_57 gw_678) rfl rfl rfl (by decide +kernel) ⟨Nat.le_of_ble_eq_true rfl, Nat.le_of_ble_eq_true rfl⟩) ⟨g_blind, va_recv hK hP (ci := 3) (q0 := 0) rfl (wm_at (by decide) rfl), g_pre hP hK hD hN⟩ rfl rfl hl.1 rfl (lv_room (Nat.le_of_ble_eq_true rfl)) dX3_direction_127 ⟨Nat.zero_le _, Nat.zero_le _⟩) hD hS hA (fun r u H locs hw hP hD hS => ?_)
            obtain ⟨rfl, rfl⟩ := hw
            have hP : va_P D vc (wM cs ad (up1 (up1 I 3 (lkF (I 1) (I 2) AI AN AL).1) 0 0) (diG (I 1) (I 2) f u' AI AN AL G) ((lkF (I 1) (I 2) AI AN AL).2.1) AI (diAL (I 1) (I 2) f AI AN AL)) H := hP
            have hD : va_D A (wM cs ad (up1 (up1 I 3 (lkF (I 1) (I 2) AI AN AL).1) 0 0) (diG (I 1) (I 2) f u' AI AN AL G) ((lkF (I 1) (I 2) AI AN AL).2.1) AI (diAL (I 1) (I 2) f AI AN AL)) := hD
            skip
            have e8 : dirS I G AN AI AL k (nI u') q = (up1 (up1 I 3 (lkF (I 1) (I 2) AI AN AL).1) 0 0, diG (I 1) (I 2) f u' AI AN AL G, (lkF (I 1) (I 2) AI AN AL).2.1, AI, diAL (I 1) (I 2) f AI AN AL) := by unfold dirS; rw [hf]; dsimp only; rw [if_pos hun, if_pos hpa, nI_cl (show u' < 2 ^ 31 by omega)]
            have e7 : dirR I G AN AI AL k (nI u') q = (if q = 0 then (dirS I G AN AI AL k (nI u') q).2.1 1 else (dirS I G AN AI AL k (nI u') q).2.1 2) := if_pos ⟨by rw [hf]; rfl, hun, hpa⟩
            exact g_lret hx hb hr hlocks (up1 (up1 I 3 (lkF (I 1) (I 2) AI AN AL).1) 0 0, diG (I 1) (I 2) f u' AI AN AL G, (lkF (I 1) (I 2) AI AN AL).2.1, AI, diAL (I 1) (I 2) f AI AN AL) (⟨e8.symm, by rw [e7, e8]⟩) hK hP hD hS dX3_direction_130
      · have hun : ¬ unM I u = true := by rw [show unM I u = false from bz_1.mp h7]; decide
        refine lv_aload_n hx hb dX3_direction_25 rfl (lv_at hl 1 rfl) ?_
        refine lv_iconst (v := nI 1) hx hb dX3_direction_26 (by decide) ?_
        refine g_calli (va_runV (As := [.int (nI 1)]) (rest := []) ⟨hx, hb, hml, hown, hts⟩ (ctX3_raise l D cs ad (up1 I 3 (lkF (I 1) (I 2) AI AN AL).1) G ((lkF (I 1) (I 2) AI AN AL).2.1) AI ((lkF (I 1) (I 2) AI AN AL).2.2) _ 1) (cwV 1 hts (gi_V gw_660 gw_662 gw_38 gw_57 gw_663) rfl rfl rfl (by decide +kernel) ⟨Nat.le_of_ble_eq_true rfl, Nat.le_of_ble_eq_true rfl⟩) ⟨g_blind, va_recv hK hP (ci := 3) (q0 := 0) rfl (wm_at (by decide) rfl), g_pre hP hK hD hN⟩ rfl rfl hl.1 rfl (lv_room (Nat.le_of_ble_eq_true rfl)) dX3_direction_27 ⟨Nat.zero_le _, Nat.zero_le _⟩) hD hS hA (fun r u H locs hw hP hD hS => ?_)
        obtain ⟨rfl, rfl⟩ := hw
        have hP : va_P D vc (wM cs ad (up1 (up1 I 3 (lkF (I 1) (I 2) AI AN AL).1) 0 1) G ((lkF (I 1) (I 2) AI AN AL).2.1) AI ((lkF (I 1) (I 2) AI AN AL).2.2)) H := hP
        have hD : va_D A (wM cs ad (up1 (up1 I 3 (lkF (I 1) (I 2) AI AN AL).1) 0 1) G ((lkF (I 1) (I 2) AI AN AL).2.1) AI ((lkF (I 1) (I 2) AI AN AL).2.2)) := hD
        refine lv_i2l (v := Int32.toInt64 (nI 0)) hx hb dX3_direction_30 rfl ?_
        exact g_lret hx hb hr hlocks (up1 (up1 I 3 (lkF (I 1) (I 2) AI AN AL).1) 0 1, G, (lkF (I 1) (I 2) AI AN AL).2.1, AI, (lkF (I 1) (I 2) AI AN AL).2.2) (⟨by unfold dirS; rw [hf]; dsimp only; rw [if_neg hun], by unfold dirR; rw [if_neg (fun z => hun z.2.1)]; exact i0⟩) hK hP hD hS dX3_direction_31
