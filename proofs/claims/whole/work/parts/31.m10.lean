abbrev rmX3_whole : Room := { frames := 5, cells := 0, slots := 0, locals := 118 }
set_option maxHeartbeats 4000000 in
set_option maxRecDepth 100000 in
theorem ctX3_whole (l : Launch) (D : va_G) (cs : Nat → ClassId) (ad : Nat → Nat) (I : Nat → Nat) (G : Nat → Int64) (AN : Nat → Nat → Nat) (AI : Nat → Int32) (AL : Nat → Nat → Int64) (sz : Nat) (mo : Nat → Nat) (h1 : I 1 ≤ 3) (h2 : I 2 ≤ 3) (hok : okA AN) (hfb : okB (I 1) (I 2) AI AN AL) (hw : okW (I 1) (I 2) AI AN AL mo) : Met l yX3_whole (Cond.code yX3_whole cX3_whole 1 (some FieldType.boolean) :: GW) rmX3_whole (va_Pc [.ref (ad 0)] (gP D cs (wM cs ad I G AN AI AL) sz)) (va_Qi (fun (r : Int32) (u : MS) => (∃ G9, u = (up1 (up1 (up1 (up1 I 0 0) 3 (lkF (I 1) (I 2) AI AN AL).1) 4 (fbS (I 1) (I 2) AI AN AL).1) 3 (fwL (I 1) (I 2) AI AN AL).1, G9, (fwL (I 1) (I 2) AI AN AL).2.1, AI, (fwF (I 1) (I 2) AI AN AL mo).2)) ∧ r = bz (fwF (I 1) (I 2) AI AN AL mo).1) (gB D cs (va_A (wM cs ad I G AN AI AL) sz) (wMs cs ad)) (va_A (wM cs ad I G AN AI AL) sz)) 0 0 (va_A (wM cs ad I G AN AI AL) sz) := by
  refine Met.ofW (cc := cX3_whole) (maxL := 1) (ret := (some FieldType.boolean)) (by decide) rfl ?_
  intro p e s m args below meth c s₁ B hml hv
  obtain ⟨rfl, hsz, hP, hK, hD0, hN⟩ := hv
  have hx := B.exec
  have hb := B.bytes
  have hr := B.returns
  have hts : ∀ w ∈ GW, w.before _ s = true := fun w h => atoms_spec (ws := Cond.code yX3_whole cX3_whole 1 (some FieldType.boolean) :: GW) B.pre w (List.mem_cons_of_mem _ h)
  have hown : s.vm.findClass RX3 = some m.cls := findClass_of_methodNamed B.named
  have hlocks := B.notSynchronized
  subst hsz
  have hD := hD0.self (sz := s.heap.size)
  generalize hAe : va_A (wM cs ad I G AN AI AL) s.heap.size = A at hD ⊢
  have hA : ∀ q : Nat, s.heap.size ≤ q → A q := fun q h => by rw [← hAe]; exact Or.inr h
  have hS : va_S A s.heap s.heap [] := va_S.rf
  have hl := lv_entry [.ref (ad 0)] (n := 1) (Nat.le_of_ble_eq_true rfl)
  rw [lg_entry_eq]
  generalize (lg_sl [.ref (ad 0)] ++ List.replicate (1 - (lg_sl [.ref (ad 0)]).length) Slot.unset).toArray = ls at hl ⊢
  have hl : lv_has ls 1 [(0, .ref (ad 0))] := hl
  generalize hargs : ([.ref (ad 0)] : List Value).toArray = args at *
  show W p l e rmX3_whole s m args below meth c s.heap [] 0 0 _ (F0 m 0 ls [])
  have hww := hw
  refine lv_aload_n hx hb dX3_whole_0 rfl (lv_at hl 0 rfl) ?_
  refine lv_iconst (v := nI 0) hx hb dX3_whole_1 (by decide) ?_
  refine b_put (own := RX3) (C := RX3) (T := TX3) (N := 23) (ci := 3) (v := .int (nI 0)) hx hb hts usX3 tyX3 tyX3_ok nmX3 hown hK hP hD hS 0 (by decide) rfl rfl 0 (by decide) (hts _ gw_504) rfl rfl rfl (Nat.le_of_ble_eq_true rfl) dX3_whole_2 sM_I0 (fun H locs hP hD hS => ?_)
  refine lv_aload_n hx hb dX3_whole_5 rfl (lv_at hl 0 rfl) ?_
  refine g_calli (va_runV (As := []) (rest := []) ⟨hx, hb, hml, hown, hts⟩ (ctX3_findWhole l D cs ad (up1 I 0 0) G AN AI AL _ mo h1 h2 hok hfb hww) (cwV 0 hts (gi_V gw_711 gw_713 gw_47 gw_57 gw_714) rfl rfl rfl (by decide +kernel) ⟨Nat.le_of_ble_eq_true rfl, Nat.le_of_ble_eq_true rfl⟩) ⟨g_blind, va_recv hK hP (ci := 3) (q0 := 0) rfl (wm_at (by decide) rfl), g_pre hP hK hD hN⟩ rfl rfl hl.1 rfl (lv_room (Nat.le_of_ble_eq_true rfl)) dX3_whole_6 ⟨Nat.zero_le _, Nat.zero_le _⟩) hD hS hA (fun r u H locs hw hP hD hS => ?_)
  obtain ⟨⟨G9, rfl⟩, hw2⟩ := hw
  have hP : va_P D vc (wM cs ad (up1 (up1 (up1 (up1 I 0 0) 3 (lkF (I 1) (I 2) AI AN AL).1) 4 (fbS (I 1) (I 2) AI AN AL).1) 3 (fwL (I 1) (I 2) AI AN AL).1) G9 ((fwL (I 1) (I 2) AI AN AL).2.1) AI ((fwF (I 1) (I 2) AI AN AL mo).2)) H := hP
  have hD : va_D A (wM cs ad (up1 (up1 (up1 (up1 I 0 0) 3 (lkF (I 1) (I 2) AI AN AL).1) 4 (fbS (I 1) (I 2) AI AN AL).1) 3 (fwL (I 1) (I 2) AI AN AL).1) G9 ((fwL (I 1) (I 2) AI AN AL).2.1) AI ((fwF (I 1) (I 2) AI AN AL mo).2)) := hD
  have hw2 : r = bz (fwF (I 1) (I 2) AI AN AL mo).1 := hw2
  subst hw2
  exact g_zret hx hb hr hlocks (bz_n _) (up1 (up1 (up1 (up1 I 0 0) 3 (lkF (I 1) (I 2) AI AN AL).1) 4 (fbS (I 1) (I 2) AI AN AL).1) 3 (fwL (I 1) (I 2) AI AN AL).1, G9, (fwL (I 1) (I 2) AI AN AL).2.1, AI, (fwF (I 1) (I 2) AI AN AL mo).2) ⟨⟨G9, rfl⟩, rfl⟩ hK hP hD hS dX3_whole_9

def leaI (I : Nat → Nat) (AN : Nat → Nat → Nat) (AI : Nat → Int32) (AL : Nat → Nat → Int64) (mo : Nat → Nat) (u : Int32) (v : MS) : Prop :=
  if unM I u then ∃ G9, v = (up1 (up1 (up1 (up1 I 3 (lkF (I 1) (I 2) AI AN AL).1) 4 (fbS (I 1) (I 2) AI AN AL).1) 3 (fwL (I 1) (I 2) AI AN AL).1) 0 (if (fwF (I 1) (I 2) AI AN AL mo).1 then 0 else 2), G9, (fwL (I 1) (I 2) AI AN AL).2.1, AI, (fwF (I 1) (I 2) AI AN AL mo).2)
  else ∃ G9, v = (up1 I 0 1, G9, AN, AI, AL)
def leaR (I : Nat → Nat) (AN : Nat → Nat → Nat) (AI : Nat → Int32) (AL : Nat → Nat → Int64) (mo : Nat → Nat) (u : Int32) : Int64 := if unM I u ∧ (fwF (I 1) (I 2) AI AN AL mo).1 then (fwF (I 1) (I 2) AI AN AL mo).2 11 u.toNatClampNeg else 0

abbrev rmX3_least : Room := { frames := 5, cells := 0, slots := 0, locals := 118 }
set_option maxHeartbeats 4000000 in
set_option maxRecDepth 100000 in
theorem ctX3_least (l : Launch) (D : va_G) (cs : Nat → ClassId) (ad : Nat → Nat) (I : Nat → Nat) (G : Nat → Int64) (AN : Nat → Nat → Nat) (AI : Nat → Int32) (AL : Nat → Nat → Int64) (sz : Nat) (mo : Nat → Nat) (u : Int32) (h1 : I 1 ≤ 3) (h2 : I 2 ≤ 3) (hok : okA AN) (hfb : okB (I 1) (I 2) AI AN AL) (hw : okW (I 1) (I 2) AI AN AL mo) : Met l yX3_least (Cond.code yX3_least cX3_least 2 (some FieldType.long) :: GW) rmX3_least (va_Pc [.ref (ad 0), .int u] (gP D cs (wM cs ad I G AN AI AL) sz)) (va_Ql (fun (r : Int64) (v : MS) => leaI I AN AI AL mo u v ∧ r = leaR I AN AI AL mo u) (gB D cs (va_A (wM cs ad I G AN AI AL) sz) (wMs cs ad)) (va_A (wM cs ad I G AN AI AL) sz)) 0 0 (va_A (wM cs ad I G AN AI AL) sz) := by
  refine Met.ofW (cc := cX3_least) (maxL := 2) (ret := (some FieldType.long)) (by decide) rfl ?_
  intro p e s m args below meth c s₁ B hml hv
  obtain ⟨rfl, hsz, hP, hK, hD0, hN⟩ := hv
  have hx := B.exec
  have hb := B.bytes
  have hr := B.returns
  have hts : ∀ w ∈ GW, w.before _ s = true := fun w h => atoms_spec (ws := Cond.code yX3_least cX3_least 2 (some FieldType.long) :: GW) B.pre w (List.mem_cons_of_mem _ h)
  have hown : s.vm.findClass RX3 = some m.cls := findClass_of_methodNamed B.named
  have hlocks := B.notSynchronized
  subst hsz
  have hD := hD0.self (sz := s.heap.size)
  generalize hAe : va_A (wM cs ad I G AN AI AL) s.heap.size = A at hD ⊢
  have hA : ∀ q : Nat, s.heap.size ≤ q → A q := fun q h => by rw [← hAe]; exact Or.inr h
  have hS : va_S A s.heap s.heap [] := va_S.rf
  have hl := lv_entry [.ref (ad 0), .int u] (n := 2) (Nat.le_of_ble_eq_true rfl)
  rw [lg_entry_eq]
  generalize (lg_sl [.ref (ad 0), .int u] ++ List.replicate (2 - (lg_sl [.ref (ad 0), .int u]).length) Slot.unset).toArray = ls at hl ⊢
  have hl : lv_has ls 2 [(0, .ref (ad 0)), (1, .int u)] := hl
  generalize hargs : ([.ref (ad 0), .int u] : List Value).toArray = args at *
  show W p l e rmX3_least s m args below meth c s.heap [] 0 0 _ (F0 m 0 ls [])
  have hww := hw
  refine lv_aload_n hx hb dX3_least_0 rfl (lv_at hl 0 rfl) ?_
  refine lv_iload_n hx hb dX3_least_1 rfl (lv_at hl 1 rfl) ?_
  refine g_calli (va_runV (As := [.int u]) (rest := []) ⟨hx, hb, hml, hown, hts⟩ (ctX3_isUnknown l D cs ad I G AN AI AL _ u) (cwV 1 hts (gi_V gw_656 gw_658 gw_37 gw_57 gw_659) rfl rfl rfl (by decide +kernel) ⟨Nat.le_of_ble_eq_true rfl, Nat.le_of_ble_eq_true rfl⟩) ⟨g_blind, va_recv hK hP (ci := 3) (q0 := 0) rfl (wm_at (by decide) rfl), g_pre hP hK hD hN⟩ rfl rfl hl.1 rfl (lv_room (Nat.le_of_ble_eq_true rfl)) dX3_least_2 ⟨Nat.zero_le _, Nat.zero_le _⟩) hD hS hA (fun r u H locs hw hP hD hS => ?_)
  obtain ⟨rfl, hw2⟩ := hw
  have hP : va_P D vc (wM cs ad I G AN AI AL) H := hP
  have hD : va_D A (wM cs ad I G AN AI AL) := hD
  have hw2 : r = bz (unM I u) := hw2
  subst hw2
  refine lv_if_ne (tgt := 15) hx hb dX3_least_5 (by decide) (fun h => ?_) (fun h => ?_)
  · have hun := bz_t h
    obtain ⟨u', rfl, hu⟩ := unM_spec h1 hun
    refine lv_aload_n hx hb dX3_least_15 rfl (lv_at hl 0 rfl) ?_
    refine lv_aload_n hx hb dX3_least_16 rfl (lv_at hl 0 rfl) ?_
    refine g_calli (va_runV (As := []) (rest := [.ref (ad 0)]) ⟨hx, hb, hml, hown, hts⟩ (ctX3_findWhole l D cs ad I G AN AI AL _ mo h1 h2 hok hfb hww) (cwV 0 hts (gi_V gw_711 gw_713 gw_47 gw_57 gw_714) rfl rfl rfl (by decide +kernel) ⟨Nat.le_of_ble_eq_true rfl, Nat.le_of_ble_eq_true rfl⟩) ⟨g_blind, va_recv hK hP (ci := 3) (q0 := 0) rfl (wm_at (by decide) rfl), g_pre hP hK hD hN⟩ rfl rfl hl.1 rfl (lv_room (Nat.le_of_ble_eq_true rfl)) dX3_least_17 ⟨Nat.zero_le _, Nat.zero_le _⟩) hD hS hA (fun r u H locs hw hP hD hS => ?_)
    obtain ⟨⟨G9, rfl⟩, hw2⟩ := hw
    have hP : va_P D vc (wM cs ad (up1 (up1 (up1 I 3 (lkF (I 1) (I 2) AI AN AL).1) 4 (fbS (I 1) (I 2) AI AN AL).1) 3 (fwL (I 1) (I 2) AI AN AL).1) G9 ((fwL (I 1) (I 2) AI AN AL).2.1) AI ((fwF (I 1) (I 2) AI AN AL mo).2)) H := hP
    have hD : va_D A (wM cs ad (up1 (up1 (up1 I 3 (lkF (I 1) (I 2) AI AN AL).1) 4 (fbS (I 1) (I 2) AI AN AL).1) 3 (fwL (I 1) (I 2) AI AN AL).1) G9 ((fwL (I 1) (I 2) AI AN AL).2.1) AI ((fwF (I 1) (I 2) AI AN AL mo).2)) := hD
    have hw2 : r = bz (fwF (I 1) (I 2) AI AN AL mo).1 := hw2
    subst hw2
    refine lv_if_eq (tgt := 27) hx hb dX3_least_20 (by decide) (fun h9 => ?_) (fun h9 => ?_)
    · have hno : ¬ (fwF (I 1) (I 2) AI AN AL mo).1 = true := by rw [bz_1.mp h9]; decide
      refine lv_iconst (v := nI 2) hx hb dX3_least_27 (by decide) ?_
      refine b_put (own := RX3) (C := RX3) (T := TX3) (N := 23) (ci := 3) (v := .int (nI 2)) hx hb hts usX3 tyX3 tyX3_ok nmX3 hown hK hP hD hS 0 (by decide) rfl rfl 0 (by decide) (hts _ gw_504) rfl rfl rfl (Nat.le_of_ble_eq_true rfl) dX3_least_28 sM_I0 (fun H locs hP hD hS => ?_)
      refine lv_aload_n hx hb dX3_least_31 rfl (lv_at hl 0 rfl) ?_
      refine b_get (own := RX3) (C := RX3) (T := TX3) (N := 23) (ci := 3) (v := .int (nI 2)) hx hb hts usX3 hown hK hP 0 (by decide) rfl rfl 0 (by decide) (hts _ gw_504) rfl dX3_least_32 ?_
      refine lv_if_le (tgt := 42) hx hb dX3_least_35 (by decide) (fun q => absurd q (by decide)) (fun _ => ?_)
      refine lv_lconst (v := 0) hx hb dX3_least_38 (by decide) ?_
      refine lv_goto (tgt := 48) hx hb dX3_least_39 (by decide) ?_
      exact g_lret hx hb hr hlocks (up1 (up1 (up1 (up1 I 3 (lkF (I 1) (I 2) AI AN AL).1) 4 (fbS (I 1) (I 2) AI AN AL).1) 3 (fwL (I 1) (I 2) AI AN AL).1) 0 2, G9, (fwL (I 1) (I 2) AI AN AL).2.1, AI, (fwF (I 1) (I 2) AI AN AL mo).2) (⟨by unfold leaI; rw [if_pos hun, if_neg hno]; exact ⟨G9, rfl⟩, by unfold leaR; rw [if_neg (fun z => hno z.2)]⟩) hK hP hD hS dX3_least_48
    · have hyes : (fwF (I 1) (I 2) AI AN AL mo).1 = true := bz_t h9
      refine lv_iconst (v := nI 0) hx hb dX3_least_23 (by decide) ?_
      refine lv_goto (tgt := 28) hx hb dX3_least_24 (by decide) ?_
      refine b_put (own := RX3) (C := RX3) (T := TX3) (N := 23) (ci := 3) (v := .int (nI 0)) hx hb hts usX3 tyX3 tyX3_ok nmX3 hown hK hP hD hS 0 (by decide) rfl rfl 0 (by decide) (hts _ gw_504) rfl rfl rfl (Nat.le_of_ble_eq_true rfl) dX3_least_28 sM_I0 (fun H locs hP hD hS => ?_)
      refine lv_aload_n hx hb dX3_least_31 rfl (lv_at hl 0 rfl) ?_
      refine b_get (own := RX3) (C := RX3) (T := TX3) (N := 23) (ci := 3) (v := .int (nI 0)) hx hb hts usX3 hown hK hP 0 (by decide) rfl rfl 0 (by decide) (hts _ gw_504) rfl dX3_least_32 ?_
      refine lv_if_le (tgt := 42) hx hb dX3_least_35 (by decide) (fun _ => ?_) (fun q => absurd (by decide) q)
      refine lv_aload_n hx hb dX3_least_42 rfl (lv_at hl 0 rfl) ?_
      refine b_get (own := RX3) (C := RX3) (T := TX3) (N := 23) (ci := 3) (v := .ref (ad 11)) hx hb hts usX3 hown hK hP 0 (by decide) rfl rfl 18 (by decide) (hts _ gw_522) rfl dX3_least_43 ?_
      refine lv_iload_n hx hb dX3_least_46 rfl (lv_at hl 1 rfl) ?_
      refine b_lald hx hb hK hP 11 1 (by decide) rfl rfl (by omega) (by decide) dX3_least_47 ?_
      exact g_lret hx hb hr hlocks (up1 (up1 (up1 (up1 I 3 (lkF (I 1) (I 2) AI AN AL).1) 4 (fbS (I 1) (I 2) AI AN AL).1) 3 (fwL (I 1) (I 2) AI AN AL).1) 0 0, G9, (fwL (I 1) (I 2) AI AN AL).2.1, AI, (fwF (I 1) (I 2) AI AN AL mo).2) (⟨by unfold leaI; rw [if_pos hun, if_pos hyes]; exact ⟨G9, rfl⟩, by unfold leaR; rw [if_pos ⟨hun, hyes⟩, nI_cl (show u' < 2 ^ 31 by omega)]⟩) hK hP hD hS dX3_least_48
  · have hun : ¬ unM I u = true := by rw [show unM I u = false from bz_1.mp h]; decide
    refine lv_aload_n hx hb dX3_least_8 rfl (lv_at hl 0 rfl) ?_
    refine lv_iconst (v := nI 1) hx hb dX3_least_9 (by decide) ?_
    refine g_calli (va_runV (As := [.int (nI 1)]) (rest := []) ⟨hx, hb, hml, hown, hts⟩ (ctX3_raise l D cs ad I G AN AI AL _ 1) (cwV 1 hts (gi_V gw_660 gw_662 gw_38 gw_57 gw_663) rfl rfl rfl (by decide +kernel) ⟨Nat.le_of_ble_eq_true rfl, Nat.le_of_ble_eq_true rfl⟩) ⟨g_blind, va_recv hK hP (ci := 3) (q0 := 0) rfl (wm_at (by decide) rfl), g_pre hP hK hD hN⟩ rfl rfl hl.1 rfl (lv_room (Nat.le_of_ble_eq_true rfl)) dX3_least_10 ⟨Nat.zero_le _, Nat.zero_le _⟩) hD hS hA (fun r u H locs hw hP hD hS => ?_)
    obtain ⟨rfl, rfl⟩ := hw
    have hP : va_P D vc (wM cs ad (up1 I 0 1) G AN AI AL) H := hP
    have hD : va_D A (wM cs ad (up1 I 0 1) G AN AI AL) := hD
    refine lv_i2l (v := Int32.toInt64 (nI 0)) hx hb dX3_least_13 rfl ?_
    exact g_lret hx hb hr hlocks (up1 I 0 1, G, AN, AI, AL) (⟨by unfold leaI; rw [if_neg hun]; exact ⟨G, rfl⟩, by unfold leaR; rw [if_neg (fun z => hun z.1)]; exact i0⟩) hK hP hD hS dX3_least_14

def ne0 (AL : Nat → Nat → Int64) : Nat → Nat → Int64 := fo (fun u X => up2 X 13 u 0) 3 0 AL
def ne3 (AN : Nat → Nat → Nat) (AI : Nat → Int32) (AL : Nat → Nat → Int64) : Nat → Nat → Int64 := fo (fun r X => up2 X 6 r (Int32.toInt64 (AI (4 * AN 3 r + 3)))) 3 0 AL
def ne3a (AN : Nat → Nat → Nat) (AL : Nat → Nat → Int64) : Nat → Nat → Int64 := fo (fun c X => up2 X 13 (AN 2 c) (X 7 c)) 3 0 AL
def netu (n m rk : Nat) (AN : Nat → Nat → Nat) (AI : Nat → Int32) (AL : Nat → Nat → Int64) : Nat → Nat → Int64 := fo (fun g X => fo (fun r Y => up2 Y 14 (3 * g + r) (prd n AI g (AN 3 r))) rk 0 X) m 0 AL
def neco (m r : Nat) (AI : Nat → Int32) (AL : Nat → Nat → Int64) : Nat → Nat → Int64 := fo (fun g X => up2 X 6 r (X 6 r + X 14 (3 * g + r) * Int32.toInt64 (AI (4 * g + 3)))) m 0 (up2 AL 6 r 0)
def nesq (m r c : Nat) (AL : Nat → Nat → Int64) : Nat → Nat → Int64 := fo (fun g X => up2 X 5 (3 * r + c) (X 5 (3 * r + c) + X 14 (3 * g + r) * X 14 (3 * g + c))) m 0 (up2 AL 5 (3 * r + c) 0)
def nero (m rk : Nat) (AI : Nat → Int32) (AL : Nat → Nat → Int64) : Nat → Nat → Int64 := fo (fun r X => fo (fun c Y => nesq m r c Y) rk 0 (neco m r AI X)) rk 0 AL
def neou (n rk : Nat) (AN : Nat → Nat → Nat) (AI : Nat → Int32) (AL : Nat → Nat → Int64) : Nat → Nat → Int64 := fo (fun u X => fo (fun r Y => up2 Y 13 u (Y 13 u + nbr AN AI r u * Y 7 r)) rk 0 X) n 0 AL
/-- findNearest: all, tables -/
def neF (n m rk : Nat) (AN : Nat → Nat → Nat) (AI : Nat → Int32) (AL : Nat → Nat → Int64) : Int64 × (Nat → Nat → Int64) :=
  if rk = 3 then (det 3 (sqf 3 AN AI (ne3 AN AI (ne0 AL)) 5), ne3a AN (ssq 3 (sqf 3 AN AI (ne3 AN AI (ne0 AL)))))
  else (det rk (nero m rk AI (netu n m rk AN AI (ne0 AL)) 5), neou n rk AN AI (ssq rk (nero m rk AI (netu n m rk AN AI (ne0 AL)))))
def nrF (n m : Nat) (AI : Nat → Int32) (AN : Nat → Nat → Nat) (AL : Nat → Nat → Int64) : Int64 × (Nat → Nat → Int64) := neF n m (lkF n m AI AN AL).1 (lkF n m AI AN AL).2.1 AI (lkF n m AI AN AL).2.2
theorem up1_swap {α : Type} {f : Nat → α} {i j : Nat} (h : i ≠ j) {a b : α} : up1 (up1 f i a) j b = up1 (up1 f j b) i a := by
  funext x
  by_cases h1 : x = i
  · subst h1
    simp [up1, h]
  · by_cases h2 : x = j
    · subst h2
      simp [up1, h1]
    · simp [up1, h1, h2]

abbrev rmX3_findNearest : Room := { frames := 3, cells := 0, slots := 0, locals := 68 }
set_option maxHeartbeats 4000000 in
set_option maxRecDepth 100000 in
theorem ctX3_findNearest (l : Launch) (D : va_G) (cs : Nat → ClassId) (ad : Nat → Nat) (I : Nat → Nat) (G : Nat → Int64) (AN : Nat → Nat → Nat) (AI : Nat → Int32) (AL : Nat → Nat → Int64) (sz : Nat)  (h1 : I 1 ≤ 3) (h2 : I 2 ≤ 3) (hok : okA AN) : Met l yX3_findNearest (Cond.code yX3_findNearest cX3_findNearest 4 none :: GW) rmX3_findNearest (va_Pc [.ref (ad 0)] (gP D cs (wM cs ad I G AN AI AL) sz)) (va_Qv (fun u : MS => u = (up1 I 3 (lkF (I 1) (I 2) AI AN AL).1, up1 (up1 G 3 (nrF (I 1) (I 2) AI AN AL).1) 0 (nrF (I 1) (I 2) AI AN AL).1, (lkF (I 1) (I 2) AI AN AL).2.1, AI, (nrF (I 1) (I 2) AI AN AL).2)) (gB D cs (va_A (wM cs ad I G AN AI AL) sz) (wMs cs ad)) (va_A (wM cs ad I G AN AI AL) sz)) 0 0 (va_A (wM cs ad I G AN AI AL) sz) := by
  refine Met.ofW (cc := cX3_findNearest) (maxL := 4) (ret := none) (by decide) rfl ?_
  intro p e s m args below meth c s₁ B hml hv
  obtain ⟨rfl, hsz, hP, hK, hD0, hN⟩ := hv
  have hx := B.exec
  have hb := B.bytes
  have hr := B.returns
  have hts : ∀ w ∈ GW, w.before _ s = true := fun w h => atoms_spec (ws := Cond.code yX3_findNearest cX3_findNearest 4 none :: GW) B.pre w (List.mem_cons_of_mem _ h)
  have hown : s.vm.findClass RX3 = some m.cls := findClass_of_methodNamed B.named
  have hlocks := B.notSynchronized
  subst hsz
  have hD := hD0.self (sz := s.heap.size)
  generalize hAe : va_A (wM cs ad I G AN AI AL) s.heap.size = A at hD ⊢
  have hA : ∀ q : Nat, s.heap.size ≤ q → A q := fun q h => by rw [← hAe]; exact Or.inr h
  have hS : va_S A s.heap s.heap [] := va_S.rf
  have hl := lv_entry [.ref (ad 0)] (n := 4) (Nat.le_of_ble_eq_true rfl)
  rw [lg_entry_eq]
  generalize (lg_sl [.ref (ad 0)] ++ List.replicate (4 - (lg_sl [.ref (ad 0)]).length) Slot.unset).toArray = ls at hl ⊢
  have hl : lv_has ls 4 [(0, .ref (ad 0))] := hl
  generalize hargs : ([.ref (ad 0)] : List Value).toArray = args at *
  show W p l e rmX3_findNearest s m args below meth c s.heap [] 0 0 _ (F0 m 0 ls [])
  refine lv_aload_n hx hb dX3_findNearest_0 rfl (lv_at hl 0 rfl) ?_
  refine g_callv (va_runV (As := []) (rest := []) ⟨hx, hb, hml, hown, hts⟩ (ctX3_look l D cs ad I G AN AI AL _ h1 h2 hok) (cwV 0 hts (gi_V gw_616 gw_618 gw_30 gw_57 gw_619) rfl rfl rfl (by decide +kernel) ⟨Nat.le_of_ble_eq_true rfl, Nat.le_of_ble_eq_true rfl⟩) ⟨g_blind, va_recv hK hP (ci := 3) (q0 := 0) rfl (wm_at (by decide) rfl), g_pre hP hK hD hN⟩ rfl rfl hl.1 rfl (lv_room (Nat.le_of_ble_eq_true rfl)) dX3_findNearest_1 ⟨Nat.zero_le _, Nat.zero_le _⟩) hD hS hA (fun u H locs hw hP hD hS => ?_)
  obtain rfl := hw
  have hP : va_P D vc (wM cs ad (up1 I 3 (lkF (I 1) (I 2) AI AN AL).1) G ((lkF (I 1) (I 2) AI AN AL).2.1) AI ((lkF (I 1) (I 2) AI AN AL).2.2)) H := hP
  have hD : va_D A (wM cs ad (up1 I 3 (lkF (I 1) (I 2) AI AN AL).1) G ((lkF (I 1) (I 2) AI AN AL).2.1) AI ((lkF (I 1) (I 2) AI AN AL).2.2)) := hD
  have hL := lk_ok (AI := AI) (AL := AL) h1 h2 hok
  have hL1 : (lkF (I 1) (I 2) AI AN AL).1 ≤ 3 := Nat.le_trans hL.2.1 h1
  have hL2 := hL.2.1
  have hL3 : okA (lkF (I 1) (I 2) AI AN AL).2.1 := hL.2.2
  obtain ⟨rk, AN1, AL1, hLe⟩ : ∃ rk AN1 AL1, (lkF (I 1) (I 2) AI AN AL) = (rk, AN1, AL1) := ⟨_, _, _, rfl⟩
  have eN : nrF (I 1) (I 2) AI AN AL = neF (I 1) (I 2) rk AN1 AI AL1 := by unfold nrF; rw [hLe]
  rw [eN, hLe]
  rw [hLe] at hP hD hL1 hL2 hL3
  have hP : va_P D vc (wM cs ad (up1 I 3 rk) G AN1 AI AL1) H := hP
  have hD : va_D A (wM cs ad (up1 I 3 rk) G AN1 AI AL1) := hD
  have hL1 : rk ≤ 3 := hL1
  have hL3 : okA AN1 := hL3
  have hL2 : rk ≤ I 1 := hL2
  refine lv_iconst (v := nI 0) hx hb dX3_findNearest_4 (by decide) ?_
  refine lv_istore_n (lv' := [(1, .int (nI 0)), (0, .ref (ad 0))]) hx hb dX3_findNearest_5 rfl hl (by decide) rfl (fun ls hl => ?_)
  have lp6 : ∀ (Q : State → Prop) (n u9 : Nat) (X : Nat → Nat → Int64) (H : Heap) (locs : List Loc) (ls : Array Slot), u9 + n = 3 → va_P D vc (wM cs ad (up1 I 3 rk) G AN1 AI X) H → va_D A (wM cs ad (up1 I 3 rk) G AN1 AI X) → va_S A s.heap H locs → lv_has ls 4 [(1, .int (nI u9)), (0, .ref (ad 0))] → (∀ (H : Heap) (locs : List Loc) (ls : Array Slot), va_P D vc (wM cs ad (up1 I 3 rk) G AN1 AI (fo (fun u X => up2 X 13 u 0) n u9 X)) H → va_D A (wM cs ad (up1 I 3 rk) G AN1 AI (fo (fun u X => up2 X 13 u 0) n u9 X)) → va_S A s.heap H locs → lv_has ls 4 [(1, .int (nI 3)), (0, .ref (ad 0))] → W p l e rmX3_findNearest s m args below meth c H locs 0 0 Q (F0 m 24 ls [])) → W p l e rmX3_findNearest s m args below meth c H locs 0 0 Q (F0 m 6 ls []) := by
    intro Q n
    induction n with
    | zero =>
      intro u9 X H locs ls hn hP hD hS hl kx
      have hi : u9 = 3 := by omega
      refine lv_iload_n hx hb dX3_findNearest_6 rfl (lv_at hl 0 rfl) ?_
      refine lv_iconst (v := nI 3) hx hb dX3_findNearest_7 (by decide) ?_
      refine b_ge_t (tgt := 24) hx hb dX3_findNearest_8 (by decide) (by omega) (by omega) ?_
      rw [hi] at hl
      exact kx H locs ls hP hD hS (lv_sub hl [0, 1] rfl)
    | succ n ih =>
      intro u9 X H locs ls hn hP hD hS hl kx
      have hi : u9 < 3 := by omega
      refine lv_iload_n hx hb dX3_findNearest_6 rfl (lv_at hl 0 rfl) ?_
      refine lv_iconst (v := nI 3) hx hb dX3_findNearest_7 (by decide) ?_
      refine b_ge_f (tgt := 24) hx hb dX3_findNearest_8 (by decide) (by omega) (by omega) ?_
      refine lv_aload_n hx hb dX3_findNearest_11 rfl (lv_at hl 1 rfl) ?_
      refine b_get (own := RX3) (C := RX3) (T := TX3) (N := 23) (ci := 3) (v := .ref (ad 13)) hx hb hts usX3 hown hK hP 0 (by decide) rfl rfl 20 (by decide) (hts _ gw_524) rfl dX3_findNearest_12 ?_
      refine lv_iload_n hx hb dX3_findNearest_15 rfl (lv_at hl 0 rfl) ?_
      refine lv_lconst (v := 0) hx hb dX3_findNearest_16 (by decide) ?_
      refine b_last hx hb hK hP hD hS 13 1 (by decide) rfl rfl (by omega) (by decide) dX3_findNearest_17 sM_L13 (fun H locs hP hD hS => ?_)
      refine b_iinc (lv' := [(1, .int (nI (u9 + 1))), (0, .ref (ad 0))]) hx hb dX3_findNearest_18 hl (k := 0) rfl (by decide) rfl (fun ls hl => ?_)
      refine lv_goto (tgt := 6) hx hb dX3_findNearest_21 (by decide) ?_
      exact ih (u9 + 1) _ H locs ls (by omega) hP hD hS (lv_sub hl [0, 1] rfl) kx
  refine lp6 _ (3) 0 AL1 _ _ ls (by omega) hP hD hS (lv_sub hl [0, 1] rfl) (fun H locs ls hP hD hS hl => ?_)
  have hP : va_P D vc (wM cs ad (up1 I 3 rk) G AN1 AI (ne0 AL1)) H := hP
  have hD : va_D A (wM cs ad (up1 I 3 rk) G AN1 AI (ne0 AL1)) := hD
  refine lv_aload_n hx hb dX3_findNearest_24 rfl (lv_at hl 1 rfl) ?_
  refine lv_lconst (v := 1) hx hb dX3_findNearest_25 (by decide) ?_
  refine b_put (own := RX3) (C := RX3) (T := TX3) (N := 23) (ci := 3) (v := .long 1) hx hb hts usX3 tyX3 tyX3_ok nmX3 hown hK hP hD hS 0 (by decide) rfl rfl 21 (by decide) (hts _ gw_525) rfl rfl rfl (Nat.le_of_ble_eq_true rfl) dX3_findNearest_26 sM_G3 (fun H locs hP hD hS => ?_)
  refine lv_aload_n hx hb dX3_findNearest_29 rfl (lv_at hl 1 rfl) ?_
  refine b_get (own := RX3) (C := RX3) (T := TX3) (N := 23) (ci := 3) (v := .int (nI rk)) hx hb hts usX3 hown hK hP 0 (by decide) rfl rfl 4 (by decide) (hts _ gw_508) rfl dX3_findNearest_30 ?_
  refine lv_iconst (v := nI 3) hx hb dX3_findNearest_33 (by decide) ?_
  by_cases hr3 : rk = 3
  · have e1 : neF (I 1) (I 2) rk AN1 AI AL1 = (det 3 (sqf 3 AN1 AI (ne3 AN1 AI (ne0 AL1)) 5), ne3a AN1 (ssq 3 (sqf 3 AN1 AI (ne3 AN1 AI (ne0 AL1))))) := if_pos hr3
    rw [e1]
    refine b_ne_f (tgt := 115) hx hb dX3_findNearest_34 (by decide) (hr3)  ?_
    refine lv_iconst (v := nI 0) hx hb dX3_findNearest_37 (by decide) ?_
    refine lv_istore_n (lv' := [(1, .int (nI 0)), (0, .ref (ad 0))]) hx hb dX3_findNearest_38 rfl hl (by decide) rfl (fun ls hl => ?_)
    have lp39 : ∀ (Q : State → Prop) (n r9 : Nat) (X : Nat → Nat → Int64) (H : Heap) (locs : List Loc) (ls : Array Slot), r9 + n = 3 → va_P D vc (wM cs ad (up1 I 3 rk) (up1 G 3 1) AN1 AI X) H → va_D A (wM cs ad (up1 I 3 rk) (up1 G 3 1) AN1 AI X) → va_S A s.heap H locs → lv_has ls 4 [(1, .int (nI r9)), (0, .ref (ad 0))] → (∀ (H : Heap) (locs : List Loc) (ls : Array Slot), va_P D vc (wM cs ad (up1 I 3 rk) (up1 G 3 1) AN1 AI (fo (fun r X => up2 X 6 r (Int32.toInt64 (AI (4 * AN1 3 r + 3)))) n r9 X)) H → va_D A (wM cs ad (up1 I 3 rk) (up1 G 3 1) AN1 AI (fo (fun r X => up2 X 6 r (Int32.toInt64 (AI (4 * AN1 3 r + 3)))) n r9 X)) → va_S A s.heap H locs → lv_has ls 4 [(1, .int (nI 3)), (0, .ref (ad 0))] → W p l e rmX3_findNearest s m args below meth c H locs 0 0 Q (F0 m 72 ls [])) → W p l e rmX3_findNearest s m args below meth c H locs 0 0 Q (F0 m 39 ls []) := by
      intro Q n
      induction n with
      | zero =>
        intro r9 X H locs ls hn hP hD hS hl kx
        have hi : r9 = 3 := by omega
        refine lv_iload_n hx hb dX3_findNearest_39 rfl (lv_at hl 0 rfl) ?_
        refine lv_iconst (v := nI 3) hx hb dX3_findNearest_40 (by decide) ?_
        refine b_ge_t (tgt := 72) hx hb dX3_findNearest_41 (by decide) (by omega) (by omega) ?_
        rw [hi] at hl
        exact kx H locs ls hP hD hS (lv_sub hl [0, 1] rfl)
      | succ n ih =>
        intro r9 X H locs ls hn hP hD hS hl kx
        have hi : r9 < 3 := by omega
        refine lv_iload_n hx hb dX3_findNearest_39 rfl (lv_at hl 0 rfl) ?_
        refine lv_iconst (v := nI 3) hx hb dX3_findNearest_40 (by decide) ?_
        refine b_ge_f (tgt := 72) hx hb dX3_findNearest_41 (by decide) (by omega) (by omega) ?_
        have hl3 := hL3.2.1 r9 (by omega)
        refine lv_aload_n hx hb dX3_findNearest_44 rfl (lv_at hl 1 rfl) ?_
        refine b_get (own := RX3) (C := RX3) (T := TX3) (N := 23) (ci := 3) (v := .ref (ad 6)) hx hb hts usX3 hown hK hP 0 (by decide) rfl rfl 9 (by decide) (hts _ gw_513) rfl dX3_findNearest_45 ?_
        refine lv_iload_n hx hb dX3_findNearest_48 rfl (lv_at hl 0 rfl) ?_
        refine lv_aload_n hx hb dX3_findNearest_49 rfl (lv_at hl 1 rfl) ?_
        refine b_get (own := RX3) (C := RX3) (T := TX3) (N := 23) (ci := 3) (v := .ref (ad 1)) hx hb hts usX3 hown hK hP 0 (by decide) rfl rfl 3 (by decide) (hts _ gw_507) rfl dX3_findNearest_50 ?_
        refine lv_iconst (v := nI 4) hx hb dX3_findNearest_53 (by decide) ?_
        refine lv_aload_n hx hb dX3_findNearest_54 rfl (lv_at hl 1 rfl) ?_
        refine b_get (own := RX3) (C := RX3) (T := TX3) (N := 23) (ci := 3) (v := .ref (ad 3)) hx hb hts usX3 hown hK hP 0 (by decide) rfl rfl 6 (by decide) (hts _ gw_510) rfl dX3_findNearest_55 ?_
        refine lv_iload_n hx hb dX3_findNearest_58 rfl (lv_at hl 0 rfl) ?_
        refine b_iald hx hb hK hP 3 0 (by decide) rfl rfl (by omega) (by decide) dX3_findNearest_59 ?_
        refine b_muln hx hb dX3_findNearest_60 ?_
        refine lv_iconst (v := nI 3) hx hb dX3_findNearest_61 (by decide) ?_
        refine b_addn hx hb dX3_findNearest_62 ?_
        refine b_iald hx hb hK hP 1 0 (by decide) rfl rfl (by omega) (by decide) dX3_findNearest_63 ?_
        refine lv_i2l (v := Int32.toInt64 (AI ((4 * (AN1 3 r9)) + 3))) hx hb dX3_findNearest_64 rfl ?_
        refine b_last hx hb hK hP hD hS 6 1 (by decide) rfl rfl (by omega) (by decide) dX3_findNearest_65 sM_L6 (fun H locs hP hD hS => ?_)
        refine b_iinc (lv' := [(1, .int (nI (r9 + 1))), (0, .ref (ad 0))]) hx hb dX3_findNearest_66 hl (k := 0) rfl (by decide) rfl (fun ls hl => ?_)
        refine lv_goto (tgt := 39) hx hb dX3_findNearest_69 (by decide) ?_
        exact ih (r9 + 1) _ H locs ls (by omega) hP hD hS (lv_sub hl [0, 1] rfl) kx
    refine lp39 _ (3) 0 (ne0 AL1) _ _ ls (by omega) hP hD hS (lv_sub hl [0, 1] rfl) (fun H locs ls hP hD hS hl => ?_)
    have hP : va_P D vc (wM cs ad (up1 I 3 rk) (up1 G 3 1) AN1 AI (ne3 AN1 AI (ne0 AL1))) H := hP
    have hD : va_D A (wM cs ad (up1 I 3 rk) (up1 G 3 1) AN1 AI (ne3 AN1 AI (ne0 AL1))) := hD
    refine lv_aload_n hx hb dX3_findNearest_72 rfl (lv_at hl 1 rfl) ?_
    refine g_callv (va_runV (As := []) (rest := []) ⟨hx, hb, hml, hown, hts⟩ (ctX3_solve l D cs ad (up1 I 3 rk) (up1 G 3 1) AN1 AI (ne3 AN1 AI (ne0 AL1)) _ hL1 hL3) (cwV 0 hts (gi_V gw_636 gw_638 gw_34 gw_57 gw_639) rfl rfl rfl (by decide +kernel) ⟨Nat.le_of_ble_eq_true rfl, Nat.le_of_ble_eq_true rfl⟩) ⟨g_blind, va_recv hK hP (ci := 3) (q0 := 0) rfl (wm_at (by decide) rfl), g_pre hP hK hD hN⟩ rfl rfl hl.1 rfl (lv_room (Nat.le_of_ble_eq_true rfl)) dX3_findNearest_73 ⟨Nat.zero_le _, Nat.zero_le _⟩) hD hS hA (fun u H locs hw hP hD hS => ?_)
    obtain rfl := hw
    have hP : va_P D vc (wM cs ad (up1 I 3 rk) (up1 (up1 G 3 1) 0 (det rk (sqf rk AN1 AI (ne3 AN1 AI (ne0 AL1)) 5))) AN1 AI (ssq rk (sqf rk AN1 AI (ne3 AN1 AI (ne0 AL1))))) H := hP
    have hD : va_D A (wM cs ad (up1 I 3 rk) (up1 (up1 G 3 1) 0 (det rk (sqf rk AN1 AI (ne3 AN1 AI (ne0 AL1)) 5))) AN1 AI (ssq rk (sqf rk AN1 AI (ne3 AN1 AI (ne0 AL1))))) := hD
    generalize hal : det rk (sqf rk AN1 AI (ne3 AN1 AI (ne0 AL1)) 5) = al at hP hD
    generalize hss : ssq rk (sqf rk AN1 AI (ne3 AN1 AI (ne0 AL1))) = SS at hP hD
    refine lv_iconst (v := nI 0) hx hb dX3_findNearest_76 (by decide) ?_
    refine lv_istore_n (lv' := [(1, .int (nI 0)), (0, .ref (ad 0))]) hx hb dX3_findNearest_77 rfl hl (by decide) rfl (fun ls hl => ?_)
    have lp78 : ∀ (Q : State → Prop) (n c9 : Nat) (X : Nat → Nat → Int64) (H : Heap) (locs : List Loc) (ls : Array Slot), c9 + n = 3 → va_P D vc (wM cs ad (up1 I 3 rk) (up1 (up1 G 3 1) 0 al) AN1 AI X) H → va_D A (wM cs ad (up1 I 3 rk) (up1 (up1 G 3 1) 0 al) AN1 AI X) → va_S A s.heap H locs → lv_has ls 4 [(1, .int (nI c9)), (0, .ref (ad 0))] → (∀ (H : Heap) (locs : List Loc) (ls : Array Slot), va_P D vc (wM cs ad (up1 I 3 rk) (up1 (up1 G 3 1) 0 al) AN1 AI (fo (fun c X => up2 X 13 (AN1 2 c) (X 7 c)) n c9 X)) H → va_D A (wM cs ad (up1 I 3 rk) (up1 (up1 G 3 1) 0 al) AN1 AI (fo (fun c X => up2 X 13 (AN1 2 c) (X 7 c)) n c9 X)) → va_S A s.heap H locs → lv_has ls 4 [(1, .int (nI 3)), (0, .ref (ad 0))] → W p l e rmX3_findNearest s m args below meth c H locs 0 0 Q (F0 m 106 ls [])) → W p l e rmX3_findNearest s m args below meth c H locs 0 0 Q (F0 m 78 ls []) := by
      intro Q n
      induction n with
      | zero =>
        intro c9 X H locs ls hn hP hD hS hl kx
        have hi : c9 = 3 := by omega
        refine lv_iload_n hx hb dX3_findNearest_78 rfl (lv_at hl 0 rfl) ?_
        refine lv_iconst (v := nI 3) hx hb dX3_findNearest_79 (by decide) ?_
        refine b_ge_t (tgt := 106) hx hb dX3_findNearest_80 (by decide) (by omega) (by omega) ?_
        rw [hi] at hl
        exact kx H locs ls hP hD hS (lv_sub hl [0, 1] rfl)
      | succ n ih =>
        intro c9 X H locs ls hn hP hD hS hl kx
        have hi : c9 < 3 := by omega
        refine lv_iload_n hx hb dX3_findNearest_78 rfl (lv_at hl 0 rfl) ?_
        refine lv_iconst (v := nI 3) hx hb dX3_findNearest_79 (by decide) ?_
        refine b_ge_f (tgt := 106) hx hb dX3_findNearest_80 (by decide) (by omega) (by omega) ?_
        have hc3 := hL3.1 c9 (by omega)
        refine lv_aload_n hx hb dX3_findNearest_83 rfl (lv_at hl 1 rfl) ?_
        refine b_get (own := RX3) (C := RX3) (T := TX3) (N := 23) (ci := 3) (v := .ref (ad 13)) hx hb hts usX3 hown hK hP 0 (by decide) rfl rfl 20 (by decide) (hts _ gw_524) rfl dX3_findNearest_84 ?_
        refine lv_aload_n hx hb dX3_findNearest_87 rfl (lv_at hl 1 rfl) ?_
        refine b_get (own := RX3) (C := RX3) (T := TX3) (N := 23) (ci := 3) (v := .ref (ad 2)) hx hb hts usX3 hown hK hP 0 (by decide) rfl rfl 5 (by decide) (hts _ gw_509) rfl dX3_findNearest_88 ?_
        refine lv_iload_n hx hb dX3_findNearest_91 rfl (lv_at hl 0 rfl) ?_
        refine b_iald hx hb hK hP 2 0 (by decide) rfl rfl (by omega) (by decide) dX3_findNearest_92 ?_
        refine lv_aload_n hx hb dX3_findNearest_93 rfl (lv_at hl 1 rfl) ?_
        refine b_get (own := RX3) (C := RX3) (T := TX3) (N := 23) (ci := 3) (v := .ref (ad 7)) hx hb hts usX3 hown hK hP 0 (by decide) rfl rfl 10 (by decide) (hts _ gw_514) rfl dX3_findNearest_94 ?_
        refine lv_iload_n hx hb dX3_findNearest_97 rfl (lv_at hl 0 rfl) ?_
        refine b_lald hx hb hK hP 7 1 (by decide) rfl rfl (by omega) (by decide) dX3_findNearest_98 ?_
        refine b_last hx hb hK hP hD hS 13 1 (by decide) rfl rfl (by omega) (by decide) dX3_findNearest_99 sM_L13 (fun H locs hP hD hS => ?_)
        refine b_iinc (lv' := [(1, .int (nI (c9 + 1))), (0, .ref (ad 0))]) hx hb dX3_findNearest_100 hl (k := 0) rfl (by decide) rfl (fun ls hl => ?_)
        refine lv_goto (tgt := 78) hx hb dX3_findNearest_103 (by decide) ?_
        exact ih (c9 + 1) _ H locs ls (by omega) hP hD hS (lv_sub hl [0, 1] rfl) kx
    refine lp78 _ (3) 0 SS _ _ ls (by omega) hP hD hS (lv_sub hl [0, 1] rfl) (fun H locs ls hP hD hS hl => ?_)
    refine lv_aload_n hx hb dX3_findNearest_106 rfl (lv_at hl 1 rfl) ?_
    refine lv_aload_n hx hb dX3_findNearest_107 rfl (lv_at hl 1 rfl) ?_
    refine b_get (own := RX3) (C := RX3) (T := TX3) (N := 23) (ci := 3) (v := .long al) hx hb hts usX3 hown hK hP 0 (by decide) rfl rfl 11 (by decide) (hts _ gw_515) rfl dX3_findNearest_108 ?_
    refine b_put (own := RX3) (C := RX3) (T := TX3) (N := 23) (ci := 3) (v := .long al) hx hb hts usX3 tyX3 tyX3_ok nmX3 hown hK hP hD hS 0 (by decide) rfl rfl 21 (by decide) (hts _ gw_525) rfl rfl rfl (Nat.le_of_ble_eq_true rfl) dX3_findNearest_111 sM_G3 (fun H locs hP hD hS => ?_)
    rw [up1_swap (i := 0) (j := 3) (by decide), up1_1] at hP hD
    rw [hr3] at hal hss
    rw [hal, hss]
    exact g_vret hx hb hr hlocks (up1 I 3 rk, up1 (up1 G 3 al) 0 al, AN1, AI, fo (fun c X => up2 X 13 (AN1 2 c) (X 7 c)) (3) 0 SS) (rfl) hK hP hD hS dX3_findNearest_114
  · have e1 : neF (I 1) (I 2) rk AN1 AI AL1 = (det rk (nero (I 2) rk AI (netu (I 1) (I 2) rk AN1 AI (ne0 AL1)) 5), neou (I 1) rk AN1 AI (ssq rk (nero (I 2) rk AI (netu (I 1) (I 2) rk AN1 AI (ne0 AL1))))) := if_neg hr3
    rw [e1]
    refine b_ne_t (tgt := 115) hx hb dX3_findNearest_34 (by decide) (hr3) (by omega) (by omega) ?_
    refine lv_iconst (v := nI 0) hx hb dX3_findNearest_115 (by decide) ?_
    refine lv_istore_n (lv' := [(1, .int (nI 0)), (0, .ref (ad 0))]) hx hb dX3_findNearest_116 rfl hl (by decide) rfl (fun ls hl => ?_)
    have lp117 : ∀ (Q : State → Prop) (n g9 : Nat) (X : Nat → Nat → Int64) (H : Heap) (locs : List Loc) (ls : Array Slot), g9 + n = I 2 → va_P D vc (wM cs ad (up1 I 3 rk) (up1 G 3 1) AN1 AI X) H → va_D A (wM cs ad (up1 I 3 rk) (up1 G 3 1) AN1 AI X) → va_S A s.heap H locs → lv_has ls 4 [(1, .int (nI g9)), (0, .ref (ad 0))] → (∀ (H : Heap) (locs : List Loc) (ls : Array Slot), va_P D vc (wM cs ad (up1 I 3 rk) (up1 G 3 1) AN1 AI (fo (fun g X => fo (fun r Y => up2 Y 14 (3 * g + r) (prd (I 1) AI g (AN1 3 r))) rk 0 X) n g9 X)) H → va_D A (wM cs ad (up1 I 3 rk) (up1 G 3 1) AN1 AI (fo (fun g X => fo (fun r Y => up2 Y 14 (3 * g + r) (prd (I 1) AI g (AN1 3 r))) rk 0 X) n g9 X)) → va_S A s.heap H locs → lv_has ls 4 [(1, .int (nI (I 2))), (0, .ref (ad 0))] → W p l e rmX3_findNearest s m args below meth c H locs 0 0 Q (F0 m 168 ls [])) → W p l e rmX3_findNearest s m args below meth c H locs 0 0 Q (F0 m 117 ls []) := by
      intro Q n
      induction n with
      | zero =>
        intro g9 X H locs ls hn hP hD hS hl kx
        have hi : g9 = I 2 := by omega
        refine lv_iload_n hx hb dX3_findNearest_117 rfl (lv_at hl 0 rfl) ?_
        refine lv_aload_n hx hb dX3_findNearest_118 rfl (lv_at hl 1 rfl) ?_
        refine b_get (own := RX3) (C := RX3) (T := TX3) (N := 23) (ci := 3) (v := .int (nI (I 2))) hx hb hts usX3 hown hK hP 0 (by decide) rfl rfl 2 (by decide) (hts _ gw_506) rfl dX3_findNearest_119 ?_
        refine b_ge_t (tgt := 168) hx hb dX3_findNearest_122 (by decide) (by omega) (by omega) ?_
        rw [hi] at hl
        exact kx H locs ls hP hD hS (lv_sub hl [0, 1] rfl)
      | succ n ih =>
        intro g9 X H locs ls hn hP hD hS hl kx
        have hi : g9 < I 2 := by omega
        refine lv_iload_n hx hb dX3_findNearest_117 rfl (lv_at hl 0 rfl) ?_
        refine lv_aload_n hx hb dX3_findNearest_118 rfl (lv_at hl 1 rfl) ?_
        refine b_get (own := RX3) (C := RX3) (T := TX3) (N := 23) (ci := 3) (v := .int (nI (I 2))) hx hb hts usX3 hown hK hP 0 (by decide) rfl rfl 2 (by decide) (hts _ gw_506) rfl dX3_findNearest_119 ?_
        refine b_ge_f (tgt := 168) hx hb dX3_findNearest_122 (by decide) (by omega) (by omega) ?_
        refine lv_iconst (v := nI 0) hx hb dX3_findNearest_125 (by decide) ?_
        refine lv_istore_n (lv' := [(2, .int (nI 0)), (1, .int (nI g9)), (0, .ref (ad 0))]) hx hb dX3_findNearest_126 rfl hl (by decide) rfl (fun ls hl => ?_)
        have lp127 : ∀ (Q : State → Prop) (n r9 : Nat) (Y : Nat → Nat → Int64) (H : Heap) (locs : List Loc) (ls : Array Slot), r9 + n = rk → va_P D vc (wM cs ad (up1 I 3 rk) (up1 G 3 1) AN1 AI Y) H → va_D A (wM cs ad (up1 I 3 rk) (up1 G 3 1) AN1 AI Y) → va_S A s.heap H locs → lv_has ls 4 [(2, .int (nI r9)), (1, .int (nI g9)), (0, .ref (ad 0))] → (∀ (H : Heap) (locs : List Loc) (ls : Array Slot), va_P D vc (wM cs ad (up1 I 3 rk) (up1 G 3 1) AN1 AI (fo (fun r Y => up2 Y 14 (3 * g9 + r) (prd (I 1) AI g9 (AN1 3 r))) n r9 Y)) H → va_D A (wM cs ad (up1 I 3 rk) (up1 G 3 1) AN1 AI (fo (fun r Y => up2 Y 14 (3 * g9 + r) (prd (I 1) AI g9 (AN1 3 r))) n r9 Y)) → va_S A s.heap H locs → lv_has ls 4 [(2, .int (nI rk)), (1, .int (nI g9)), (0, .ref (ad 0))] → W p l e rmX3_findNearest s m args below meth c H locs 0 0 Q (F0 m 162 ls [])) → W p l e rmX3_findNearest s m args below meth c H locs 0 0 Q (F0 m 127 ls []) := by
          intro Q n
          induction n with
          | zero =>
            intro r9 Y H locs ls hn hP hD hS hl kx
            have hi : r9 = rk := by omega
            refine lv_iload_n hx hb dX3_findNearest_127 rfl (lv_at hl 0 rfl) ?_
            refine lv_aload_n hx hb dX3_findNearest_128 rfl (lv_at hl 2 rfl) ?_
            refine b_get (own := RX3) (C := RX3) (T := TX3) (N := 23) (ci := 3) (v := .int (nI rk)) hx hb hts usX3 hown hK hP 0 (by decide) rfl rfl 4 (by decide) (hts _ gw_508) rfl dX3_findNearest_129 ?_
            refine b_ge_t (tgt := 162) hx hb dX3_findNearest_132 (by decide) (by omega) (by omega) ?_
            rw [hi] at hl
            exact kx H locs ls hP hD hS (lv_sub hl [0, 1, 2] rfl)
          | succ n ih =>
            intro r9 Y H locs ls hn hP hD hS hl kx
            have hi : r9 < rk := by omega
            refine lv_iload_n hx hb dX3_findNearest_127 rfl (lv_at hl 0 rfl) ?_
            refine lv_aload_n hx hb dX3_findNearest_128 rfl (lv_at hl 2 rfl) ?_
            refine b_get (own := RX3) (C := RX3) (T := TX3) (N := 23) (ci := 3) (v := .int (nI rk)) hx hb hts usX3 hown hK hP 0 (by decide) rfl rfl 4 (by decide) (hts _ gw_508) rfl dX3_findNearest_129 ?_
            refine b_ge_f (tgt := 162) hx hb dX3_findNearest_132 (by decide) (by omega) (by omega) ?_
            have hl3 := hL3.2.1 r9 (by omega)
            refine lv_aload_n hx hb dX3_findNearest_135 rfl (lv_at hl 2 rfl) ?_
            refine b_get (own := RX3) (C := RX3) (T := TX3) (N := 23) (ci := 3) (v := .ref (ad 14)) hx hb hts usX3 hown hK hP 0 (by decide) rfl rfl 22 (by decide) (hts _ gw_526) rfl dX3_findNearest_136 ?_
            refine lv_iconst (v := nI 3) hx hb dX3_findNearest_139 (by decide) ?_
            refine lv_iload_n hx hb dX3_findNearest_140 rfl (lv_at hl 1 rfl) ?_
            refine b_muln hx hb dX3_findNearest_141 ?_
            refine lv_iload_n hx hb dX3_findNearest_142 rfl (lv_at hl 0 rfl) ?_
            refine b_addn hx hb dX3_findNearest_143 ?_
            refine lv_aload_n hx hb dX3_findNearest_144 rfl (lv_at hl 2 rfl) ?_
            refine lv_iload_n hx hb dX3_findNearest_145 rfl (lv_at hl 1 rfl) ?_
            refine lv_aload_n hx hb dX3_findNearest_146 rfl (lv_at hl 2 rfl) ?_
            refine b_get (own := RX3) (C := RX3) (T := TX3) (N := 23) (ci := 3) (v := .ref (ad 3)) hx hb hts usX3 hown hK hP 0 (by decide) rfl rfl 6 (by decide) (hts _ gw_510) rfl dX3_findNearest_147 ?_
            refine lv_iload_n hx hb dX3_findNearest_150 rfl (lv_at hl 0 rfl) ?_
            refine b_iald hx hb hK hP 3 0 (by decide) rfl rfl (by omega) (by decide) dX3_findNearest_151 ?_
            refine g_calll (va_runV (As := [.int (nI g9), .int (nI (AN1 3 r9))]) (rest := [.int (nI ((3 * g9) + r9)), .ref (ad 14)]) ⟨hx, hb, hml, hown, hts⟩ (ctX3_products l D cs ad (up1 I 3 rk) (up1 G 3 1) AN1 AI Y _ g9 (AN1 3 r9) (show I 1 ≤ 3 from h1) (by omega) hl3) (cwV 2 hts (gi_V gw_731 gw_733 gw_50 gw_57 gw_734) rfl rfl rfl (by decide +kernel) ⟨Nat.le_of_ble_eq_true rfl, Nat.le_of_ble_eq_true rfl⟩) ⟨g_blind, va_recv hK hP (ci := 3) (q0 := 0) rfl (wm_at (by decide) rfl), g_pre hP hK hD hN⟩ rfl rfl hl.1 rfl (lv_room (Nat.le_of_ble_eq_true rfl)) dX3_findNearest_152 ⟨Nat.zero_le _, Nat.zero_le _⟩) hD hS hA (fun r u H locs hw hP hD hS => ?_)
            obtain ⟨rfl, rfl⟩ := hw
            have hP : va_P D vc (wM cs ad (up1 I 3 rk) (up1 G 3 1) AN1 AI Y) H := hP
            have hD : va_D A (wM cs ad (up1 I 3 rk) (up1 G 3 1) AN1 AI Y) := hD
            refine b_last hx hb hK hP hD hS 14 1 (by decide) rfl rfl (by omega) (by decide) dX3_findNearest_155 sM_L14 (fun H locs hP hD hS => ?_)
            refine b_iinc (lv' := [(2, .int (nI (r9 + 1))), (1, .int (nI g9)), (0, .ref (ad 0))]) hx hb dX3_findNearest_156 hl (k := 0) rfl (by decide) rfl (fun ls hl => ?_)
            refine lv_goto (tgt := 127) hx hb dX3_findNearest_159 (by decide) ?_
            exact ih (r9 + 1) _ H locs ls (by omega) hP hD hS (lv_sub hl [0, 1, 2] rfl) kx
        refine lp127 _ (rk) 0 X _ _ ls (by omega) hP hD hS (lv_sub hl [0, 1, 2] rfl) (fun H locs ls hP hD hS hl => ?_)
        refine b_iinc (lv' := [(1, .int (nI (g9 + 1))), (2, .int (nI rk)), (0, .ref (ad 0))]) hx hb dX3_findNearest_162 hl (k := 1) rfl (by decide) rfl (fun ls hl => ?_)
        refine lv_goto (tgt := 117) hx hb dX3_findNearest_165 (by decide) ?_
        exact ih (g9 + 1) _ H locs ls (by omega) hP hD hS (lv_sub hl [0, 2] rfl) kx
    refine lp117 _ (I 2) 0 (ne0 AL1) _ _ ls (by omega) hP hD hS (lv_sub hl [0, 1] rfl) (fun H locs ls hP hD hS hl => ?_)
    have hP : va_P D vc (wM cs ad (up1 I 3 rk) (up1 G 3 1) AN1 AI (netu (I 1) (I 2) rk AN1 AI (ne0 AL1))) H := hP
    have hD : va_D A (wM cs ad (up1 I 3 rk) (up1 G 3 1) AN1 AI (netu (I 1) (I 2) rk AN1 AI (ne0 AL1))) := hD
    generalize hT : netu (I 1) (I 2) rk AN1 AI (ne0 AL1) = TT at hP hD ⊢
    refine lv_iconst (v := nI 0) hx hb dX3_findNearest_168 (by decide) ?_
    refine lv_istore_n (lv' := [(1, .int (nI 0)), (0, .ref (ad 0))]) hx hb dX3_findNearest_169 rfl hl (by decide) rfl (fun ls hl => ?_)
    have lp170 : ∀ (Q : State → Prop) (n r9 : Nat) (X : Nat → Nat → Int64) (H : Heap) (locs : List Loc) (ls : Array Slot), r9 + n = rk → va_P D vc (wM cs ad (up1 I 3 rk) (up1 G 3 1) AN1 AI X) H → va_D A (wM cs ad (up1 I 3 rk) (up1 G 3 1) AN1 AI X) → va_S A s.heap H locs → lv_has ls 4 [(1, .int (nI r9)), (0, .ref (ad 0))] → (∀ (H : Heap) (locs : List Loc) (ls : Array Slot), va_P D vc (wM cs ad (up1 I 3 rk) (up1 G 3 1) AN1 AI (fo (fun r X => fo (fun c Y => nesq (I 2) r c Y) rk 0 (neco (I 2) r AI X)) n r9 X)) H → va_D A (wM cs ad (up1 I 3 rk) (up1 G 3 1) AN1 AI (fo (fun r X => fo (fun c Y => nesq (I 2) r c Y) rk 0 (neco (I 2) r AI X)) n r9 X)) → va_S A s.heap H locs → lv_has ls 4 [(1, .int (nI rk)), (0, .ref (ad 0))] → W p l e rmX3_findNearest s m args below meth c H locs 0 0 Q (F0 m 315 ls [])) → W p l e rmX3_findNearest s m args below meth c H locs 0 0 Q (F0 m 170 ls []) := by
      intro Q n
      induction n with
      | zero =>
        intro r9 X H locs ls hn hP hD hS hl kx
        have hi : r9 = rk := by omega
        refine lv_iload_n hx hb dX3_findNearest_170 rfl (lv_at hl 0 rfl) ?_
        refine lv_aload_n hx hb dX3_findNearest_171 rfl (lv_at hl 1 rfl) ?_
        refine b_get (own := RX3) (C := RX3) (T := TX3) (N := 23) (ci := 3) (v := .int (nI rk)) hx hb hts usX3 hown hK hP 0 (by decide) rfl rfl 4 (by decide) (hts _ gw_508) rfl dX3_findNearest_172 ?_
        refine b_ge_t (tgt := 315) hx hb dX3_findNearest_175 (by decide) (by omega) (by omega) ?_
        rw [hi] at hl
        exact kx H locs ls hP hD hS (lv_sub hl [0, 1] rfl)
      | succ n ih =>
        intro r9 X H locs ls hn hP hD hS hl kx
        have hi : r9 < rk := by omega
        refine lv_iload_n hx hb dX3_findNearest_170 rfl (lv_at hl 0 rfl) ?_
        refine lv_aload_n hx hb dX3_findNearest_171 rfl (lv_at hl 1 rfl) ?_
        refine b_get (own := RX3) (C := RX3) (T := TX3) (N := 23) (ci := 3) (v := .int (nI rk)) hx hb hts usX3 hown hK hP 0 (by decide) rfl rfl 4 (by decide) (hts _ gw_508) rfl dX3_findNearest_172 ?_
        refine b_ge_f (tgt := 315) hx hb dX3_findNearest_175 (by decide) (by omega) (by omega) ?_
        refine lv_aload_n hx hb dX3_findNearest_178 rfl (lv_at hl 1 rfl) ?_
        refine b_get (own := RX3) (C := RX3) (T := TX3) (N := 23) (ci := 3) (v := .ref (ad 6)) hx hb hts usX3 hown hK hP 0 (by decide) rfl rfl 9 (by decide) (hts _ gw_513) rfl dX3_findNearest_179 ?_
        refine lv_iload_n hx hb dX3_findNearest_182 rfl (lv_at hl 0 rfl) ?_
        refine lv_lconst (v := 0) hx hb dX3_findNearest_183 (by decide) ?_
        refine b_last hx hb hK hP hD hS 6 1 (by decide) rfl rfl (by omega) (by decide) dX3_findNearest_184 sM_L6 (fun H locs hP hD hS => ?_)
        refine lv_iconst (v := nI 0) hx hb dX3_findNearest_185 (by decide) ?_
        refine lv_istore_n (lv' := [(2, .int (nI 0)), (1, .int (nI r9)), (0, .ref (ad 0))]) hx hb dX3_findNearest_186 rfl hl (by decide) rfl (fun ls hl => ?_)
        have lp187 : ∀ (Q : State → Prop) (n g9 : Nat) (Y : Nat → Nat → Int64) (H : Heap) (locs : List Loc) (ls : Array Slot), g9 + n = I 2 → va_P D vc (wM cs ad (up1 I 3 rk) (up1 G 3 1) AN1 AI Y) H → va_D A (wM cs ad (up1 I 3 rk) (up1 G 3 1) AN1 AI Y) → va_S A s.heap H locs → lv_has ls 4 [(2, .int (nI g9)), (1, .int (nI r9)), (0, .ref (ad 0))] → (∀ (H : Heap) (locs : List Loc) (ls : Array Slot), va_P D vc (wM cs ad (up1 I 3 rk) (up1 G 3 1) AN1 AI (fo (fun g X => up2 X 6 r9 (X 6 r9 + X 14 (3 * g + r9) * Int32.toInt64 (AI (4 * g + 3)))) n g9 Y)) H → va_D A (wM cs ad (up1 I 3 rk) (up1 G 3 1) AN1 AI (fo (fun g X => up2 X 6 r9 (X 6 r9 + X 14 (3 * g + r9) * Int32.toInt64 (AI (4 * g + 3)))) n g9 Y)) → va_S A s.heap H locs → lv_has ls 4 [(2, .int (nI (I 2))), (1, .int (nI r9)), (0, .ref (ad 0))] → W p l e rmX3_findNearest s m args below meth c H locs 0 0 Q (F0 m 232 ls [])) → W p l e rmX3_findNearest s m args below meth c H locs 0 0 Q (F0 m 187 ls []) := by
          intro Q n
          induction n with
          | zero =>
            intro g9 Y H locs ls hn hP hD hS hl kx
            have hi : g9 = I 2 := by omega
            refine lv_iload_n hx hb dX3_findNearest_187 rfl (lv_at hl 0 rfl) ?_
            refine lv_aload_n hx hb dX3_findNearest_188 rfl (lv_at hl 2 rfl) ?_
            refine b_get (own := RX3) (C := RX3) (T := TX3) (N := 23) (ci := 3) (v := .int (nI (I 2))) hx hb hts usX3 hown hK hP 0 (by decide) rfl rfl 2 (by decide) (hts _ gw_506) rfl dX3_findNearest_189 ?_
            refine b_ge_t (tgt := 232) hx hb dX3_findNearest_192 (by decide) (by omega) (by omega) ?_
            rw [hi] at hl
            exact kx H locs ls hP hD hS (lv_sub hl [0, 1, 2] rfl)
          | succ n ih =>
            intro g9 Y H locs ls hn hP hD hS hl kx
            have hi : g9 < I 2 := by omega
            refine lv_iload_n hx hb dX3_findNearest_187 rfl (lv_at hl 0 rfl) ?_
            refine lv_aload_n hx hb dX3_findNearest_188 rfl (lv_at hl 2 rfl) ?_
            refine b_get (own := RX3) (C := RX3) (T := TX3) (N := 23) (ci := 3) (v := .int (nI (I 2))) hx hb hts usX3 hown hK hP 0 (by decide) rfl rfl 2 (by decide) (hts _ gw_506) rfl dX3_findNearest_189 ?_
            refine b_ge_f (tgt := 232) hx hb dX3_findNearest_192 (by decide) (by omega) (by omega) ?_
            refine lv_aload_n hx hb dX3_findNearest_195 rfl (lv_at hl 2 rfl) ?_
            refine b_get (own := RX3) (C := RX3) (T := TX3) (N := 23) (ci := 3) (v := .ref (ad 6)) hx hb hts usX3 hown hK hP 0 (by decide) rfl rfl 9 (by decide) (hts _ gw_513) rfl dX3_findNearest_196 ?_
            refine lv_iload_n hx hb dX3_findNearest_199 rfl (lv_at hl 1 rfl) ?_
            refine lv_dup2_11 hx hb dX3_findNearest_200 rfl rfl ?_
            refine b_lald hx hb hK hP 6 1 (by decide) rfl rfl (by omega) (by decide) dX3_findNearest_201 ?_
            refine lv_aload_n hx hb dX3_findNearest_202 rfl (lv_at hl 2 rfl) ?_
            refine b_get (own := RX3) (C := RX3) (T := TX3) (N := 23) (ci := 3) (v := .ref (ad 14)) hx hb hts usX3 hown hK hP 0 (by decide) rfl rfl 22 (by decide) (hts _ gw_526) rfl dX3_findNearest_203 ?_
            refine lv_iconst (v := nI 3) hx hb dX3_findNearest_206 (by decide) ?_
            refine lv_iload_n hx hb dX3_findNearest_207 rfl (lv_at hl 0 rfl) ?_
            refine b_muln hx hb dX3_findNearest_208 ?_
            refine lv_iload_n hx hb dX3_findNearest_209 rfl (lv_at hl 1 rfl) ?_
            refine b_addn hx hb dX3_findNearest_210 ?_
            refine b_lald hx hb hK hP 14 1 (by decide) rfl rfl (by omega) (by decide) dX3_findNearest_211 ?_
            refine lv_aload_n hx hb dX3_findNearest_212 rfl (lv_at hl 2 rfl) ?_
            refine b_get (own := RX3) (C := RX3) (T := TX3) (N := 23) (ci := 3) (v := .ref (ad 1)) hx hb hts usX3 hown hK hP 0 (by decide) rfl rfl 3 (by decide) (hts _ gw_507) rfl dX3_findNearest_213 ?_
            refine lv_iconst (v := nI 4) hx hb dX3_findNearest_216 (by decide) ?_
            refine lv_iload_n hx hb dX3_findNearest_217 rfl (lv_at hl 0 rfl) ?_
            refine b_muln hx hb dX3_findNearest_218 ?_
            refine lv_iconst (v := nI 3) hx hb dX3_findNearest_219 (by decide) ?_
            refine b_addn hx hb dX3_findNearest_220 ?_
            refine b_iald hx hb hK hP 1 0 (by decide) rfl rfl (by omega) (by decide) dX3_findNearest_221 ?_
            refine lv_i2l (v := Int32.toInt64 (AI ((4 * g9) + 3))) hx hb dX3_findNearest_222 rfl ?_
            refine lv_lmul hx hb dX3_findNearest_223 ?_
            refine lv_ladd hx hb dX3_findNearest_224 ?_
            refine b_last hx hb hK hP hD hS 6 1 (by decide) rfl rfl (by omega) (by decide) dX3_findNearest_225 sM_L6 (fun H locs hP hD hS => ?_)
            refine b_iinc (lv' := [(2, .int (nI (g9 + 1))), (1, .int (nI r9)), (0, .ref (ad 0))]) hx hb dX3_findNearest_226 hl (k := 0) rfl (by decide) rfl (fun ls hl => ?_)
            refine lv_goto (tgt := 187) hx hb dX3_findNearest_229 (by decide) ?_
            exact ih (g9 + 1) _ H locs ls (by omega) hP hD hS (lv_sub hl [0, 1, 2] rfl) kx
        refine lp187 _ (I 2) 0 (up2 X 6 r9 0) _ _ ls (by omega) hP hD hS (lv_sub hl [0, 1, 2] rfl) (fun H locs ls hP hD hS hl => ?_)
        have hP : va_P D vc (wM cs ad (up1 I 3 rk) (up1 G 3 1) AN1 AI (neco (I 2) r9 AI X)) H := hP
        have hD : va_D A (wM cs ad (up1 I 3 rk) (up1 G 3 1) AN1 AI (neco (I 2) r9 AI X)) := hD
        refine lv_iconst (v := nI 0) hx hb dX3_findNearest_232 (by decide) ?_
        refine lv_istore_n (lv' := [(2, .int (nI 0)), (1, .int (nI r9)), (0, .ref (ad 0))]) hx hb dX3_findNearest_233 rfl hl (by decide) rfl (fun ls hl => ?_)
        have lp234 : ∀ (Q : State → Prop) (n c9 : Nat) (Y : Nat → Nat → Int64) (H : Heap) (locs : List Loc) (ls : Array Slot), c9 + n = rk → va_P D vc (wM cs ad (up1 I 3 rk) (up1 G 3 1) AN1 AI Y) H → va_D A (wM cs ad (up1 I 3 rk) (up1 G 3 1) AN1 AI Y) → va_S A s.heap H locs → lv_has ls 4 [(2, .int (nI c9)), (1, .int (nI r9)), (0, .ref (ad 0))] → (∀ (H : Heap) (locs : List Loc) (ls : Array Slot), va_P D vc (wM cs ad (up1 I 3 rk) (up1 G 3 1) AN1 AI (fo (fun c Y => nesq (I 2) r9 c Y) n c9 Y)) H → va_D A (wM cs ad (up1 I 3 rk) (up1 G 3 1) AN1 AI (fo (fun c Y => nesq (I 2) r9 c Y) n c9 Y)) → va_S A s.heap H locs → lv_has ls 4 [(2, .int (nI rk)), (1, .int (nI r9)), (0, .ref (ad 0))] → W p l e rmX3_findNearest s m args below meth c H locs 0 0 Q (F0 m 309 ls [])) → W p l e rmX3_findNearest s m args below meth c H locs 0 0 Q (F0 m 234 ls []) := by
          intro Q n
          induction n with
          | zero =>
            intro c9 Y H locs ls hn hP hD hS hl kx
            have hi : c9 = rk := by omega
            refine lv_iload_n hx hb dX3_findNearest_234 rfl (lv_at hl 0 rfl) ?_
            refine lv_aload_n hx hb dX3_findNearest_235 rfl (lv_at hl 2 rfl) ?_
            refine b_get (own := RX3) (C := RX3) (T := TX3) (N := 23) (ci := 3) (v := .int (nI rk)) hx hb hts usX3 hown hK hP 0 (by decide) rfl rfl 4 (by decide) (hts _ gw_508) rfl dX3_findNearest_236 ?_
            refine b_ge_t (tgt := 309) hx hb dX3_findNearest_239 (by decide) (by omega) (by omega) ?_
            rw [hi] at hl
            exact kx H locs ls hP hD hS (lv_sub hl [0, 1, 2] rfl)
          | succ n ih =>
            intro c9 Y H locs ls hn hP hD hS hl kx
            have hi : c9 < rk := by omega
            refine lv_iload_n hx hb dX3_findNearest_234 rfl (lv_at hl 0 rfl) ?_
            refine lv_aload_n hx hb dX3_findNearest_235 rfl (lv_at hl 2 rfl) ?_
            refine b_get (own := RX3) (C := RX3) (T := TX3) (N := 23) (ci := 3) (v := .int (nI rk)) hx hb hts usX3 hown hK hP 0 (by decide) rfl rfl 4 (by decide) (hts _ gw_508) rfl dX3_findNearest_236 ?_
            refine b_ge_f (tgt := 309) hx hb dX3_findNearest_239 (by decide) (by omega) (by omega) ?_
            refine lv_aload_n hx hb dX3_findNearest_242 rfl (lv_at hl 2 rfl) ?_
            refine b_get (own := RX3) (C := RX3) (T := TX3) (N := 23) (ci := 3) (v := .ref (ad 5)) hx hb hts usX3 hown hK hP 0 (by decide) rfl rfl 8 (by decide) (hts _ gw_512) rfl dX3_findNearest_243 ?_
            refine lv_iconst (v := nI 3) hx hb dX3_findNearest_246 (by decide) ?_
            refine lv_iload_n hx hb dX3_findNearest_247 rfl (lv_at hl 1 rfl) ?_
            refine b_muln hx hb dX3_findNearest_248 ?_
            refine lv_iload_n hx hb dX3_findNearest_249 rfl (lv_at hl 0 rfl) ?_
            refine b_addn hx hb dX3_findNearest_250 ?_
            refine lv_lconst (v := 0) hx hb dX3_findNearest_251 (by decide) ?_
            refine b_last hx hb hK hP hD hS 5 1 (by decide) rfl rfl (by omega) (by decide) dX3_findNearest_252 sM_L5 (fun H locs hP hD hS => ?_)
            refine lv_iconst (v := nI 0) hx hb dX3_findNearest_253 (by decide) ?_
            refine lv_istore_n (lv' := [(3, .int (nI 0)), (2, .int (nI c9)), (1, .int (nI r9)), (0, .ref (ad 0))]) hx hb dX3_findNearest_254 rfl hl (by decide) rfl (fun ls hl => ?_)
            have lp255 : ∀ (Q : State → Prop) (n g9 : Nat) (Z : Nat → Nat → Int64) (H : Heap) (locs : List Loc) (ls : Array Slot), g9 + n = I 2 → va_P D vc (wM cs ad (up1 I 3 rk) (up1 G 3 1) AN1 AI Z) H → va_D A (wM cs ad (up1 I 3 rk) (up1 G 3 1) AN1 AI Z) → va_S A s.heap H locs → lv_has ls 4 [(3, .int (nI g9)), (2, .int (nI c9)), (1, .int (nI r9)), (0, .ref (ad 0))] → (∀ (H : Heap) (locs : List Loc) (ls : Array Slot), va_P D vc (wM cs ad (up1 I 3 rk) (up1 G 3 1) AN1 AI (fo (fun g X => up2 X 5 (3 * r9 + c9) (X 5 (3 * r9 + c9) + X 14 (3 * g + r9) * X 14 (3 * g + c9))) n g9 Z)) H → va_D A (wM cs ad (up1 I 3 rk) (up1 G 3 1) AN1 AI (fo (fun g X => up2 X 5 (3 * r9 + c9) (X 5 (3 * r9 + c9) + X 14 (3 * g + r9) * X 14 (3 * g + c9))) n g9 Z)) → va_S A s.heap H locs → lv_has ls 4 [(3, .int (nI (I 2))), (2, .int (nI c9)), (1, .int (nI r9)), (0, .ref (ad 0))] → W p l e rmX3_findNearest s m args below meth c H locs 0 0 Q (F0 m 303 ls [])) → W p l e rmX3_findNearest s m args below meth c H locs 0 0 Q (F0 m 255 ls []) := by
              intro Q n
              induction n with
              | zero =>
                intro g9 Z H locs ls hn hP hD hS hl kx
                have hi : g9 = I 2 := by omega
                refine lv_iload_n hx hb dX3_findNearest_255 rfl (lv_at hl 0 rfl) ?_
                refine lv_aload_n hx hb dX3_findNearest_256 rfl (lv_at hl 3 rfl) ?_
                refine b_get (own := RX3) (C := RX3) (T := TX3) (N := 23) (ci := 3) (v := .int (nI (I 2))) hx hb hts usX3 hown hK hP 0 (by decide) rfl rfl 2 (by decide) (hts _ gw_506) rfl dX3_findNearest_257 ?_
                refine b_ge_t (tgt := 303) hx hb dX3_findNearest_260 (by decide) (by omega) (by omega) ?_
                rw [hi] at hl
                exact kx H locs ls hP hD hS (lv_sub hl [0, 1, 2, 3] rfl)
              | succ n ih =>
                intro g9 Z H locs ls hn hP hD hS hl kx
                have hi : g9 < I 2 := by omega
                refine lv_iload_n hx hb dX3_findNearest_255 rfl (lv_at hl 0 rfl) ?_
                refine lv_aload_n hx hb dX3_findNearest_256 rfl (lv_at hl 3 rfl) ?_
                refine b_get (own := RX3) (C := RX3) (T := TX3) (N := 23) (ci := 3) (v := .int (nI (I 2))) hx hb hts usX3 hown hK hP 0 (by decide) rfl rfl 2 (by decide) (hts _ gw_506) rfl dX3_findNearest_257 ?_
                refine b_ge_f (tgt := 303) hx hb dX3_findNearest_260 (by decide) (by omega) (by omega) ?_
                refine lv_aload_n hx hb dX3_findNearest_263 rfl (lv_at hl 3 rfl) ?_
                refine b_get (own := RX3) (C := RX3) (T := TX3) (N := 23) (ci := 3) (v := .ref (ad 5)) hx hb hts usX3 hown hK hP 0 (by decide) rfl rfl 8 (by decide) (hts _ gw_512) rfl dX3_findNearest_264 ?_
                refine lv_iconst (v := nI 3) hx hb dX3_findNearest_267 (by decide) ?_
                refine lv_iload_n hx hb dX3_findNearest_268 rfl (lv_at hl 2 rfl) ?_
                refine b_muln hx hb dX3_findNearest_269 ?_
                refine lv_iload_n hx hb dX3_findNearest_270 rfl (lv_at hl 1 rfl) ?_
                refine b_addn hx hb dX3_findNearest_271 ?_
                refine lv_dup2_11 hx hb dX3_findNearest_272 rfl rfl ?_
                refine b_lald hx hb hK hP 5 1 (by decide) rfl rfl (by omega) (by decide) dX3_findNearest_273 ?_
                refine lv_aload_n hx hb dX3_findNearest_274 rfl (lv_at hl 3 rfl) ?_
                refine b_get (own := RX3) (C := RX3) (T := TX3) (N := 23) (ci := 3) (v := .ref (ad 14)) hx hb hts usX3 hown hK hP 0 (by decide) rfl rfl 22 (by decide) (hts _ gw_526) rfl dX3_findNearest_275 ?_
                refine lv_iconst (v := nI 3) hx hb dX3_findNearest_278 (by decide) ?_
                refine lv_iload_n hx hb dX3_findNearest_279 rfl (lv_at hl 0 rfl) ?_
                refine b_muln hx hb dX3_findNearest_280 ?_
                refine lv_iload_n hx hb dX3_findNearest_281 rfl (lv_at hl 2 rfl) ?_
                refine b_addn hx hb dX3_findNearest_282 ?_
                refine b_lald hx hb hK hP 14 1 (by decide) rfl rfl (by omega) (by decide) dX3_findNearest_283 ?_
                refine lv_aload_n hx hb dX3_findNearest_284 rfl (lv_at hl 3 rfl) ?_
                refine b_get (own := RX3) (C := RX3) (T := TX3) (N := 23) (ci := 3) (v := .ref (ad 14)) hx hb hts usX3 hown hK hP 0 (by decide) rfl rfl 22 (by decide) (hts _ gw_526) rfl dX3_findNearest_285 ?_
                refine lv_iconst (v := nI 3) hx hb dX3_findNearest_288 (by decide) ?_
                refine lv_iload_n hx hb dX3_findNearest_289 rfl (lv_at hl 0 rfl) ?_
                refine b_muln hx hb dX3_findNearest_290 ?_
                refine lv_iload_n hx hb dX3_findNearest_291 rfl (lv_at hl 1 rfl) ?_
                refine b_addn hx hb dX3_findNearest_292 ?_
                refine b_lald hx hb hK hP 14 1 (by decide) rfl rfl (by omega) (by decide) dX3_findNearest_293 ?_
                refine lv_lmul hx hb dX3_findNearest_294 ?_
                refine lv_ladd hx hb dX3_findNearest_295 ?_
                refine b_last hx hb hK hP hD hS 5 1 (by decide) rfl rfl (by omega) (by decide) dX3_findNearest_296 sM_L5 (fun H locs hP hD hS => ?_)
                refine b_iinc (lv' := [(3, .int (nI (g9 + 1))), (2, .int (nI c9)), (1, .int (nI r9)), (0, .ref (ad 0))]) hx hb dX3_findNearest_297 hl (k := 0) rfl (by decide) rfl (fun ls hl => ?_)
                refine lv_goto (tgt := 255) hx hb dX3_findNearest_300 (by decide) ?_
                exact ih (g9 + 1) _ H locs ls (by omega) hP hD hS (lv_sub hl [0, 1, 2, 3] rfl) kx
            refine lp255 _ (I 2) 0 (up2 Y 5 ((3 * r9) + c9) 0) _ _ ls (by omega) hP hD hS (lv_sub hl [0, 1, 2, 3] rfl) (fun H locs ls hP hD hS hl => ?_)
            refine b_iinc (lv' := [(2, .int (nI (c9 + 1))), (3, .int (nI (I 2))), (1, .int (nI r9)), (0, .ref (ad 0))]) hx hb dX3_findNearest_303 hl (k := 1) rfl (by decide) rfl (fun ls hl => ?_)
            refine lv_goto (tgt := 234) hx hb dX3_findNearest_306 (by decide) ?_
            exact ih (c9 + 1) _ H locs ls (by omega) hP hD hS (lv_sub hl [0, 2, 3] rfl) kx
        refine lp234 _ (rk) 0 (neco (I 2) r9 AI X) _ _ ls (by omega) hP hD hS (lv_sub hl [0, 1, 2] rfl) (fun H locs ls hP hD hS hl => ?_)
        refine b_iinc (lv' := [(1, .int (nI (r9 + 1))), (2, .int (nI rk)), (0, .ref (ad 0))]) hx hb dX3_findNearest_309 hl (k := 1) rfl (by decide) rfl (fun ls hl => ?_)
        refine lv_goto (tgt := 170) hx hb dX3_findNearest_312 (by decide) ?_
        exact ih (r9 + 1) _ H locs ls (by omega) hP hD hS (lv_sub hl [0, 2] rfl) kx
    refine lp170 _ (rk) 0 TT _ _ ls (by omega) hP hD hS (lv_sub hl [0, 1] rfl) (fun H locs ls hP hD hS hl => ?_)
    have hP : va_P D vc (wM cs ad (up1 I 3 rk) (up1 G 3 1) AN1 AI (nero (I 2) rk AI TT)) H := hP
    have hD : va_D A (wM cs ad (up1 I 3 rk) (up1 G 3 1) AN1 AI (nero (I 2) rk AI TT)) := hD
    generalize hU : nero (I 2) rk AI TT = UU at hP hD ⊢
    refine lv_aload_n hx hb dX3_findNearest_315 rfl (lv_at hl 1 rfl) ?_
    refine lv_aload_n hx hb dX3_findNearest_316 rfl (lv_at hl 1 rfl) ?_
    refine b_get (own := RX3) (C := RX3) (T := TX3) (N := 23) (ci := 3) (v := .int (nI rk)) hx hb hts usX3 hown hK hP 0 (by decide) rfl rfl 4 (by decide) (hts _ gw_508) rfl dX3_findNearest_317 ?_
    refine g_callv (va_runV (As := [.int (nI rk)]) (rest := []) ⟨hx, hb, hml, hown, hts⟩ (ctX3_solveSquare l D cs ad (up1 I 3 rk) (up1 G 3 1) AN1 AI UU _ rk hL1) (cwV 1 hts (gi_V gw_640 gw_642 gw_35 gw_57 gw_643) rfl rfl rfl (by decide +kernel) ⟨Nat.le_of_ble_eq_true rfl, Nat.le_of_ble_eq_true rfl⟩) ⟨g_blind, va_recv hK hP (ci := 3) (q0 := 0) rfl (wm_at (by decide) rfl), g_pre hP hK hD hN⟩ rfl rfl hl.1 rfl (lv_room (Nat.le_of_ble_eq_true rfl)) dX3_findNearest_320 ⟨Nat.zero_le _, Nat.zero_le _⟩) hD hS hA (fun u H locs hw hP hD hS => ?_)
    obtain rfl := hw
    have hP : va_P D vc (wM cs ad (up1 I 3 rk) (up1 (up1 G 3 1) 0 (det rk (UU 5))) AN1 AI (ssq rk UU)) H := hP
    have hD : va_D A (wM cs ad (up1 I 3 rk) (up1 (up1 G 3 1) 0 (det rk (UU 5))) AN1 AI (ssq rk UU)) := hD
    generalize hal : det rk (UU 5) = al at hP hD ⊢
    generalize hss : ssq rk UU = SS at hP hD ⊢
    refine lv_aload_n hx hb dX3_findNearest_323 rfl (lv_at hl 1 rfl) ?_
    refine lv_aload_n hx hb dX3_findNearest_324 rfl (lv_at hl 1 rfl) ?_
    refine b_get (own := RX3) (C := RX3) (T := TX3) (N := 23) (ci := 3) (v := .long al) hx hb hts usX3 hown hK hP 0 (by decide) rfl rfl 11 (by decide) (hts _ gw_515) rfl dX3_findNearest_325 ?_
    refine b_put (own := RX3) (C := RX3) (T := TX3) (N := 23) (ci := 3) (v := .long al) hx hb hts usX3 tyX3 tyX3_ok nmX3 hown hK hP hD hS 0 (by decide) rfl rfl 21 (by decide) (hts _ gw_525) rfl rfl rfl (Nat.le_of_ble_eq_true rfl) dX3_findNearest_328 sM_G3 (fun H locs hP hD hS => ?_)
    rw [up1_swap (i := 0) (j := 3) (by decide), up1_1] at hP hD
    refine lv_iconst (v := nI 0) hx hb dX3_findNearest_331 (by decide) ?_
    refine lv_istore_n (lv' := [(1, .int (nI 0)), (0, .ref (ad 0))]) hx hb dX3_findNearest_332 rfl hl (by decide) rfl (fun ls hl => ?_)
    have lp333 : ∀ (Q : State → Prop) (n u9 : Nat) (X : Nat → Nat → Int64) (H : Heap) (locs : List Loc) (ls : Array Slot), u9 + n = I 1 → va_P D vc (wM cs ad (up1 I 3 rk) (up1 (up1 G 3 al) 0 al) AN1 AI X) H → va_D A (wM cs ad (up1 I 3 rk) (up1 (up1 G 3 al) 0 al) AN1 AI X) → va_S A s.heap H locs → lv_has ls 4 [(1, .int (nI u9)), (0, .ref (ad 0))] → (∀ (H : Heap) (locs : List Loc) (ls : Array Slot), va_P D vc (wM cs ad (up1 I 3 rk) (up1 (up1 G 3 al) 0 al) AN1 AI (fo (fun u X => fo (fun r Y => up2 Y 13 u (Y 13 u + nbr AN1 AI r u * Y 7 r)) rk 0 X) n u9 X)) H → va_D A (wM cs ad (up1 I 3 rk) (up1 (up1 G 3 al) 0 al) AN1 AI (fo (fun u X => fo (fun r Y => up2 Y 13 u (Y 13 u + nbr AN1 AI r u * Y 7 r)) rk 0 X) n u9 X)) → va_S A s.heap H locs → lv_has ls 4 [(1, .int (nI (I 1))), (0, .ref (ad 0))] → W p l e rmX3_findNearest s m args below meth c H locs 0 0 Q (F0 m 385 ls [])) → W p l e rmX3_findNearest s m args below meth c H locs 0 0 Q (F0 m 333 ls []) := by
      intro Q n
      induction n with
      | zero =>
        intro u9 X H locs ls hn hP hD hS hl kx
        have hi : u9 = I 1 := by omega
        refine lv_iload_n hx hb dX3_findNearest_333 rfl (lv_at hl 0 rfl) ?_
        refine lv_aload_n hx hb dX3_findNearest_334 rfl (lv_at hl 1 rfl) ?_
        refine b_get (own := RX3) (C := RX3) (T := TX3) (N := 23) (ci := 3) (v := .int (nI (I 1))) hx hb hts usX3 hown hK hP 0 (by decide) rfl rfl 1 (by decide) (hts _ gw_505) rfl dX3_findNearest_335 ?_
        refine b_ge_t (tgt := 385) hx hb dX3_findNearest_338 (by decide) (by omega) (by omega) ?_
        rw [hi] at hl
        exact kx H locs ls hP hD hS (lv_sub hl [0, 1] rfl)
      | succ n ih =>
        intro u9 X H locs ls hn hP hD hS hl kx
        have hi : u9 < I 1 := by omega
        refine lv_iload_n hx hb dX3_findNearest_333 rfl (lv_at hl 0 rfl) ?_
        refine lv_aload_n hx hb dX3_findNearest_334 rfl (lv_at hl 1 rfl) ?_
        refine b_get (own := RX3) (C := RX3) (T := TX3) (N := 23) (ci := 3) (v := .int (nI (I 1))) hx hb hts usX3 hown hK hP 0 (by decide) rfl rfl 1 (by decide) (hts _ gw_505) rfl dX3_findNearest_335 ?_
        refine b_ge_f (tgt := 385) hx hb dX3_findNearest_338 (by decide) (by omega) (by omega) ?_
        refine lv_iconst (v := nI 0) hx hb dX3_findNearest_341 (by decide) ?_
        refine lv_istore_n (lv' := [(2, .int (nI 0)), (1, .int (nI u9)), (0, .ref (ad 0))]) hx hb dX3_findNearest_342 rfl hl (by decide) rfl (fun ls hl => ?_)
        have lp343 : ∀ (Q : State → Prop) (n r9 : Nat) (Y : Nat → Nat → Int64) (H : Heap) (locs : List Loc) (ls : Array Slot), r9 + n = rk → va_P D vc (wM cs ad (up1 I 3 rk) (up1 (up1 G 3 al) 0 al) AN1 AI Y) H → va_D A (wM cs ad (up1 I 3 rk) (up1 (up1 G 3 al) 0 al) AN1 AI Y) → va_S A s.heap H locs → lv_has ls 4 [(2, .int (nI r9)), (1, .int (nI u9)), (0, .ref (ad 0))] → (∀ (H : Heap) (locs : List Loc) (ls : Array Slot), va_P D vc (wM cs ad (up1 I 3 rk) (up1 (up1 G 3 al) 0 al) AN1 AI (fo (fun r Y => up2 Y 13 u9 (Y 13 u9 + nbr AN1 AI r u9 * Y 7 r)) n r9 Y)) H → va_D A (wM cs ad (up1 I 3 rk) (up1 (up1 G 3 al) 0 al) AN1 AI (fo (fun r Y => up2 Y 13 u9 (Y 13 u9 + nbr AN1 AI r u9 * Y 7 r)) n r9 Y)) → va_S A s.heap H locs → lv_has ls 4 [(2, .int (nI rk)), (1, .int (nI u9)), (0, .ref (ad 0))] → W p l e rmX3_findNearest s m args below meth c H locs 0 0 Q (F0 m 379 ls [])) → W p l e rmX3_findNearest s m args below meth c H locs 0 0 Q (F0 m 343 ls []) := by
          intro Q n
          induction n with
          | zero =>
            intro r9 Y H locs ls hn hP hD hS hl kx
            have hi : r9 = rk := by omega
            refine lv_iload_n hx hb dX3_findNearest_343 rfl (lv_at hl 0 rfl) ?_
            refine lv_aload_n hx hb dX3_findNearest_344 rfl (lv_at hl 2 rfl) ?_
            refine b_get (own := RX3) (C := RX3) (T := TX3) (N := 23) (ci := 3) (v := .int (nI rk)) hx hb hts usX3 hown hK hP 0 (by decide) rfl rfl 4 (by decide) (hts _ gw_508) rfl dX3_findNearest_345 ?_
            refine b_ge_t (tgt := 379) hx hb dX3_findNearest_348 (by decide) (by omega) (by omega) ?_
            rw [hi] at hl
            exact kx H locs ls hP hD hS (lv_sub hl [0, 1, 2] rfl)
          | succ n ih =>
            intro r9 Y H locs ls hn hP hD hS hl kx
            have hi : r9 < rk := by omega
            refine lv_iload_n hx hb dX3_findNearest_343 rfl (lv_at hl 0 rfl) ?_
            refine lv_aload_n hx hb dX3_findNearest_344 rfl (lv_at hl 2 rfl) ?_
            refine b_get (own := RX3) (C := RX3) (T := TX3) (N := 23) (ci := 3) (v := .int (nI rk)) hx hb hts usX3 hown hK hP 0 (by decide) rfl rfl 4 (by decide) (hts _ gw_508) rfl dX3_findNearest_345 ?_
            refine b_ge_f (tgt := 379) hx hb dX3_findNearest_348 (by decide) (by omega) (by omega) ?_
            refine lv_aload_n hx hb dX3_findNearest_351 rfl (lv_at hl 2 rfl) ?_
            refine b_get (own := RX3) (C := RX3) (T := TX3) (N := 23) (ci := 3) (v := .ref (ad 13)) hx hb hts usX3 hown hK hP 0 (by decide) rfl rfl 20 (by decide) (hts _ gw_524) rfl dX3_findNearest_352 ?_
            refine lv_iload_n hx hb dX3_findNearest_355 rfl (lv_at hl 1 rfl) ?_
            refine lv_dup2_11 hx hb dX3_findNearest_356 rfl rfl ?_
            refine b_lald hx hb hK hP 13 1 (by decide) rfl rfl (by omega) (by decide) dX3_findNearest_357 ?_
            refine lv_aload_n hx hb dX3_findNearest_358 rfl (lv_at hl 2 rfl) ?_
            refine lv_iload_n hx hb dX3_findNearest_359 rfl (lv_at hl 0 rfl) ?_
            refine lv_iload_n hx hb dX3_findNearest_360 rfl (lv_at hl 1 rfl) ?_
            refine g_calll (va_runV (As := [.int (nI r9), .int (nI u9)]) (rest := [.long (Y 13 u9), .int (nI u9), .ref (ad 13)]) ⟨hx, hb, hml, hown, hts⟩ (ctX3_number l D cs ad (up1 I 3 rk) (up1 (up1 G 3 al) 0 al) AN1 AI Y _ r9 u9 hL3 (by omega) (by omega)) (cwV 2 hts (gi_V gw_695 gw_697 gw_44 gw_57 gw_698) rfl rfl rfl (by decide +kernel) ⟨Nat.le_of_ble_eq_true rfl, Nat.le_of_ble_eq_true rfl⟩) ⟨g_blind, va_recv hK hP (ci := 3) (q0 := 0) rfl (wm_at (by decide) rfl), g_pre hP hK hD hN⟩ rfl rfl hl.1 rfl (lv_room (Nat.le_of_ble_eq_true rfl)) dX3_findNearest_361 ⟨Nat.zero_le _, Nat.zero_le _⟩) hD hS hA (fun r u H locs hw hP hD hS => ?_)
            obtain ⟨rfl, rfl⟩ := hw
            have hP : va_P D vc (wM cs ad (up1 I 3 rk) (up1 (up1 G 3 al) 0 al) AN1 AI Y) H := hP
            have hD : va_D A (wM cs ad (up1 I 3 rk) (up1 (up1 G 3 al) 0 al) AN1 AI Y) := hD
            refine lv_aload_n hx hb dX3_findNearest_364 rfl (lv_at hl 2 rfl) ?_
            refine b_get (own := RX3) (C := RX3) (T := TX3) (N := 23) (ci := 3) (v := .ref (ad 7)) hx hb hts usX3 hown hK hP 0 (by decide) rfl rfl 10 (by decide) (hts _ gw_514) rfl dX3_findNearest_365 ?_
            refine lv_iload_n hx hb dX3_findNearest_368 rfl (lv_at hl 0 rfl) ?_
            refine b_lald hx hb hK hP 7 1 (by decide) rfl rfl (by omega) (by decide) dX3_findNearest_369 ?_
            refine lv_lmul hx hb dX3_findNearest_370 ?_
            refine lv_ladd hx hb dX3_findNearest_371 ?_
            refine b_last hx hb hK hP hD hS 13 1 (by decide) rfl rfl (by omega) (by decide) dX3_findNearest_372 sM_L13 (fun H locs hP hD hS => ?_)
            refine b_iinc (lv' := [(2, .int (nI (r9 + 1))), (1, .int (nI u9)), (0, .ref (ad 0))]) hx hb dX3_findNearest_373 hl (k := 0) rfl (by decide) rfl (fun ls hl => ?_)
            refine lv_goto (tgt := 343) hx hb dX3_findNearest_376 (by decide) ?_
            exact ih (r9 + 1) _ H locs ls (by omega) hP hD hS (lv_sub hl [0, 1, 2] rfl) kx
        refine lp343 _ (rk) 0 X _ _ ls (by omega) hP hD hS (lv_sub hl [0, 1, 2] rfl) (fun H locs ls hP hD hS hl => ?_)
        refine b_iinc (lv' := [(1, .int (nI (u9 + 1))), (2, .int (nI rk)), (0, .ref (ad 0))]) hx hb dX3_findNearest_379 hl (k := 1) rfl (by decide) rfl (fun ls hl => ?_)
        refine lv_goto (tgt := 333) hx hb dX3_findNearest_382 (by decide) ?_
        exact ih (u9 + 1) _ H locs ls (by omega) hP hD hS (lv_sub hl [0, 2] rfl) kx
    refine lp333 _ (I 1) 0 SS _ _ ls (by omega) hP hD hS (lv_sub hl [0, 1] rfl) (fun H locs ls hP hD hS hl => ?_)
    exact g_vret hx hb hr hlocks (up1 I 3 rk, up1 (up1 G 3 al) 0 al, AN1, AI, fo (fun u X => fo (fun r Y => up2 Y 13 u (Y 13 u + nbr AN1 AI r u * Y 7 r)) rk 0 X) (I 1) 0 SS) (rfl) hK hP hD hS dX3_findNearest_385
