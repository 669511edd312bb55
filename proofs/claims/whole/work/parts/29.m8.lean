/-- findBase: size, places, tables -/
def fbS (n m : Nat) (AI : Nat → Int32) (AN : Nat → Nat → Nat) (AL : Nat → Nat → Int64) : Nat × (Nat → Nat → Nat) × (Nat → Nat → Int64) :=
  ((fbA n (lkF n m AI AN AL).1 (lkF n m AI AN AL).2.1 AI (lkF n m AI AN AL).2.2).1, bgA (fbA n (lkF n m AI AN AL).1 (lkF n m AI AN AL).2.1 AI (lkF n m AI AN AL).2.2).1 (fbA n (lkF n m AI AN AL).1 (lkF n m AI AN AL).2.1 AI (lkF n m AI AN AL).2.2).2 (lkF n m AI AN AL).2.1, (fbA n (lkF n m AI AN AL).1 (lkF n m AI AN AL).2.1 AI (lkF n m AI AN AL).2.2).2)
def okB (n m : Nat) (AI : Nat → Int32) (AN : Nat → Nat → Nat) (AL : Nat → Nat → Int64) : Prop := okFb n (lkF n m AI AN AL).1 (lkF n m AI AN AL).2.1 AI (lkF n m AI AN AL).2.2
theorem bgF_lt {X : Nat → Nat → Int64} {k : Nat} : bgF X k < 3 := by
  unfold bgF
  cases h : fnd (fun j => ¬ X 9 (3 * k + j) = 0) 3 0 with
  | none => exact (by decide : 0 < 3)
  | some b => have := (fnd_some h).2.1; show b < 3; omega
theorem bgA_ok {X : Nat → Nat → Int64} : ∀ (n k : Nat) (AN : Nat → Nat → Nat), okA AN → okA (fo (fun k Y => up2 Y 10 k (bgF X k)) n k AN)
  | 0, _, _, h => h
  | n + 1, k, AN, h => bgA_ok n (k + 1) _ (h.set10 bgF_lt)
theorem fbS_ok {n m : Nat} {AI : Nat → Int32} {AN : Nat → Nat → Nat} {AL : Nat → Nat → Int64} (hn : n ≤ 3) (hm : m ≤ 3) (h : okA AN) : okA (fbS n m AI AN AL).2.1 := bgA_ok _ 0 _ (lk_ok hn hm h).2.2
theorem fbS_le {n m : Nat} {AI : Nat → Int32} {AN : Nat → Nat → Nat} {AL : Nat → Nat → Int64} (hn : n ≤ 3) : (fbS n m AI AN AL).1 ≤ 3 := fbA_le hn
def szM (sz : Nat) (k : Int32) : Bool := inL (Int32.toInt64 k) 0 (Int32.toInt64 (nI sz - nI 1))
theorem szM_spec {sz : Nat} {u : Int32} (h1 : sz ≤ 3) (h : szM sz u = true) : ∃ u' : Nat, u = nI u' ∧ u' < sz := by
  obtain ⟨u', b1, b2, b3⟩ := inL_nat h
  rw [Int32.toInt_toInt64, i32_m1 (by omega)] at b3
  exact ⟨u', b2, by omega⟩
def basS (I : Nat → Nat) (G : Nat → Int64) (AN : Nat → Nat → Nat) (AI : Nat → Int32) (AL : Nat → Nat → Int64) (k u : Int32) : MS :=
  (up1 (up1 (up1 I 3 (lkF (I 1) (I 2) AI AN AL).1) 4 (fbS (I 1) (I 2) AI AN AL).1) 0 (if szM (fbS (I 1) (I 2) AI AN AL).1 k && unM I u then 0 else 1), G, (fbS (I 1) (I 2) AI AN AL).2.1, AI, (fbS (I 1) (I 2) AI AN AL).2.2)
def basR (I : Nat → Nat) (AN : Nat → Nat → Nat) (AI : Nat → Int32) (AL : Nat → Nat → Int64) (k u : Int32) : Int64 :=
  if szM (fbS (I 1) (I 2) AI AN AL).1 k && unM I u then (fbS (I 1) (I 2) AI AN AL).2.2 9 (3 * k.toNatClampNeg + u.toNatClampNeg) else 0

abbrev rmX3_base : Room := { frames := 4, cells := 0, slots := 0, locals := 90 }
set_option maxHeartbeats 4000000 in
set_option maxRecDepth 100000 in
theorem ctX3_base (l : Launch) (D : va_G) (cs : Nat → ClassId) (ad : Nat → Nat) (I : Nat → Nat) (G : Nat → Int64) (AN : Nat → Nat → Nat) (AI : Nat → Int32) (AL : Nat → Nat → Int64) (sz : Nat) (k u : Int32) (h1 : I 1 ≤ 3) (h2 : I 2 ≤ 3) (hok : okA AN) (hfb : okB (I 1) (I 2) AI AN AL) : Met l yX3_base (Cond.code yX3_base cX3_base 3 (some FieldType.long) :: GW) rmX3_base (va_Pc [.ref (ad 0), .int k, .int u] (gP D cs (wM cs ad I G AN AI AL) sz)) (va_Ql (fun (r : Int64) (v : MS) => v = basS I G AN AI AL k u ∧ r = basR I AN AI AL k u) (gB D cs (va_A (wM cs ad I G AN AI AL) sz) (wMs cs ad)) (va_A (wM cs ad I G AN AI AL) sz)) 0 0 (va_A (wM cs ad I G AN AI AL) sz) := by
  refine Met.ofW (cc := cX3_base) (maxL := 3) (ret := (some FieldType.long)) (by decide) rfl ?_
  intro p e s m args below meth c s₁ B hml hv
  obtain ⟨rfl, hsz, hP, hK, hD0, hN⟩ := hv
  have hx := B.exec
  have hb := B.bytes
  have hr := B.returns
  have hts : ∀ w ∈ GW, w.before _ s = true := fun w h => atoms_spec (ws := Cond.code yX3_base cX3_base 3 (some FieldType.long) :: GW) B.pre w (List.mem_cons_of_mem _ h)
  have hown : s.vm.findClass RX3 = some m.cls := findClass_of_methodNamed B.named
  have hlocks := B.notSynchronized
  subst hsz
  have hD := hD0.self (sz := s.heap.size)
  generalize hAe : va_A (wM cs ad I G AN AI AL) s.heap.size = A at hD ⊢
  have hA : ∀ q : Nat, s.heap.size ≤ q → A q := fun q h => by rw [← hAe]; exact Or.inr h
  have hS : va_S A s.heap s.heap [] := va_S.rf
  have hl := lv_entry [.ref (ad 0), .int k, .int u] (n := 3) (Nat.le_of_ble_eq_true rfl)
  rw [lg_entry_eq]
  generalize (lg_sl [.ref (ad 0), .int k, .int u] ++ List.replicate (3 - (lg_sl [.ref (ad 0), .int k, .int u]).length) Slot.unset).toArray = ls at hl ⊢
  have hl : lv_has ls 3 [(0, .ref (ad 0)), (1, .int k), (2, .int u)] := hl
  generalize hargs : ([.ref (ad 0), .int k, .int u] : List Value).toArray = args at *
  show W p l e rmX3_base s m args below meth c s.heap [] 0 0 _ (F0 m 0 ls [])
  refine lv_aload_n hx hb dX3_base_0 rfl (lv_at hl 0 rfl) ?_
  refine g_callv (va_runV (As := []) (rest := []) ⟨hx, hb, hml, hown, hts⟩ (ctX3_findBase l D cs ad I G AN AI AL _ h1 h2 hok hfb) (cwV 0 hts (gi_V gw_687 gw_689 gw_42 gw_57 gw_690) rfl rfl rfl (by decide +kernel) ⟨Nat.le_of_ble_eq_true rfl, Nat.le_of_ble_eq_true rfl⟩) ⟨g_blind, va_recv hK hP (ci := 3) (q0 := 0) rfl (wm_at (by decide) rfl), g_pre hP hK hD hN⟩ rfl rfl hl.1 rfl (lv_room (Nat.le_of_ble_eq_true rfl)) dX3_base_1 ⟨Nat.zero_le _, Nat.zero_le _⟩) hD hS hA (fun u H locs hw hP hD hS => ?_)
  obtain rfl := hw
  have hP : va_P D vc (wM cs ad (up1 (up1 I 3 (lkF (I 1) (I 2) AI AN AL).1) 4 (fbS (I 1) (I 2) AI AN AL).1) G ((fbS (I 1) (I 2) AI AN AL).2.1) AI ((fbS (I 1) (I 2) AI AN AL).2.2)) H := hP
  have hD : va_D A (wM cs ad (up1 (up1 I 3 (lkF (I 1) (I 2) AI AN AL).1) 4 (fbS (I 1) (I 2) AI AN AL).1) G ((fbS (I 1) (I 2) AI AN AL).2.1) AI ((fbS (I 1) (I 2) AI AN AL).2.2)) := hD
  have hL := lk_ok (AI := AI) (AL := AL) h1 h2 hok
  have hL1 : (lkF (I 1) (I 2) AI AN AL).1 ≤ 3 := Nat.le_trans hL.2.1 h1
  have hsz : (fbS (I 1) (I 2) AI AN AL).1 ≤ 3 := fbS_le h1
  have hok2 : okA (fbS (I 1) (I 2) AI AN AL).2.1 := fbS_ok h1 h2 hok
  refine lv_aload_n hx hb dX3_base_4 rfl (lv_at hl 0 rfl) ?_
  refine lv_iload_n hx hb dX3_base_5 rfl (lv_at hl 1 rfl) ?_
  refine lv_i2l (v := Int32.toInt64 k) hx hb dX3_base_6 rfl ?_
  refine lv_lconst (v := 0) hx hb dX3_base_7 (by decide) ?_
  refine lv_aload_n hx hb dX3_base_8 rfl (lv_at hl 0 rfl) ?_
  refine b_get (own := RX3) (C := RX3) (T := TX3) (N := 23) (ci := 3) (v := .int (nI ((fbS (I 1) (I 2) AI AN AL).1))) hx hb hts usX3 hown hK hP 0 (by decide) rfl rfl 15 (by decide) (hts _ gw_519) rfl dX3_base_9 ?_
  refine lv_iconst (v := nI 1) hx hb dX3_base_12 (by decide) ?_
  refine lv_isub hx hb dX3_base_13 ?_
  refine lv_i2l (v := Int32.toInt64 ((nI ((fbS (I 1) (I 2) AI AN AL).1)) - (nI 1))) hx hb dX3_base_14 rfl ?_
  refine g_calli (va_runS (As := [.long (Int32.toInt64 k), .long 0, .long (Int32.toInt64 ((nI ((fbS (I 1) (I 2) AI AN AL).1)) - (nI 1)))]) (rest := [.ref (ad 0)]) ⟨hx, hb, hml, hown, hts⟩ (ctX3_in l D cs ad (up1 (up1 I 3 (lkF (I 1) (I 2) AI AN AL).1) 4 (fbS (I 1) (I 2) AI AN AL).1) G ((fbS (I 1) (I 2) AI AN AL).2.1) AI ((fbS (I 1) (I 2) AI AN AL).2.2) _ (Int32.toInt64 k) 0 (Int32.toInt64 ((nI ((fbS (I 1) (I 2) AI AN AL).1)) - (nI 1)))) (va_cwS 3 hts (gi_S gw_591 gw_592 gw_57 gw_593) rfl rfl rfl (by decide +kernel) ⟨Nat.le_of_ble_eq_true rfl, Nat.le_of_ble_eq_true rfl⟩) ⟨g_blind, g_pre hP hK hD hN⟩ rfl rfl hl.1 rfl (lv_room (Nat.le_of_ble_eq_true rfl)) dX3_base_15 ⟨Nat.zero_le _, Nat.zero_le _⟩) hD hS hA (fun r u H locs hw hP hD hS => ?_)
  obtain ⟨rfl, hw2⟩ := hw
  have hP : va_P D vc (wM cs ad (up1 (up1 I 3 (lkF (I 1) (I 2) AI AN AL).1) 4 (fbS (I 1) (I 2) AI AN AL).1) G ((fbS (I 1) (I 2) AI AN AL).2.1) AI ((fbS (I 1) (I 2) AI AN AL).2.2)) H := hP
  have hD : va_D A (wM cs ad (up1 (up1 I 3 (lkF (I 1) (I 2) AI AN AL).1) 4 (fbS (I 1) (I 2) AI AN AL).1) G ((fbS (I 1) (I 2) AI AN AL).2.1) AI ((fbS (I 1) (I 2) AI AN AL).2.2)) := hD
  have hw2 : r = bz (szM (fbS (I 1) (I 2) AI AN AL).1 k) := hw2
  subst hw2
  refine lv_if_eq (tgt := 33) hx hb dX3_base_18 (by decide) (fun h3 => ?_) (fun h3 => ?_)
  · refine lv_iconst (v := nI 1) hx hb dX3_base_33 (by decide) ?_
    refine b_put (own := RX3) (C := RX3) (T := TX3) (N := 23) (ci := 3) (v := .int (nI 1)) hx hb hts usX3 tyX3 tyX3_ok nmX3 hown hK hP hD hS 0 (by decide) rfl rfl 0 (by decide) (hts _ gw_504) rfl rfl rfl (Nat.le_of_ble_eq_true rfl) dX3_base_34 sM_I0 (fun H locs hP hD hS => ?_)
    refine lv_aload_n hx hb dX3_base_37 rfl (lv_at hl 0 rfl) ?_
    refine b_get (own := RX3) (C := RX3) (T := TX3) (N := 23) (ci := 3) (v := .int (nI 1)) hx hb hts usX3 hown hK hP 0 (by decide) rfl rfl 0 (by decide) (hts _ gw_504) rfl dX3_base_38 ?_
    refine lv_if_le (tgt := 48) hx hb dX3_base_41 (by decide) (fun q => absurd q (by decide)) (fun _ => ?_)
    refine lv_lconst (v := 0) hx hb dX3_base_44 (by decide) ?_
    refine lv_goto (tgt := 58) hx hb dX3_base_45 (by decide) ?_
    have hno : ¬ (szM (fbS (I 1) (I 2) AI AN AL).1 k && unM I u) = true := by rw [show szM (fbS (I 1) (I 2) AI AN AL).1 k = false from bz_1.mp h3, Bool.false_and]; decide
    exact g_lret hx hb hr hlocks (up1 (up1 (up1 I 3 (lkF (I 1) (I 2) AI AN AL).1) 4 (fbS (I 1) (I 2) AI AN AL).1) 0 1, G, (fbS (I 1) (I 2) AI AN AL).2.1, AI, (fbS (I 1) (I 2) AI AN AL).2.2) (⟨by unfold basS; rw [if_neg hno], by unfold basR; rw [if_neg hno]⟩) hK hP hD hS dX3_base_58
  · have hsk := bz_t h3
    refine lv_aload_n hx hb dX3_base_21 rfl (lv_at hl 0 rfl) ?_
    refine lv_iload_n hx hb dX3_base_22 rfl (lv_at hl 2 rfl) ?_
    refine g_calli (va_runV (As := [.int u]) (rest := [.ref (ad 0)]) ⟨hx, hb, hml, hown, hts⟩ (ctX3_isUnknown l D cs ad (up1 (up1 I 3 (lkF (I 1) (I 2) AI AN AL).1) 4 (fbS (I 1) (I 2) AI AN AL).1) G ((fbS (I 1) (I 2) AI AN AL).2.1) AI ((fbS (I 1) (I 2) AI AN AL).2.2) _ u) (cwV 1 hts (gi_V gw_656 gw_658 gw_37 gw_57 gw_659) rfl rfl rfl (by decide +kernel) ⟨Nat.le_of_ble_eq_true rfl, Nat.le_of_ble_eq_true rfl⟩) ⟨g_blind, va_recv hK hP (ci := 3) (q0 := 0) rfl (wm_at (by decide) rfl), g_pre hP hK hD hN⟩ rfl rfl hl.1 rfl (lv_room (Nat.le_of_ble_eq_true rfl)) dX3_base_23 ⟨Nat.zero_le _, Nat.zero_le _⟩) hD hS hA (fun r u H locs hw hP hD hS => ?_)
    obtain ⟨rfl, hw2⟩ := hw
    have hP : va_P D vc (wM cs ad (up1 (up1 I 3 (lkF (I 1) (I 2) AI AN AL).1) 4 (fbS (I 1) (I 2) AI AN AL).1) G ((fbS (I 1) (I 2) AI AN AL).2.1) AI ((fbS (I 1) (I 2) AI AN AL).2.2)) H := hP
    have hD : va_D A (wM cs ad (up1 (up1 I 3 (lkF (I 1) (I 2) AI AN AL).1) 4 (fbS (I 1) (I 2) AI AN AL).1) G ((fbS (I 1) (I 2) AI AN AL).2.1) AI ((fbS (I 1) (I 2) AI AN AL).2.2)) := hD
    have hw2 : r = bz (unM I u) := hw2
    subst hw2
    refine lv_if_eq (tgt := 33) hx hb dX3_base_26 (by decide) (fun h4 => ?_) (fun h4 => ?_)
    · refine lv_iconst (v := nI 1) hx hb dX3_base_33 (by decide) ?_
      refine b_put (own := RX3) (C := RX3) (T := TX3) (N := 23) (ci := 3) (v := .int (nI 1)) hx hb hts usX3 tyX3 tyX3_ok nmX3 hown hK hP hD hS 0 (by decide) rfl rfl 0 (by decide) (hts _ gw_504) rfl rfl rfl (Nat.le_of_ble_eq_true rfl) dX3_base_34 sM_I0 (fun H locs hP hD hS => ?_)
      refine lv_aload_n hx hb dX3_base_37 rfl (lv_at hl 0 rfl) ?_
      refine b_get (own := RX3) (C := RX3) (T := TX3) (N := 23) (ci := 3) (v := .int (nI 1)) hx hb hts usX3 hown hK hP 0 (by decide) rfl rfl 0 (by decide) (hts _ gw_504) rfl dX3_base_38 ?_
      refine lv_if_le (tgt := 48) hx hb dX3_base_41 (by decide) (fun q => absurd q (by decide)) (fun _ => ?_)
      refine lv_lconst (v := 0) hx hb dX3_base_44 (by decide) ?_
      refine lv_goto (tgt := 58) hx hb dX3_base_45 (by decide) ?_
      have hno : ¬ (szM (fbS (I 1) (I 2) AI AN AL).1 k && unM I u) = true := by rw [show unM I u = false from bz_1.mp h4, Bool.and_false]; decide
      exact g_lret hx hb hr hlocks (up1 (up1 (up1 I 3 (lkF (I 1) (I 2) AI AN AL).1) 4 (fbS (I 1) (I 2) AI AN AL).1) 0 1, G, (fbS (I 1) (I 2) AI AN AL).2.1, AI, (fbS (I 1) (I 2) AI AN AL).2.2) (⟨by unfold basS; rw [if_neg hno], by unfold basR; rw [if_neg hno]⟩) hK hP hD hS dX3_base_58
    · have hun := bz_t h4
      refine lv_iconst (v := nI 0) hx hb dX3_base_29 (by decide) ?_
      refine lv_goto (tgt := 34) hx hb dX3_base_30 (by decide) ?_
      refine b_put (own := RX3) (C := RX3) (T := TX3) (N := 23) (ci := 3) (v := .int (nI 0)) hx hb hts usX3 tyX3 tyX3_ok nmX3 hown hK hP hD hS 0 (by decide) rfl rfl 0 (by decide) (hts _ gw_504) rfl rfl rfl (Nat.le_of_ble_eq_true rfl) dX3_base_34 sM_I0 (fun H locs hP hD hS => ?_)
      refine lv_aload_n hx hb dX3_base_37 rfl (lv_at hl 0 rfl) ?_
      refine b_get (own := RX3) (C := RX3) (T := TX3) (N := 23) (ci := 3) (v := .int (nI 0)) hx hb hts usX3 hown hK hP 0 (by decide) rfl rfl 0 (by decide) (hts _ gw_504) rfl dX3_base_38 ?_
      refine lv_if_le (tgt := 48) hx hb dX3_base_41 (by decide) (fun _ => ?_) (fun q => absurd (by decide) q)
      obtain ⟨k', rfl, hk⟩ := szM_spec hsz hsk
      obtain ⟨u', rfl, hu⟩ := unM_spec h1 hun
      refine lv_aload_n hx hb dX3_base_48 rfl (lv_at hl 0 rfl) ?_
      refine b_get (own := RX3) (C := RX3) (T := TX3) (N := 23) (ci := 3) (v := .ref (ad 9)) hx hb hts usX3 hown hK hP 0 (by decide) rfl rfl 16 (by decide) (hts _ gw_520) rfl dX3_base_49 ?_
      refine lv_iconst (v := nI 3) hx hb dX3_base_52 (by decide) ?_
      refine lv_iload_n hx hb dX3_base_53 rfl (lv_at hl 1 rfl) ?_
      refine b_muln hx hb dX3_base_54 ?_
      refine lv_iload_n hx hb dX3_base_55 rfl (lv_at hl 2 rfl) ?_
      refine b_addn hx hb dX3_base_56 ?_
      refine b_lald hx hb hK hP 9 1 (by decide) rfl rfl (by omega) (by decide) dX3_base_57 ?_
      have hyes : (szM (fbS (I 1) (I 2) AI AN AL).1 (nI k') && unM I (nI u')) = true := by rw [hsk, hun]; rfl
      exact g_lret hx hb hr hlocks (up1 (up1 (up1 I 3 (lkF (I 1) (I 2) AI AN AL).1) 4 (fbS (I 1) (I 2) AI AN AL).1) 0 0, G, (fbS (I 1) (I 2) AI AN AL).2.1, AI, (fbS (I 1) (I 2) AI AN AL).2.2) (⟨by unfold basS; rw [if_pos hyes], by unfold basR; rw [if_pos hyes, nI_cl (show k' < 2 ^ 31 by omega), nI_cl (show u' < 2 ^ 31 by omega)]⟩) hK hP hD hS dX3_base_58

def ft1 (x y z : Int64) (AL : Nat → Nat → Int64) : Nat → Nat → Int64 := up2 (up2 (up2 AL 11 0 x) 11 1 y) 11 2 z
def ft2s (rk : Nat) (AN : Nat → Nat → Nat) (AI : Nat → Int32) (u : Nat) (x : Nat × (Nat → Nat → Int64)) : Nat × (Nat → Nat → Int64) := if 0 < x.2 12 u then x else (x.1 + 1, up2 (fo (fun r Y => up2 Y 5 (3 * r + x.1) (nbr AN AI r u)) rk 0 x.2) 11 u 0)
def ft2 (n rk : Nat) (AN : Nat → Nat → Nat) (AI : Nat → Int32) (AL : Nat → Nat → Int64) : Nat → Nat → Int64 := (fo (ft2s rk AN AI) n 0 (0, AL)).2
def ft3 (n rk : Nat) (AN : Nat → Nat → Nat) (AI : Nat → Int32) (AL : Nat → Nat → Int64) : Nat → Nat → Int64 := fo (fun r X => fo (fun u Y => up2 Y 6 r (Y 6 r - nbr AN AI r u * Y 11 u)) n 0 (up2 X 6 r (Int32.toInt64 (AI (4 * AN 3 r + 3))))) rk 0 AL
def ft5 (al : Int64) : Nat → Nat → Nat → (Nat → Nat → Int64) → Bool × (Nat → Nat → Int64)
  | 0, _, _, X => (true, X)
  | n + 1, u, k, X => if 0 < X 12 u then ft5 al n (u + 1) k X else if X 7 k - X 7 k / al * al = 0 then ft5 al n (u + 1) (k + 1) (up2 X 11 u (X 7 k / al)) else (false, X)
/-- square and comes, when fits has laid them -/
def ftQ (n rk : Nat) (AN : Nat → Nat → Nat) (AI : Nat → Int32) (x y z : Int64) (AL : Nat → Nat → Int64) : Nat → Nat → Int64 := ft3 n rk AN AI (ft2 n rk AN AI (ft1 x y z AL))
def ftR (n rk : Nat) (AN : Nat → Nat → Nat) (AI : Nat → Int32) (x y z : Int64) (AL : Nat → Nat → Int64) : Bool × (Nat → Nat → Int64) := ft5 (det rk (ftQ n rk AN AI x y z AL 5)) n 0 0 (ssq rk (ftQ n rk AN AI x y z AL))

abbrev rmX3_fits : Room := { frames := 2, cells := 0, slots := 0, locals := 45 }
set_option maxHeartbeats 4000000 in
set_option maxRecDepth 100000 in
theorem ctX3_fits (l : Launch) (D : va_G) (cs : Nat → ClassId) (ad : Nat → Nat) (I : Nat → Nat) (G : Nat → Int64) (AN : Nat → Nat → Nat) (AI : Nat → Int32) (AL : Nat → Nat → Int64) (sz : Nat) (x y z : Int64) (h1 : I 1 ≤ 3) (h3 : I 3 ≤ 3) (hok : okA AN) (hal : ¬ det (I 3) (ftQ (I 1) (I 3) AN AI x y z AL 5) = 0) : Met l yX3_fits (Cond.code yX3_fits cX3_fits 10 (some FieldType.boolean) :: GW) rmX3_fits (va_Pc [.ref (ad 0), .long x, .long y, .long z] (gP D cs (wM cs ad I G AN AI AL) sz)) (va_Qi (fun (r : Int32) (v : MS) => v = (I, up1 G 0 (det (I 3) (ftQ (I 1) (I 3) AN AI x y z AL 5)), AN, AI, (ftR (I 1) (I 3) AN AI x y z AL).2) ∧ r = bz (ftR (I 1) (I 3) AN AI x y z AL).1) (gB D cs (va_A (wM cs ad I G AN AI AL) sz) (wMs cs ad)) (va_A (wM cs ad I G AN AI AL) sz)) 0 0 (va_A (wM cs ad I G AN AI AL) sz) := by
  refine Met.ofW (cc := cX3_fits) (maxL := 10) (ret := (some FieldType.boolean)) (by decide) rfl ?_
  intro p e s m args below meth c s₁ B hml hv
  obtain ⟨rfl, hsz, hP, hK, hD0, hN⟩ := hv
  have hx := B.exec
  have hb := B.bytes
  have hr := B.returns
  have hts : ∀ w ∈ GW, w.before _ s = true := fun w h => atoms_spec (ws := Cond.code yX3_fits cX3_fits 10 (some FieldType.boolean) :: GW) B.pre w (List.mem_cons_of_mem _ h)
  have hown : s.vm.findClass RX3 = some m.cls := findClass_of_methodNamed B.named
  have hlocks := B.notSynchronized
  subst hsz
  have hD := hD0.self (sz := s.heap.size)
  generalize hAe : va_A (wM cs ad I G AN AI AL) s.heap.size = A at hD ⊢
  have hA : ∀ q : Nat, s.heap.size ≤ q → A q := fun q h => by rw [← hAe]; exact Or.inr h
  have hS : va_S A s.heap s.heap [] := va_S.rf
  have hl := lv_entry [.ref (ad 0), .long x, .long y, .long z] (n := 10) (Nat.le_of_ble_eq_true rfl)
  rw [lg_entry_eq]
  generalize (lg_sl [.ref (ad 0), .long x, .long y, .long z] ++ List.replicate (10 - (lg_sl [.ref (ad 0), .long x, .long y, .long z]).length) Slot.unset).toArray = ls at hl ⊢
  have hl : lv_has ls 10 [(0, .ref (ad 0)), (1, .long x), (3, .long y), (5, .long z)] := hl
  generalize hargs : ([.ref (ad 0), .long x, .long y, .long z] : List Value).toArray = args at *
  show W p l e rmX3_fits s m args below meth c s.heap [] 0 0 _ (F0 m 0 ls [])
  refine lv_aload_n hx hb dX3_fits_0 rfl (lv_at hl 0 rfl) ?_
  refine b_get (own := RX3) (C := RX3) (T := TX3) (N := 23) (ci := 3) (v := .ref (ad 11)) hx hb hts usX3 hown hK hP 0 (by decide) rfl rfl 18 (by decide) (hts _ gw_522) rfl dX3_fits_1 ?_
  refine lv_iconst (v := nI 0) hx hb dX3_fits_4 (by decide) ?_
  refine lv_lload_n hx hb dX3_fits_5 rfl (lv_at hl 1 rfl) ?_
  refine b_last hx hb hK hP hD hS 11 1 (by decide) rfl rfl (by omega) (by decide) dX3_fits_6 sM_L11 (fun H locs hP hD hS => ?_)
  refine lv_aload_n hx hb dX3_fits_7 rfl (lv_at hl 0 rfl) ?_
  refine b_get (own := RX3) (C := RX3) (T := TX3) (N := 23) (ci := 3) (v := .ref (ad 11)) hx hb hts usX3 hown hK hP 0 (by decide) rfl rfl 18 (by decide) (hts _ gw_522) rfl dX3_fits_8 ?_
  refine lv_iconst (v := nI 1) hx hb dX3_fits_11 (by decide) ?_
  refine lv_lload_n hx hb dX3_fits_12 rfl (lv_at hl 2 rfl) ?_
  refine b_last hx hb hK hP hD hS 11 1 (by decide) rfl rfl (by omega) (by decide) dX3_fits_13 sM_L11 (fun H locs hP hD hS => ?_)
  refine lv_aload_n hx hb dX3_fits_14 rfl (lv_at hl 0 rfl) ?_
  refine b_get (own := RX3) (C := RX3) (T := TX3) (N := 23) (ci := 3) (v := .ref (ad 11)) hx hb hts usX3 hown hK hP 0 (by decide) rfl rfl 18 (by decide) (hts _ gw_522) rfl dX3_fits_15 ?_
  refine lv_iconst (v := nI 2) hx hb dX3_fits_18 (by decide) ?_
  refine lv_lload hx hb dX3_fits_19 (lv_at hl 3 rfl) ?_
  refine b_last hx hb hK hP hD hS 11 1 (by decide) rfl rfl (by omega) (by decide) dX3_fits_21 sM_L11 (fun H locs hP hD hS => ?_)
  refine lv_iconst (v := nI 0) hx hb dX3_fits_22 (by decide) ?_
  refine lv_istore (lv' := [(7, .int (nI 0)), (0, .ref (ad 0)), (1, .long x), (3, .long y), (5, .long z)]) hx hb dX3_fits_23 hl (by decide) rfl (fun ls hl => ?_)
  refine lv_iconst (v := nI 0) hx hb dX3_fits_25 (by decide) ?_
  refine lv_istore (lv' := [(8, .int (nI 0)), (7, .int (nI 0)), (0, .ref (ad 0)), (1, .long x), (3, .long y), (5, .long z)]) hx hb dX3_fits_26 hl (by decide) rfl (fun ls hl => ?_)
  have hP : va_P D vc (wM cs ad I G AN AI (ft1 x y z AL)) H := hP
  have hD : va_D A (wM cs ad I G AN AI (ft1 x y z AL)) := hD
  have lp28 : ∀ (Q : State → Prop) (n u k : Nat) (X : Nat → Nat → Int64) (H : Heap) (locs : List Loc) (ls : Array Slot), u + n = I 1 → k ≤ u → va_P D vc (wM cs ad I G AN AI X) H → va_D A (wM cs ad I G AN AI X) → va_S A s.heap H locs → lv_has ls 10 [(8, .int (nI u)), (7, .int (nI k)), (0, .ref (ad 0)), (1, .long x), (3, .long y), (5, .long z)] → (∀ (H : Heap) (locs : List Loc) (ls : Array Slot), va_P D vc (wM cs ad I G AN AI (fo (ft2s (I 3) AN AI) n u (k, X)).2) H → va_D A (wM cs ad I G AN AI (fo (ft2s (I 3) AN AI) n u (k, X)).2) → va_S A s.heap H locs → lv_has ls 10 [(0, .ref (ad 0)), (1, .long x), (3, .long y), (5, .long z)] → W p l e rmX3_fits s m args below meth c H locs 0 0 Q (F0 m 107 ls [])) → W p l e rmX3_fits s m args below meth c H locs 0 0 Q (F0 m 28 ls []) := by
    intro Q n
    induction n with
    | zero =>
      intro u k X H locs ls hn hk hP hD hS hl kx
      refine lv_iload hx hb dX3_fits_28 (lv_at hl 0 rfl) ?_
      refine lv_aload_n hx hb dX3_fits_30 rfl (lv_at hl 2 rfl) ?_
      refine b_get (own := RX3) (C := RX3) (T := TX3) (N := 23) (ci := 3) (v := .int (nI (I 1))) hx hb hts usX3 hown hK hP 0 (by decide) rfl rfl 1 (by decide) (hts _ gw_505) rfl dX3_fits_31 ?_
      refine b_ge_t (tgt := 107) hx hb dX3_fits_34 (by decide) (by omega) (by omega) ?_
      exact kx H locs ls hP hD hS (lv_sub hl [2, 3, 4, 5] rfl)
    | succ n ih =>
      intro u k X H locs ls hn hk hP hD hS hl kx
      refine lv_iload hx hb dX3_fits_28 (lv_at hl 0 rfl) ?_
      refine lv_aload_n hx hb dX3_fits_30 rfl (lv_at hl 2 rfl) ?_
      refine b_get (own := RX3) (C := RX3) (T := TX3) (N := 23) (ci := 3) (v := .int (nI (I 1))) hx hb hts usX3 hown hK hP 0 (by decide) rfl rfl 1 (by decide) (hts _ gw_505) rfl dX3_fits_31 ?_
      refine b_ge_f (tgt := 107) hx hb dX3_fits_34 (by decide) (by omega) (by omega) ?_
      refine lv_aload_n hx hb dX3_fits_37 rfl (lv_at hl 2 rfl) ?_
      refine b_get (own := RX3) (C := RX3) (T := TX3) (N := 23) (ci := 3) (v := .ref (ad 12)) hx hb hts usX3 hown hK hP 0 (by decide) rfl rfl 19 (by decide) (hts _ gw_523) rfl dX3_fits_38 ?_
      refine lv_iload hx hb dX3_fits_41 (lv_at hl 0 rfl) ?_
      refine b_lald hx hb hK hP 12 1 (by decide) rfl rfl (by omega) (by decide) dX3_fits_43 ?_
      refine lv_lconst (v := 0) hx hb dX3_fits_44 (by decide) ?_
      refine b_lcle (tgt := 52) hx hb dX3_fits_45 dX3_fits_46 (by decide) (fun h => ?_) (fun h => ?_)
      · refine lv_iconst (v := nI 0) hx hb dX3_fits_52 (by decide) ?_
        refine lv_istore (lv' := [(9, .int (nI 0)), (8, .int (nI u)), (7, .int (nI k)), (0, .ref (ad 0)), (1, .long x), (3, .long y), (5, .long z)]) hx hb dX3_fits_53 hl (by decide) rfl (fun ls hl => ?_)
        have lp55 : ∀ (Q : State → Prop) (n r9 : Nat) (Y : Nat → Nat → Int64) (H : Heap) (locs : List Loc) (ls : Array Slot), r9 + n = I 3 → va_P D vc (wM cs ad I G AN AI Y) H → va_D A (wM cs ad I G AN AI Y) → va_S A s.heap H locs → lv_has ls 10 [(9, .int (nI r9)), (8, .int (nI u)), (7, .int (nI k)), (0, .ref (ad 0)), (1, .long x), (3, .long y), (5, .long z)] → (∀ (H : Heap) (locs : List Loc) (ls : Array Slot), va_P D vc (wM cs ad I G AN AI (fo (fun r Y => up2 Y 5 (3 * r + k) (nbr AN AI r u)) n r9 Y)) H → va_D A (wM cs ad I G AN AI (fo (fun r Y => up2 Y 5 (3 * r + k) (nbr AN AI r u)) n r9 Y)) → va_S A s.heap H locs → lv_has ls 10 [(9, .int (nI (I 3))), (8, .int (nI u)), (7, .int (nI k)), (0, .ref (ad 0)), (1, .long x), (3, .long y), (5, .long z)] → W p l e rmX3_fits s m args below meth c H locs 0 0 Q (F0 m 90 ls [])) → W p l e rmX3_fits s m args below meth c H locs 0 0 Q (F0 m 55 ls []) := by
          intro Q n
          induction n with
          | zero =>
            intro r9 Y H locs ls hn hP hD hS hl kx
            have hi : r9 = I 3 := by omega
            refine lv_iload hx hb dX3_fits_55 (lv_at hl 0 rfl) ?_
            refine lv_aload_n hx hb dX3_fits_57 rfl (lv_at hl 3 rfl) ?_
            refine b_get (own := RX3) (C := RX3) (T := TX3) (N := 23) (ci := 3) (v := .int (nI (I 3))) hx hb hts usX3 hown hK hP 0 (by decide) rfl rfl 4 (by decide) (hts _ gw_508) rfl dX3_fits_58 ?_
            refine b_ge_t (tgt := 90) hx hb dX3_fits_61 (by decide) (by omega) (by omega) ?_
            rw [hi] at hl
            exact kx H locs ls hP hD hS (lv_sub hl [0, 1, 2, 3, 4, 5, 6] rfl)
          | succ n ih =>
            intro r9 Y H locs ls hn hP hD hS hl kx
            have hi : r9 < I 3 := by omega
            refine lv_iload hx hb dX3_fits_55 (lv_at hl 0 rfl) ?_
            refine lv_aload_n hx hb dX3_fits_57 rfl (lv_at hl 3 rfl) ?_
            refine b_get (own := RX3) (C := RX3) (T := TX3) (N := 23) (ci := 3) (v := .int (nI (I 3))) hx hb hts usX3 hown hK hP 0 (by decide) rfl rfl 4 (by decide) (hts _ gw_508) rfl dX3_fits_58 ?_
            refine b_ge_f (tgt := 90) hx hb dX3_fits_61 (by decide) (by omega) (by omega) ?_
            refine lv_aload_n hx hb dX3_fits_64 rfl (lv_at hl 3 rfl) ?_
            refine b_get (own := RX3) (C := RX3) (T := TX3) (N := 23) (ci := 3) (v := .ref (ad 5)) hx hb hts usX3 hown hK hP 0 (by decide) rfl rfl 8 (by decide) (hts _ gw_512) rfl dX3_fits_65 ?_
            refine lv_iconst (v := nI 3) hx hb dX3_fits_68 (by decide) ?_
            refine lv_iload hx hb dX3_fits_69 (lv_at hl 0 rfl) ?_
            refine b_muln hx hb dX3_fits_71 ?_
            refine lv_iload hx hb dX3_fits_72 (lv_at hl 2 rfl) ?_
            refine b_addn hx hb dX3_fits_74 ?_
            refine lv_aload_n hx hb dX3_fits_75 rfl (lv_at hl 3 rfl) ?_
            refine lv_iload hx hb dX3_fits_76 (lv_at hl 0 rfl) ?_
            refine lv_iload hx hb dX3_fits_78 (lv_at hl 1 rfl) ?_
            refine g_calll (va_runV (As := [.int (nI r9), .int (nI u)]) (rest := [.int (nI ((3 * r9) + k)), .ref (ad 5)]) ⟨hx, hb, hml, hown, hts⟩ (ctX3_number l D cs ad I G AN AI Y _ r9 u hok (by omega) (by omega)) (cwV 2 hts (gi_V gw_695 gw_697 gw_44 gw_57 gw_698) rfl rfl rfl (by decide +kernel) ⟨Nat.le_of_ble_eq_true rfl, Nat.le_of_ble_eq_true rfl⟩) ⟨g_blind, va_recv hK hP (ci := 3) (q0 := 0) rfl (wm_at (by decide) rfl), g_pre hP hK hD hN⟩ rfl rfl hl.1 rfl (lv_room (Nat.le_of_ble_eq_true rfl)) dX3_fits_80 ⟨Nat.zero_le _, Nat.zero_le _⟩) hD hS hA (fun r u H locs hw hP hD hS => ?_)
            obtain ⟨rfl, rfl⟩ := hw
            have hP : va_P D vc (wM cs ad I G AN AI Y) H := hP
            have hD : va_D A (wM cs ad I G AN AI Y) := hD
            refine b_last hx hb hK hP hD hS 5 1 (by decide) rfl rfl (by omega) (by decide) dX3_fits_83 sM_L5 (fun H locs hP hD hS => ?_)
            refine b_iinc (lv' := [(9, .int (nI (r9 + 1))), (8, .int (nI u)), (7, .int (nI k)), (0, .ref (ad 0)), (1, .long x), (3, .long y), (5, .long z)]) hx hb dX3_fits_84 hl (k := 0) rfl (by decide) rfl (fun ls hl => ?_)
            refine lv_goto (tgt := 55) hx hb dX3_fits_87 (by decide) ?_
            exact ih (r9 + 1) _ H locs ls (by omega) hP hD hS (lv_sub hl [0, 1, 2, 3, 4, 5, 6] rfl) kx
        refine lp55 _ (I 3) 0 X _ _ ls (by omega) hP hD hS (lv_sub hl [0, 1, 2, 3, 4, 5, 6] rfl) (fun H locs ls hP hD hS hl => ?_)
        refine lv_aload_n hx hb dX3_fits_90 rfl (lv_at hl 3 rfl) ?_
        refine b_get (own := RX3) (C := RX3) (T := TX3) (N := 23) (ci := 3) (v := .ref (ad 11)) hx hb hts usX3 hown hK hP 0 (by decide) rfl rfl 18 (by decide) (hts _ gw_522) rfl dX3_fits_91 ?_
        refine lv_iload hx hb dX3_fits_94 (lv_at hl 1 rfl) ?_
        refine lv_lconst (v := 0) hx hb dX3_fits_96 (by decide) ?_
        refine b_last hx hb hK hP hD hS 11 1 (by decide) rfl rfl (by omega) (by decide) dX3_fits_97 sM_L11 (fun H locs hP hD hS => ?_)
        refine b_iinc (lv' := [(7, .int (nI (k + 1))), (9, .int (nI (I 3))), (8, .int (nI u)), (0, .ref (ad 0)), (1, .long x), (3, .long y), (5, .long z)]) hx hb dX3_fits_98 hl (k := 2) rfl (by decide) rfl (fun ls hl => ?_)
        refine b_iinc (lv' := [(8, .int (nI (u + 1))), (7, .int (nI (k + 1))), (9, .int (nI (I 3))), (0, .ref (ad 0)), (1, .long x), (3, .long y), (5, .long z)]) hx hb dX3_fits_101 hl (k := 2) rfl (by decide) rfl (fun ls hl => ?_)
        refine lv_goto (tgt := 28) hx hb dX3_fits_104 (by decide) ?_
        have e1 : ft2s (I 3) AN AI u (k, X) = (k + 1, up2 (fo (fun r Y => up2 Y 5 (3 * r + k) (nbr AN AI r u)) (I 3) 0 X) 11 u 0) := if_neg h
        rw [fo_s, e1] at kx
        exact ih (u + 1) (k + 1) _ H locs ls (by omega) (by omega) hP hD hS (lv_sub hl [0, 1, 3, 4, 5, 6] rfl) kx
      · refine lv_goto (tgt := 101) hx hb dX3_fits_49 (by decide) ?_
        refine b_iinc (lv' := [(8, .int (nI (u + 1))), (7, .int (nI k)), (0, .ref (ad 0)), (1, .long x), (3, .long y), (5, .long z)]) hx hb dX3_fits_101 hl (k := 0) rfl (by decide) rfl (fun ls hl => ?_)
        refine lv_goto (tgt := 28) hx hb dX3_fits_104 (by decide) ?_
        have e1 : ft2s (I 3) AN AI u (k, X) = (k, X) := if_pos h
        rw [fo_s, e1] at kx
        exact ih (u + 1) k X H locs ls (by omega) (by omega) hP hD hS (lv_sub hl [0, 1, 2, 3, 4, 5] rfl) kx
  refine lp28 _ (I 1) 0 0 (ft1 x y z AL) _ _ ls (by omega) (by omega) hP hD hS (lv_sub hl [0, 1, 2, 3, 4, 5] rfl) (fun H locs ls hP hD hS hl => ?_)
  have hP : va_P D vc (wM cs ad I G AN AI (ft2 (I 1) (I 3) AN AI (ft1 x y z AL))) H := hP
  have hD : va_D A (wM cs ad I G AN AI (ft2 (I 1) (I 3) AN AI (ft1 x y z AL))) := hD
  generalize hX2 : ft2 (I 1) (I 3) AN AI (ft1 x y z AL) = X2 at hP hD
  refine lv_iconst (v := nI 0) hx hb dX3_fits_107 (by decide) ?_
  refine lv_istore (lv' := [(8, .int (nI 0)), (0, .ref (ad 0)), (1, .long x), (3, .long y), (5, .long z)]) hx hb dX3_fits_108 hl (by decide) rfl (fun ls hl => ?_)
  have lp110 : ∀ (Q : State → Prop) (n r9 : Nat) (X : Nat → Nat → Int64) (H : Heap) (locs : List Loc) (ls : Array Slot), r9 + n = I 3 → va_P D vc (wM cs ad I G AN AI X) H → va_D A (wM cs ad I G AN AI X) → va_S A s.heap H locs → lv_has ls 10 [(8, .int (nI r9)), (0, .ref (ad 0)), (1, .long x), (3, .long y), (5, .long z)] → (∀ (H : Heap) (locs : List Loc) (ls : Array Slot), va_P D vc (wM cs ad I G AN AI (fo (fun r X => fo (fun u Y => up2 Y 6 r (Y 6 r - nbr AN AI r u * Y 11 u)) (I 1) 0 (up2 X 6 r (Int32.toInt64 (AI (4 * AN 3 r + 3))))) n r9 X)) H → va_D A (wM cs ad I G AN AI (fo (fun r X => fo (fun u Y => up2 Y 6 r (Y 6 r - nbr AN AI r u * Y 11 u)) (I 1) 0 (up2 X 6 r (Int32.toInt64 (AI (4 * AN 3 r + 3))))) n r9 X)) → va_S A s.heap H locs → lv_has ls 10 [(8, .int (nI (I 3))), (0, .ref (ad 0)), (1, .long x), (3, .long y), (5, .long z)] → W p l e rmX3_fits s m args below meth c H locs 0 0 Q (F0 m 193 ls [])) → W p l e rmX3_fits s m args below meth c H locs 0 0 Q (F0 m 110 ls []) := by
    intro Q n
    induction n with
    | zero =>
      intro r9 X H locs ls hn hP hD hS hl kx
      have hi : r9 = I 3 := by omega
      refine lv_iload hx hb dX3_fits_110 (lv_at hl 0 rfl) ?_
      refine lv_aload_n hx hb dX3_fits_112 rfl (lv_at hl 1 rfl) ?_
      refine b_get (own := RX3) (C := RX3) (T := TX3) (N := 23) (ci := 3) (v := .int (nI (I 3))) hx hb hts usX3 hown hK hP 0 (by decide) rfl rfl 4 (by decide) (hts _ gw_508) rfl dX3_fits_113 ?_
      refine b_ge_t (tgt := 193) hx hb dX3_fits_116 (by decide) (by omega) (by omega) ?_
      rw [hi] at hl
      exact kx H locs ls hP hD hS (lv_sub hl [0, 1, 2, 3, 4] rfl)
    | succ n ih =>
      intro r9 X H locs ls hn hP hD hS hl kx
      have hi : r9 < I 3 := by omega
      refine lv_iload hx hb dX3_fits_110 (lv_at hl 0 rfl) ?_
      refine lv_aload_n hx hb dX3_fits_112 rfl (lv_at hl 1 rfl) ?_
      refine b_get (own := RX3) (C := RX3) (T := TX3) (N := 23) (ci := 3) (v := .int (nI (I 3))) hx hb hts usX3 hown hK hP 0 (by decide) rfl rfl 4 (by decide) (hts _ gw_508) rfl dX3_fits_113 ?_
      refine b_ge_f (tgt := 193) hx hb dX3_fits_116 (by decide) (by omega) (by omega) ?_
      have hl3 := hok.2.1 r9 (by omega)
      refine lv_aload_n hx hb dX3_fits_119 rfl (lv_at hl 1 rfl) ?_
      refine b_get (own := RX3) (C := RX3) (T := TX3) (N := 23) (ci := 3) (v := .ref (ad 6)) hx hb hts usX3 hown hK hP 0 (by decide) rfl rfl 9 (by decide) (hts _ gw_513) rfl dX3_fits_120 ?_
      refine lv_iload hx hb dX3_fits_123 (lv_at hl 0 rfl) ?_
      refine lv_aload_n hx hb dX3_fits_125 rfl (lv_at hl 1 rfl) ?_
      refine b_get (own := RX3) (C := RX3) (T := TX3) (N := 23) (ci := 3) (v := .ref (ad 1)) hx hb hts usX3 hown hK hP 0 (by decide) rfl rfl 3 (by decide) (hts _ gw_507) rfl dX3_fits_126 ?_
      refine lv_iconst (v := nI 4) hx hb dX3_fits_129 (by decide) ?_
      refine lv_aload_n hx hb dX3_fits_130 rfl (lv_at hl 1 rfl) ?_
      refine b_get (own := RX3) (C := RX3) (T := TX3) (N := 23) (ci := 3) (v := .ref (ad 3)) hx hb hts usX3 hown hK hP 0 (by decide) rfl rfl 6 (by decide) (hts _ gw_510) rfl dX3_fits_131 ?_
      refine lv_iload hx hb dX3_fits_134 (lv_at hl 0 rfl) ?_
      refine b_iald hx hb hK hP 3 0 (by decide) rfl rfl (by omega) (by decide) dX3_fits_136 ?_
      refine b_muln hx hb dX3_fits_137 ?_
      refine lv_iconst (v := nI 3) hx hb dX3_fits_138 (by decide) ?_
      refine b_addn hx hb dX3_fits_139 ?_
      refine b_iald hx hb hK hP 1 0 (by decide) rfl rfl (by omega) (by decide) dX3_fits_140 ?_
      refine lv_i2l (v := Int32.toInt64 (AI ((4 * (AN 3 r9)) + 3))) hx hb dX3_fits_141 rfl ?_
      refine b_last hx hb hK hP hD hS 6 1 (by decide) rfl rfl (by omega) (by decide) dX3_fits_142 sM_L6 (fun H locs hP hD hS => ?_)
      refine lv_iconst (v := nI 0) hx hb dX3_fits_143 (by decide) ?_
      refine lv_istore (lv' := [(9, .int (nI 0)), (8, .int (nI r9)), (0, .ref (ad 0)), (1, .long x), (3, .long y), (5, .long z)]) hx hb dX3_fits_144 hl (by decide) rfl (fun ls hl => ?_)
      have lp146 : ∀ (Q : State → Prop) (n u9 : Nat) (Y : Nat → Nat → Int64) (H : Heap) (locs : List Loc) (ls : Array Slot), u9 + n = I 1 → va_P D vc (wM cs ad I G AN AI Y) H → va_D A (wM cs ad I G AN AI Y) → va_S A s.heap H locs → lv_has ls 10 [(9, .int (nI u9)), (8, .int (nI r9)), (0, .ref (ad 0)), (1, .long x), (3, .long y), (5, .long z)] → (∀ (H : Heap) (locs : List Loc) (ls : Array Slot), va_P D vc (wM cs ad I G AN AI (fo (fun u Y => up2 Y 6 r9 (Y 6 r9 - nbr AN AI r9 u * Y 11 u)) n u9 Y)) H → va_D A (wM cs ad I G AN AI (fo (fun u Y => up2 Y 6 r9 (Y 6 r9 - nbr AN AI r9 u * Y 11 u)) n u9 Y)) → va_S A s.heap H locs → lv_has ls 10 [(9, .int (nI (I 1))), (8, .int (nI r9)), (0, .ref (ad 0)), (1, .long x), (3, .long y), (5, .long z)] → W p l e rmX3_fits s m args below meth c H locs 0 0 Q (F0 m 187 ls [])) → W p l e rmX3_fits s m args below meth c H locs 0 0 Q (F0 m 146 ls []) := by
        intro Q n
        induction n with
        | zero =>
          intro u9 Y H locs ls hn hP hD hS hl kx
          have hi : u9 = I 1 := by omega
          refine lv_iload hx hb dX3_fits_146 (lv_at hl 0 rfl) ?_
          refine lv_aload_n hx hb dX3_fits_148 rfl (lv_at hl 2 rfl) ?_
          refine b_get (own := RX3) (C := RX3) (T := TX3) (N := 23) (ci := 3) (v := .int (nI (I 1))) hx hb hts usX3 hown hK hP 0 (by decide) rfl rfl 1 (by decide) (hts _ gw_505) rfl dX3_fits_149 ?_
          refine b_ge_t (tgt := 187) hx hb dX3_fits_152 (by decide) (by omega) (by omega) ?_
          rw [hi] at hl
          exact kx H locs ls hP hD hS (lv_sub hl [0, 1, 2, 3, 4, 5] rfl)
        | succ n ih =>
          intro u9 Y H locs ls hn hP hD hS hl kx
          have hi : u9 < I 1 := by omega
          refine lv_iload hx hb dX3_fits_146 (lv_at hl 0 rfl) ?_
          refine lv_aload_n hx hb dX3_fits_148 rfl (lv_at hl 2 rfl) ?_
          refine b_get (own := RX3) (C := RX3) (T := TX3) (N := 23) (ci := 3) (v := .int (nI (I 1))) hx hb hts usX3 hown hK hP 0 (by decide) rfl rfl 1 (by decide) (hts _ gw_505) rfl dX3_fits_149 ?_
          refine b_ge_f (tgt := 187) hx hb dX3_fits_152 (by decide) (by omega) (by omega) ?_
          refine lv_aload_n hx hb dX3_fits_155 rfl (lv_at hl 2 rfl) ?_
          refine b_get (own := RX3) (C := RX3) (T := TX3) (N := 23) (ci := 3) (v := .ref (ad 6)) hx hb hts usX3 hown hK hP 0 (by decide) rfl rfl 9 (by decide) (hts _ gw_513) rfl dX3_fits_156 ?_
          refine lv_iload hx hb dX3_fits_159 (lv_at hl 1 rfl) ?_
          refine lv_dup2_11 hx hb dX3_fits_161 rfl rfl ?_
          refine b_lald hx hb hK hP 6 1 (by decide) rfl rfl (by omega) (by decide) dX3_fits_162 ?_
          refine lv_aload_n hx hb dX3_fits_163 rfl (lv_at hl 2 rfl) ?_
          refine lv_iload hx hb dX3_fits_164 (lv_at hl 1 rfl) ?_
          refine lv_iload hx hb dX3_fits_166 (lv_at hl 0 rfl) ?_
          refine g_calll (va_runV (As := [.int (nI r9), .int (nI u9)]) (rest := [.long (Y 6 r9), .int (nI r9), .ref (ad 6)]) ⟨hx, hb, hml, hown, hts⟩ (ctX3_number l D cs ad I G AN AI Y _ r9 u9 hok (by omega) (by omega)) (cwV 2 hts (gi_V gw_695 gw_697 gw_44 gw_57 gw_698) rfl rfl rfl (by decide +kernel) ⟨Nat.le_of_ble_eq_true rfl, Nat.le_of_ble_eq_true rfl⟩) ⟨g_blind, va_recv hK hP (ci := 3) (q0 := 0) rfl (wm_at (by decide) rfl), g_pre hP hK hD hN⟩ rfl rfl hl.1 rfl (lv_room (Nat.le_of_ble_eq_true rfl)) dX3_fits_168 ⟨Nat.zero_le _, Nat.zero_le _⟩) hD hS hA (fun r u H locs hw hP hD hS => ?_)
          obtain ⟨rfl, rfl⟩ := hw
          have hP : va_P D vc (wM cs ad I G AN AI Y) H := hP
          have hD : va_D A (wM cs ad I G AN AI Y) := hD
          refine lv_aload_n hx hb dX3_fits_171 rfl (lv_at hl 2 rfl) ?_
          refine b_get (own := RX3) (C := RX3) (T := TX3) (N := 23) (ci := 3) (v := .ref (ad 11)) hx hb hts usX3 hown hK hP 0 (by decide) rfl rfl 18 (by decide) (hts _ gw_522) rfl dX3_fits_172 ?_
          refine lv_iload hx hb dX3_fits_175 (lv_at hl 0 rfl) ?_
          refine b_lald hx hb hK hP 11 1 (by decide) rfl rfl (by omega) (by decide) dX3_fits_177 ?_
          refine lv_lmul hx hb dX3_fits_178 ?_
          refine lv_lsub hx hb dX3_fits_179 ?_
          refine b_last hx hb hK hP hD hS 6 1 (by decide) rfl rfl (by omega) (by decide) dX3_fits_180 sM_L6 (fun H locs hP hD hS => ?_)
          refine b_iinc (lv' := [(9, .int (nI (u9 + 1))), (8, .int (nI r9)), (0, .ref (ad 0)), (1, .long x), (3, .long y), (5, .long z)]) hx hb dX3_fits_181 hl (k := 0) rfl (by decide) rfl (fun ls hl => ?_)
          refine lv_goto (tgt := 146) hx hb dX3_fits_184 (by decide) ?_
          exact ih (u9 + 1) _ H locs ls (by omega) hP hD hS (lv_sub hl [0, 1, 2, 3, 4, 5] rfl) kx
      refine lp146 _ (I 1) 0 (up2 X 6 r9 (Int32.toInt64 (AI ((4 * (AN 3 r9)) + 3)))) _ _ ls (by omega) hP hD hS (lv_sub hl [0, 1, 2, 3, 4, 5] rfl) (fun H locs ls hP hD hS hl => ?_)
      refine b_iinc (lv' := [(8, .int (nI (r9 + 1))), (9, .int (nI (I 1))), (0, .ref (ad 0)), (1, .long x), (3, .long y), (5, .long z)]) hx hb dX3_fits_187 hl (k := 1) rfl (by decide) rfl (fun ls hl => ?_)
      refine lv_goto (tgt := 110) hx hb dX3_fits_190 (by decide) ?_
      exact ih (r9 + 1) _ H locs ls (by omega) hP hD hS (lv_sub hl [0, 2, 3, 4, 5] rfl) kx
  refine lp110 _ (I 3) 0 X2 _ _ ls (by omega) hP hD hS (lv_sub hl [0, 1, 2, 3, 4] rfl) (fun H locs ls hP hD hS hl => ?_)
  subst hX2
  have hP : va_P D vc (wM cs ad I G AN AI (ftQ (I 1) (I 3) AN AI x y z AL)) H := hP
  have hD : va_D A (wM cs ad I G AN AI (ftQ (I 1) (I 3) AN AI x y z AL)) := hD
  unfold ftR
  generalize hX3 : ftQ (I 1) (I 3) AN AI x y z AL = X3 at hP hD hal ⊢
  refine lv_aload_n hx hb dX3_fits_193 rfl (lv_at hl 1 rfl) ?_
  refine lv_aload_n hx hb dX3_fits_194 rfl (lv_at hl 1 rfl) ?_
  refine b_get (own := RX3) (C := RX3) (T := TX3) (N := 23) (ci := 3) (v := .int (nI (I 3))) hx hb hts usX3 hown hK hP 0 (by decide) rfl rfl 4 (by decide) (hts _ gw_508) rfl dX3_fits_195 ?_
  refine g_callv (va_runV (As := [.int (nI (I 3))]) (rest := []) ⟨hx, hb, hml, hown, hts⟩ (ctX3_solveSquare l D cs ad I G AN AI X3 _ (I 3) h3) (cwV 1 hts (gi_V gw_640 gw_642 gw_35 gw_57 gw_643) rfl rfl rfl (by decide +kernel) ⟨Nat.le_of_ble_eq_true rfl, Nat.le_of_ble_eq_true rfl⟩) ⟨g_blind, va_recv hK hP (ci := 3) (q0 := 0) rfl (wm_at (by decide) rfl), g_pre hP hK hD hN⟩ rfl rfl hl.1 rfl (lv_room (Nat.le_of_ble_eq_true rfl)) dX3_fits_198 ⟨Nat.zero_le _, Nat.zero_le _⟩) hD hS hA (fun u H locs hw hP hD hS => ?_)
  obtain rfl := hw
  have hP : va_P D vc (wM cs ad I (up1 G 0 (det (I 3) (X3 5))) AN AI (ssq (I 3) X3)) H := hP
  have hD : va_D A (wM cs ad I (up1 G 0 (det (I 3) (X3 5))) AN AI (ssq (I 3) X3)) := hD
  generalize hale : det (I 3) (X3 5) = al at hP hD hal ⊢
  refine lv_iconst (v := nI 0) hx hb dX3_fits_201 (by decide) ?_
  refine lv_istore (lv' := [(7, .int (nI 0)), (8, .int (nI (I 3))), (0, .ref (ad 0)), (1, .long x), (3, .long y), (5, .long z)]) hx hb dX3_fits_202 hl (by decide) rfl (fun ls hl => ?_)
  refine lv_iconst (v := nI 0) hx hb dX3_fits_204 (by decide) ?_
  refine lv_istore (lv' := [(8, .int (nI 0)), (7, .int (nI 0)), (0, .ref (ad 0)), (1, .long x), (3, .long y), (5, .long z)]) hx hb dX3_fits_205 hl (by decide) rfl (fun ls hl => ?_)
  have lp207 : ∀ (n u k : Nat) (X : Nat → Nat → Int64) (H : Heap) (locs : List Loc) (ls : Array Slot), u + n = I 1 → k ≤ u → va_P D vc (wM cs ad I (up1 G 0 al) AN AI X) H → va_D A (wM cs ad I (up1 G 0 al) AN AI X) → va_S A s.heap H locs → lv_has ls 10 [(8, .int (nI u)), (7, .int (nI k)), (0, .ref (ad 0))] → W p l e rmX3_fits s m args below meth c H locs 0 0 (MQ below (va_Qi (fun (r : Int32) (v : MS) => v = (I, up1 G 0 al, AN, AI, (ft5 al n u k X).2) ∧ r = bz (ft5 al n u k X).1) (gB D cs A (wMs cs ad)) A) args s 0 0 A) (F0 m 207 ls []) := by
    intro n
    induction n with
    | zero =>
      intro u k X H locs ls hn hk hP hD hS hl
      refine lv_iload hx hb dX3_fits_207 (lv_at hl 0 rfl) ?_
      refine lv_aload_n hx hb dX3_fits_209 rfl (lv_at hl 2 rfl) ?_
      refine b_get (own := RX3) (C := RX3) (T := TX3) (N := 23) (ci := 3) (v := .int (nI (I 1))) hx hb hts usX3 hown hK hP 0 (by decide) rfl rfl 1 (by decide) (hts _ gw_505) rfl dX3_fits_210 ?_
      refine b_ge_t (tgt := 278) hx hb dX3_fits_213 (by decide) (by omega) (by omega) ?_
      refine lv_iconst (v := nI 1) hx hb dX3_fits_278 (by decide) ?_
      exact g_zret hx hb hr hlocks rfl (I, up1 G 0 al, AN, AI, X) (⟨rfl, rfl⟩) hK hP hD hS dX3_fits_279
    | succ n ih =>
      intro u k X H locs ls hn hk hP hD hS hl
      refine lv_iload hx hb dX3_fits_207 (lv_at hl 0 rfl) ?_
      refine lv_aload_n hx hb dX3_fits_209 rfl (lv_at hl 2 rfl) ?_
      refine b_get (own := RX3) (C := RX3) (T := TX3) (N := 23) (ci := 3) (v := .int (nI (I 1))) hx hb hts usX3 hown hK hP 0 (by decide) rfl rfl 1 (by decide) (hts _ gw_505) rfl dX3_fits_210 ?_
      refine b_ge_f (tgt := 278) hx hb dX3_fits_213 (by decide) (by omega) (by omega) ?_
      refine lv_aload_n hx hb dX3_fits_216 rfl (lv_at hl 2 rfl) ?_
      refine b_get (own := RX3) (C := RX3) (T := TX3) (N := 23) (ci := 3) (v := .ref (ad 12)) hx hb hts usX3 hown hK hP 0 (by decide) rfl rfl 19 (by decide) (hts _ gw_523) rfl dX3_fits_217 ?_
      refine lv_iload hx hb dX3_fits_220 (lv_at hl 0 rfl) ?_
      refine b_lald hx hb hK hP 12 1 (by decide) rfl rfl (by omega) (by decide) dX3_fits_222 ?_
      refine lv_lconst (v := 0) hx hb dX3_fits_223 (by decide) ?_
      refine b_lcle (tgt := 231) hx hb dX3_fits_224 dX3_fits_225 (by decide) (fun h => ?_) (fun h => ?_)
      · refine lv_aload_n hx hb dX3_fits_231 rfl (lv_at hl 2 rfl) ?_
        refine b_get (own := RX3) (C := RX3) (T := TX3) (N := 23) (ci := 3) (v := .ref (ad 7)) hx hb hts usX3 hown hK hP 0 (by decide) rfl rfl 10 (by decide) (hts _ gw_514) rfl dX3_fits_232 ?_
        refine lv_iload hx hb dX3_fits_235 (lv_at hl 1 rfl) ?_
        refine b_lald hx hb hK hP 7 1 (by decide) rfl rfl (by omega) (by decide) dX3_fits_237 ?_
        refine lv_aload_n hx hb dX3_fits_238 rfl (lv_at hl 2 rfl) ?_
        refine b_get (own := RX3) (C := RX3) (T := TX3) (N := 23) (ci := 3) (v := .long al) hx hb hts usX3 hown hK hP 0 (by decide) rfl rfl 11 (by decide) (hts _ gw_515) rfl dX3_fits_239 ?_
        refine lv_lrem hx hb dX3_fits_242 (hal) ?_
        refine lv_lconst (v := 0) hx hb dX3_fits_243 (by decide) ?_
        refine b_lceq (tgt := 250) hx hb dX3_fits_244 dX3_fits_245 (by decide) (fun h9 => ?_) (fun h9 => ?_)
        · refine lv_aload_n hx hb dX3_fits_250 rfl (lv_at hl 2 rfl) ?_
          refine b_get (own := RX3) (C := RX3) (T := TX3) (N := 23) (ci := 3) (v := .ref (ad 11)) hx hb hts usX3 hown hK hP 0 (by decide) rfl rfl 18 (by decide) (hts _ gw_522) rfl dX3_fits_251 ?_
          refine lv_iload hx hb dX3_fits_254 (lv_at hl 0 rfl) ?_
          refine lv_aload_n hx hb dX3_fits_256 rfl (lv_at hl 2 rfl) ?_
          refine b_get (own := RX3) (C := RX3) (T := TX3) (N := 23) (ci := 3) (v := .ref (ad 7)) hx hb hts usX3 hown hK hP 0 (by decide) rfl rfl 10 (by decide) (hts _ gw_514) rfl dX3_fits_257 ?_
          refine lv_iload hx hb dX3_fits_260 (lv_at hl 1 rfl) ?_
          refine b_lald hx hb hK hP 7 1 (by decide) rfl rfl (by omega) (by decide) dX3_fits_262 ?_
          refine lv_aload_n hx hb dX3_fits_263 rfl (lv_at hl 2 rfl) ?_
          refine b_get (own := RX3) (C := RX3) (T := TX3) (N := 23) (ci := 3) (v := .long al) hx hb hts usX3 hown hK hP 0 (by decide) rfl rfl 11 (by decide) (hts _ gw_515) rfl dX3_fits_264 ?_
          refine lv_ldiv hx hb dX3_fits_267 (hal) ?_
          refine b_last hx hb hK hP hD hS 11 1 (by decide) rfl rfl (by omega) (by decide) dX3_fits_268 sM_L11 (fun H locs hP hD hS => ?_)
          refine b_iinc (lv' := [(7, .int (nI (k + 1))), (8, .int (nI u)), (0, .ref (ad 0))]) hx hb dX3_fits_269 hl (k := 1) rfl (by decide) rfl (fun ls hl => ?_)
          refine b_iinc (lv' := [(8, .int (nI (u + 1))), (7, .int (nI (k + 1))), (0, .ref (ad 0))]) hx hb dX3_fits_272 hl (k := 1) rfl (by decide) rfl (fun ls hl => ?_)
          refine lv_goto (tgt := 207) hx hb dX3_fits_275 (by decide) ?_
          rw [show ft5 al (n + 1) u k X = ft5 al n (u + 1) (k + 1) (up2 X 11 u (X 7 k / al)) from (if_neg h).trans (if_pos h9)]
          exact ih (u + 1) (k + 1) _ H locs ls (by omega) (by omega) hP hD hS (lv_sub hl [0, 1, 2] rfl)
        · refine lv_iconst (v := nI 0) hx hb dX3_fits_248 (by decide) ?_
          rw [show ft5 al (n + 1) u k X = (false, X) from (if_neg h).trans (if_neg h9)]
          exact g_zret hx hb hr hlocks rfl (I, up1 G 0 al, AN, AI, X) (⟨rfl, rfl⟩) hK hP hD hS dX3_fits_249
      · refine lv_goto (tgt := 272) hx hb dX3_fits_228 (by decide) ?_
        refine b_iinc (lv' := [(8, .int (nI (u + 1))), (7, .int (nI k)), (0, .ref (ad 0))]) hx hb dX3_fits_272 hl (k := 0) rfl (by decide) rfl (fun ls hl => ?_)
        refine lv_goto (tgt := 207) hx hb dX3_fits_275 (by decide) ?_
        rw [show ft5 al (n + 1) u k X = ft5 al n (u + 1) k X from if_pos h]
        exact ih (u + 1) k X H locs ls (by omega) (by omega) hP hD hS (lv_sub hl [0, 1, 2] rfl)
  exact lp207 (I 1) 0 0 _ _ _ ls (by omega) (by omega) hP hD hS (lv_sub hl [0, 1, 2] rfl)
