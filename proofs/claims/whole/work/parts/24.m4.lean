def cmf (rk : Nat) (AN : Nat → Nat → Nat) (AI : Nat → Int32) (AL : Nat → Nat → Int64) : Nat → Nat → Int64 := fo (fun r X => up2 X 6 r (Int32.toInt64 (AI (4 * AN 3 r + 3)))) rk 0 AL
def sme (rk : Nat) (AN : Nat → Nat → Nat) (AI : Nat → Int32) (AL : Nat → Nat → Int64) (g : Nat) : Int64 := fo (fun c z => z + Int32.toInt64 (AI (4 * g + AN 2 c)) * AL 7 c) rk 0 0
def plSq (n m : Nat) (AI : Nat → Int32) (AN : Nat → Nat → Nat) (AL : Nat → Nat → Int64) : Nat → Nat → Int64 := sqf (lkF n m AI AN AL).1 (lkF n m AI AN AL).2.1 AI (cmf (lkF n m AI AN AL).1 (lkF n m AI AN AL).2.1 AI (lkF n m AI AN AL).2.2)
def plAL (n m : Nat) (AI : Nat → Int32) (AN : Nat → Nat → Nat) (AL : Nat → Nat → Int64) : Nat → Nat → Int64 := ssq (lkF n m AI AN AL).1 (plSq n m AI AN AL)
def plall (n m : Nat) (AI : Nat → Int32) (AN : Nat → Nat → Nat) (AL : Nat → Nat → Int64) : Int64 := det (lkF n m AI AN AL).1 (plSq n m AI AN AL 5)
def plok (n m : Nat) (AI : Nat → Int32) (AN : Nat → Nat → Nat) (AL : Nat → Nat → Int64) : Bool := (fnd (fun g => ¬ sme (lkF n m AI AN AL).1 (lkF n m AI AN AL).2.1 AI (plAL n m AI AN AL) g = Int32.toInt64 (AI (4 * g + 3)) * plall n m AI AN AL) m 0).isNone
def fra (AN : Nat → Nat → Nat) (k : Int32) : Nat → Nat → Nat → Option Nat
  | 0, _, _ => none
  | n + 1, j, p => if AN 4 j = 0 then fra AN k n (j + 1) p else if nI p = k then some j else fra AN k n (j + 1) (p + 1)
theorem fra_lt {AN : Nat → Nat → Nat} {k : Int32} : ∀ {n j p f : Nat}, fra AN k n j p = some f → f < j + n
  | 0, _, _, _, h => by cases h
  | n + 1, j, p, f, h => by
    unfold fra at h
    by_cases h1 : AN 4 j = 0
    · rw [if_pos h1] at h
      have := fra_lt h
      omega
    · rw [if_neg h1] at h
      by_cases h2 : nI p = k
      · rw [if_pos h2] at h
        cases h
        omega
      · rw [if_neg h2] at h
        have := fra_lt h
        omega
def unM (I : Nat → Nat) (u : Int32) : Bool := inL (Int32.toInt64 u) 0 (Int32.toInt64 (nI (I 1) - nI 1))
theorem unM_spec {I : Nat → Nat} {u : Int32} (h1 : I 1 ≤ 3) (h : unM I u = true) : ∃ u' : Nat, u = nI u' ∧ u' < I 1 := by
  obtain ⟨u', b1, b2, b3⟩ := inL_nat h
  rw [Int32.toInt_toInt64, i32_m1 (by omega)] at b3
  exact ⟨u', b2, by omega⟩
def takG (rk : Nat) (AN : Nat → Nat → Nat) (AL : Nat → Nat → Int64) (u : Nat) (G : Nat → Int64) : Nat → Int64 := fo (fun c X => if AN 2 c = u then lowG X (AL 7 c) (G 0) else X) rk 0 (lowG G 0 1)
def paM (q : Int32) : Bool := inL (Int32.toInt64 q) 0 1
theorem okLow01 : okLow 0 1 := by
  refine ⟨?_, by decide⟩
  show (aw64 1 = 0) ∨ _
  right
  show (_ = (0 : Int64)) ∨ _
  left
  decide
theorem okLow11 : okLow 1 1 := by
  refine ⟨?_, by decide⟩
  show (aw64 1 = 0) ∨ _
  right
  show (_ = (0 : Int64)) ∨ _
  left
  decide
theorem enc_m1 {o : Option Nat} (h : ∀ k, o = some k → k < 2 ^ 31) : enc o = -1 ↔ o = none := by
  cases o with
  | none => exact ⟨fun _ => rfl, fun _ => rfl⟩
  | some k =>
    refine ⟨fun z => ?_, fun z => by cases z⟩
    have hk := h k rfl
    have h1 : nI k = -1 := z
    have h2 := congrArg Int32.toInt h1
    rw [nI_toInt hk] at h2
    have h3 : (-1 : Int32).toInt = -1 := by decide
    omega

abbrev rmX3_rank : Room := { frames := 3, cells := 0, slots := 0, locals := 68 }
set_option maxHeartbeats 4000000 in
set_option maxRecDepth 100000 in
theorem ctX3_rank (l : Launch) (D : va_G) (cs : Nat → ClassId) (ad : Nat → Nat) (I : Nat → Nat) (G : Nat → Int64) (AN : Nat → Nat → Nat) (AI : Nat → Int32) (AL : Nat → Nat → Int64) (sz : Nat)  (h1 : I 1 ≤ 3) (h2 : I 2 ≤ 3) (hok : okA AN) : Met l yX3_rank (Cond.code yX3_rank cX3_rank 1 (some FieldType.int) :: GW) rmX3_rank (va_Pc [.ref (ad 0)] (gP D cs (wM cs ad I G AN AI AL) sz)) (va_Qi (fun (r : Int32) (u : MS) => u = (up1 (up1 I 0 0) 3 (lkF (I 1) (I 2) AI AN AL).1, G, (lkF (I 1) (I 2) AI AN AL).2.1, AI, (lkF (I 1) (I 2) AI AN AL).2.2) ∧ r = nI (lkF (I 1) (I 2) AI AN AL).1) (gB D cs (va_A (wM cs ad I G AN AI AL) sz) (wMs cs ad)) (va_A (wM cs ad I G AN AI AL) sz)) 0 0 (va_A (wM cs ad I G AN AI AL) sz) := by
  refine Met.ofW (cc := cX3_rank) (maxL := 1) (ret := (some FieldType.int)) (by decide) rfl ?_
  intro p e s m args below meth c s₁ B hml hv
  obtain ⟨rfl, hsz, hP, hK, hD0, hN⟩ := hv
  have hx := B.exec
  have hb := B.bytes
  have hr := B.returns
  have hts : ∀ w ∈ GW, w.before _ s = true := fun w h => atoms_spec (ws := Cond.code yX3_rank cX3_rank 1 (some FieldType.int) :: GW) B.pre w (List.mem_cons_of_mem _ h)
  have hown : s.vm.findClass RX3 = some m.cls := findClass_of_methodNamed B.named
  have hlocks := B.notSynchronized
  subst hsz
  have hD := hD0.self (sz := s.heap.size)
  generalize hAe : va_A (wM cs ad I G AN AI AL) s.heap.size = A at hD ⊢
  have hA : ∀ q : Nat, s.heap.size ≤ q → A q := fun q h => by rw [← hAe]; exact Or.inr h
  have hS : va_S A s.heap s.heap [] := va_S.rf
  have hl := lv_entry [.ref (ad 0)] (n := 1) (Nat.le_of_ble_eq_true rfl)
  rw [lg_entry_eq]
  generalize (lg_sl [.ref (ad 0)] ++ List.replicate (1 - (lg_sl [.ref (ad 0)]).length) Slot.unset).toArray = ls at hl ⊢
  have hl : lv_has ls 1 [(0, .ref (ad 0))] := hl
  generalize hargs : ([.ref (ad 0)] : List Value).toArray = args at *
  show W p l e rmX3_rank s m args below meth c s.heap [] 0 0 _ (F0 m 0 ls [])
  refine lv_aload_n hx hb dX3_rank_0 rfl (lv_at hl 0 rfl) ?_
  refine lv_iconst (v := nI 0) hx hb dX3_rank_1 (by decide) ?_
  refine b_put (own := RX3) (C := RX3) (T := TX3) (N := 23) (ci := 3) (v := .int (nI 0)) hx hb hts usX3 tyX3 tyX3_ok nmX3 hown hK hP hD hS 0 (by decide) rfl rfl 0 (by decide) (hts _ gw_504) rfl rfl rfl (Nat.le_of_ble_eq_true rfl) dX3_rank_2 sM_I0 (fun H locs hP hD hS => ?_)
  refine lv_aload_n hx hb dX3_rank_5 rfl (lv_at hl 0 rfl) ?_
  refine g_callv (va_runV (As := []) (rest := []) ⟨hx, hb, hml, hown, hts⟩ (ctX3_look l D cs ad (up1 I 0 0) G AN AI AL _ h1 h2 hok) (cwV 0 hts (gi_V gw_616 gw_618 gw_30 gw_57 gw_619) rfl rfl rfl (by decide +kernel) ⟨Nat.le_of_ble_eq_true rfl, Nat.le_of_ble_eq_true rfl⟩) ⟨g_blind, va_recv hK hP (ci := 3) (q0 := 0) rfl (wm_at (by decide) rfl), g_pre hP hK hD hN⟩ rfl rfl hl.1 rfl (lv_room (Nat.le_of_ble_eq_true rfl)) dX3_rank_6 ⟨Nat.zero_le _, Nat.zero_le _⟩) hD hS hA (fun u H locs hw hP hD hS => ?_)
  obtain rfl := hw
  have hP : va_P D vc (wM cs ad (up1 (up1 I 0 0) 3 (lkF (I 1) (I 2) AI AN AL).1) G ((lkF (I 1) (I 2) AI AN AL).2.1) AI ((lkF (I 1) (I 2) AI AN AL).2.2)) H := hP
  have hD : va_D A (wM cs ad (up1 (up1 I 0 0) 3 (lkF (I 1) (I 2) AI AN AL).1) G ((lkF (I 1) (I 2) AI AN AL).2.1) AI ((lkF (I 1) (I 2) AI AN AL).2.2)) := hD
  have hL := lk_ok (AI := AI) (AL := AL) h1 h2 hok
  have hL1 : (lkF (I 1) (I 2) AI AN AL).1 ≤ 3 := Nat.le_trans hL.2.1 h1
  have hL2 := hL.2.1
  have hL3 : okA (lkF (I 1) (I 2) AI AN AL).2.1 := hL.2.2
  refine lv_aload_n hx hb dX3_rank_9 rfl (lv_at hl 0 rfl) ?_
  refine b_get (own := RX3) (C := RX3) (T := TX3) (N := 23) (ci := 3) (v := .int (nI ((lkF (I 1) (I 2) AI AN AL).1))) hx hb hts usX3 hown hK hP 0 (by decide) rfl rfl 4 (by decide) (hts _ gw_508) rfl dX3_rank_10 ?_
  exact g_iret hx hb hr hlocks (up1 (up1 I 0 0) 3 (lkF (I 1) (I 2) AI AN AL).1, G, (lkF (I 1) (I 2) AI AN AL).2.1, AI, (lkF (I 1) (I 2) AI AN AL).2.2) (⟨rfl, rfl⟩) hK hP hD hS dX3_rank_13

abbrev rmX3_findPlain : Room := { frames := 3, cells := 0, slots := 0, locals := 68 }
set_option maxHeartbeats 4000000 in
set_option maxRecDepth 100000 in
theorem ctX3_findPlain (l : Launch) (D : va_G) (cs : Nat → ClassId) (ad : Nat → Nat) (I : Nat → Nat) (G : Nat → Int64) (AN : Nat → Nat → Nat) (AI : Nat → Int32) (AL : Nat → Nat → Int64) (sz : Nat)  (h1 : I 1 ≤ 3) (h2 : I 2 ≤ 3) (hok : okA AN) : Met l yX3_findPlain (Cond.code yX3_findPlain cX3_findPlain 5 (some FieldType.boolean) :: GW) rmX3_findPlain (va_Pc [.ref (ad 0)] (gP D cs (wM cs ad I G AN AI AL) sz)) (va_Qi (fun (r : Int32) (u : MS) => u = (up1 I 3 (lkF (I 1) (I 2) AI AN AL).1, up1 G 0 (plall (I 1) (I 2) AI AN AL), (lkF (I 1) (I 2) AI AN AL).2.1, AI, plAL (I 1) (I 2) AI AN AL) ∧ r = bz (plok (I 1) (I 2) AI AN AL)) (gB D cs (va_A (wM cs ad I G AN AI AL) sz) (wMs cs ad)) (va_A (wM cs ad I G AN AI AL) sz)) 0 0 (va_A (wM cs ad I G AN AI AL) sz) := by
  refine Met.ofW (cc := cX3_findPlain) (maxL := 5) (ret := (some FieldType.boolean)) (by decide) rfl ?_
  intro p e s m args below meth c s₁ B hml hv
  obtain ⟨rfl, hsz, hP, hK, hD0, hN⟩ := hv
  have hx := B.exec
  have hb := B.bytes
  have hr := B.returns
  have hts : ∀ w ∈ GW, w.before _ s = true := fun w h => atoms_spec (ws := Cond.code yX3_findPlain cX3_findPlain 5 (some FieldType.boolean) :: GW) B.pre w (List.mem_cons_of_mem _ h)
  have hown : s.vm.findClass RX3 = some m.cls := findClass_of_methodNamed B.named
  have hlocks := B.notSynchronized
  subst hsz
  have hD := hD0.self (sz := s.heap.size)
  generalize hAe : va_A (wM cs ad I G AN AI AL) s.heap.size = A at hD ⊢
  have hA : ∀ q : Nat, s.heap.size ≤ q → A q := fun q h => by rw [← hAe]; exact Or.inr h
  have hS : va_S A s.heap s.heap [] := va_S.rf
  have hl := lv_entry [.ref (ad 0)] (n := 5) (Nat.le_of_ble_eq_true rfl)
  rw [lg_entry_eq]
  generalize (lg_sl [.ref (ad 0)] ++ List.replicate (5 - (lg_sl [.ref (ad 0)]).length) Slot.unset).toArray = ls at hl ⊢
  have hl : lv_has ls 5 [(0, .ref (ad 0))] := hl
  generalize hargs : ([.ref (ad 0)] : List Value).toArray = args at *
  show W p l e rmX3_findPlain s m args below meth c s.heap [] 0 0 _ (F0 m 0 ls [])
  refine lv_aload_n hx hb dX3_findPlain_0 rfl (lv_at hl 0 rfl) ?_
  refine g_callv (va_runV (As := []) (rest := []) ⟨hx, hb, hml, hown, hts⟩ (ctX3_look l D cs ad I G AN AI AL _ h1 h2 hok) (cwV 0 hts (gi_V gw_616 gw_618 gw_30 gw_57 gw_619) rfl rfl rfl (by decide +kernel) ⟨Nat.le_of_ble_eq_true rfl, Nat.le_of_ble_eq_true rfl⟩) ⟨g_blind, va_recv hK hP (ci := 3) (q0 := 0) rfl (wm_at (by decide) rfl), g_pre hP hK hD hN⟩ rfl rfl hl.1 rfl (lv_room (Nat.le_of_ble_eq_true rfl)) dX3_findPlain_1 ⟨Nat.zero_le _, Nat.zero_le _⟩) hD hS hA (fun u H locs hw hP hD hS => ?_)
  obtain rfl := hw
  have hP : va_P D vc (wM cs ad (up1 I 3 (lkF (I 1) (I 2) AI AN AL).1) G ((lkF (I 1) (I 2) AI AN AL).2.1) AI ((lkF (I 1) (I 2) AI AN AL).2.2)) H := hP
  have hD : va_D A (wM cs ad (up1 I 3 (lkF (I 1) (I 2) AI AN AL).1) G ((lkF (I 1) (I 2) AI AN AL).2.1) AI ((lkF (I 1) (I 2) AI AN AL).2.2)) := hD
  have hL := lk_ok (AI := AI) (AL := AL) h1 h2 hok
  have hL1 : (lkF (I 1) (I 2) AI AN AL).1 ≤ 3 := Nat.le_trans hL.2.1 h1
  have hL2 := hL.2.1
  have hL3 : okA (lkF (I 1) (I 2) AI AN AL).2.1 := hL.2.2
  refine lv_iconst (v := nI 0) hx hb dX3_findPlain_4 (by decide) ?_
  refine lv_istore_n (lv' := [(1, .int (nI 0)), (0, .ref (ad 0))]) hx hb dX3_findPlain_5 rfl hl (by decide) rfl (fun ls hl => ?_)
  obtain ⟨rk, AN1, AL1, hLe⟩ : ∃ rk AN1 AL1, (lkF (I 1) (I 2) AI AN AL) = (rk, AN1, AL1) := ⟨_, _, _, rfl⟩
  rw [hLe] at hP hD hL1 hL3
  have hP : va_P D vc (wM cs ad (up1 I 3 rk) G AN1 AI AL1) H := hP
  have hD : va_D A (wM cs ad (up1 I 3 rk) G AN1 AI AL1) := hD
  have hL1 : rk ≤ 3 := hL1
  have hL3 : okA AN1 := hL3
  have lp6 : ∀ (Q : State → Prop) (n r9 : Nat) (X : Nat → Nat → Int64) (H : Heap) (locs : List Loc) (ls : Array Slot), r9 + n = rk → va_P D vc (wM cs ad (up1 I 3 rk) G AN1 AI X) H → va_D A (wM cs ad (up1 I 3 rk) G AN1 AI X) → va_S A s.heap H locs → lv_has ls 5 [(1, .int (nI r9)), (0, .ref (ad 0))] → (∀ (H : Heap) (locs : List Loc) (ls : Array Slot), va_P D vc (wM cs ad (up1 I 3 rk) G AN1 AI (fo (fun r X => up2 X 6 r (Int32.toInt64 (AI (4 * AN1 3 r + 3)))) n r9 X)) H → va_D A (wM cs ad (up1 I 3 rk) G AN1 AI (fo (fun r X => up2 X 6 r (Int32.toInt64 (AI (4 * AN1 3 r + 3)))) n r9 X)) → va_S A s.heap H locs → lv_has ls 5 [(1, .int (nI rk)), (0, .ref (ad 0))] → W p l e rmX3_findPlain s m args below meth c H locs 0 0 Q (F0 m 42 ls [])) → W p l e rmX3_findPlain s m args below meth c H locs 0 0 Q (F0 m 6 ls []) := by
    intro Q n
    induction n with
    | zero =>
      intro r9 X H locs ls hn hP hD hS hl kx
      have hi : r9 = rk := by omega
      refine lv_iload_n hx hb dX3_findPlain_6 rfl (lv_at hl 0 rfl) ?_
      refine lv_aload_n hx hb dX3_findPlain_7 rfl (lv_at hl 1 rfl) ?_
      refine b_get (own := RX3) (C := RX3) (T := TX3) (N := 23) (ci := 3) (v := .int (nI rk)) hx hb hts usX3 hown hK hP 0 (by decide) rfl rfl 4 (by decide) (hts _ gw_508) rfl dX3_findPlain_8 ?_
      refine b_ge_t (tgt := 42) hx hb dX3_findPlain_11 (by decide) (by omega) (by omega) ?_
      rw [hi] at hl
      exact kx H locs ls hP hD hS (lv_sub hl [0, 1] rfl)
    | succ n ih =>
      intro r9 X H locs ls hn hP hD hS hl kx
      have hi : r9 < rk := by omega
      refine lv_iload_n hx hb dX3_findPlain_6 rfl (lv_at hl 0 rfl) ?_
      refine lv_aload_n hx hb dX3_findPlain_7 rfl (lv_at hl 1 rfl) ?_
      refine b_get (own := RX3) (C := RX3) (T := TX3) (N := 23) (ci := 3) (v := .int (nI rk)) hx hb hts usX3 hown hK hP 0 (by decide) rfl rfl 4 (by decide) (hts _ gw_508) rfl dX3_findPlain_8 ?_
      refine b_ge_f (tgt := 42) hx hb dX3_findPlain_11 (by decide) (by omega) (by omega) ?_
      have hl3 := hL3.2.1 r9 (by omega)
      refine lv_aload_n hx hb dX3_findPlain_14 rfl (lv_at hl 1 rfl) ?_
      refine b_get (own := RX3) (C := RX3) (T := TX3) (N := 23) (ci := 3) (v := .ref (ad 6)) hx hb hts usX3 hown hK hP 0 (by decide) rfl rfl 9 (by decide) (hts _ gw_513) rfl dX3_findPlain_15 ?_
      refine lv_iload_n hx hb dX3_findPlain_18 rfl (lv_at hl 0 rfl) ?_
      refine lv_aload_n hx hb dX3_findPlain_19 rfl (lv_at hl 1 rfl) ?_
      refine b_get (own := RX3) (C := RX3) (T := TX3) (N := 23) (ci := 3) (v := .ref (ad 1)) hx hb hts usX3 hown hK hP 0 (by decide) rfl rfl 3 (by decide) (hts _ gw_507) rfl dX3_findPlain_20 ?_
      refine lv_iconst (v := nI 4) hx hb dX3_findPlain_23 (by decide) ?_
      refine lv_aload_n hx hb dX3_findPlain_24 rfl (lv_at hl 1 rfl) ?_
      refine b_get (own := RX3) (C := RX3) (T := TX3) (N := 23) (ci := 3) (v := .ref (ad 3)) hx hb hts usX3 hown hK hP 0 (by decide) rfl rfl 6 (by decide) (hts _ gw_510) rfl dX3_findPlain_25 ?_
      refine lv_iload_n hx hb dX3_findPlain_28 rfl (lv_at hl 0 rfl) ?_
      refine b_iald hx hb hK hP 3 0 (by decide) rfl rfl (by omega) (by decide) dX3_findPlain_29 ?_
      refine b_muln hx hb dX3_findPlain_30 ?_
      refine lv_iconst (v := nI 3) hx hb dX3_findPlain_31 (by decide) ?_
      refine b_addn hx hb dX3_findPlain_32 ?_
      refine b_iald hx hb hK hP 1 0 (by decide) rfl rfl (by omega) (by decide) dX3_findPlain_33 ?_
      refine lv_i2l (v := Int32.toInt64 (AI ((4 * (AN1 3 r9)) + 3))) hx hb dX3_findPlain_34 rfl ?_
      refine b_last hx hb hK hP hD hS 6 1 (by decide) rfl rfl (by omega) (by decide) dX3_findPlain_35 sM_L6 (fun H locs hP hD hS => ?_)
      refine b_iinc (lv' := [(1, .int (nI (r9 + 1))), (0, .ref (ad 0))]) hx hb dX3_findPlain_36 hl (k := 0) rfl (by decide) rfl (fun ls hl => ?_)
      refine lv_goto (tgt := 6) hx hb dX3_findPlain_39 (by decide) ?_
      exact ih (r9 + 1) _ H locs ls (by omega) hP hD hS (lv_sub hl [0, 1] rfl) kx
  refine lp6 _ (rk) 0 AL1 _ _ ls (by omega) hP hD hS (lv_sub hl [0, 1] rfl) (fun H locs ls hP hD hS hl => ?_)
  have hP : va_P D vc (wM cs ad (up1 I 3 rk) G AN1 AI (cmf rk AN1 AI AL1)) H := hP
  have hD : va_D A (wM cs ad (up1 I 3 rk) G AN1 AI (cmf rk AN1 AI AL1)) := hD
  refine lv_aload_n hx hb dX3_findPlain_42 rfl (lv_at hl 1 rfl) ?_
  refine g_callv (va_runV (As := []) (rest := []) ⟨hx, hb, hml, hown, hts⟩ (ctX3_solve l D cs ad (up1 I 3 rk) G AN1 AI (cmf rk AN1 AI AL1) _ hL1 hL3) (cwV 0 hts (gi_V gw_636 gw_638 gw_34 gw_57 gw_639) rfl rfl rfl (by decide +kernel) ⟨Nat.le_of_ble_eq_true rfl, Nat.le_of_ble_eq_true rfl⟩) ⟨g_blind, va_recv hK hP (ci := 3) (q0 := 0) rfl (wm_at (by decide) rfl), g_pre hP hK hD hN⟩ rfl rfl hl.1 rfl (lv_room (Nat.le_of_ble_eq_true rfl)) dX3_findPlain_43 ⟨Nat.zero_le _, Nat.zero_le _⟩) hD hS hA (fun u H locs hw hP hD hS => ?_)
  obtain rfl := hw
  have hP : va_P D vc (wM cs ad (up1 I 3 rk) (up1 G 0 (det rk (sqf rk AN1 AI (cmf rk AN1 AI AL1) 5))) AN1 AI (ssq rk (sqf rk AN1 AI (cmf rk AN1 AI AL1)))) H := hP
  have hD : va_D A (wM cs ad (up1 I 3 rk) (up1 G 0 (det rk (sqf rk AN1 AI (cmf rk AN1 AI AL1) 5))) AN1 AI (ssq rk (sqf rk AN1 AI (cmf rk AN1 AI AL1)))) := hD
  obtain ⟨al, hal⟩ : ∃ al, al = det rk (sqf rk AN1 AI (cmf rk AN1 AI AL1) 5) := ⟨_, rfl⟩
  obtain ⟨AL2, hAL2⟩ : ∃ AL2, AL2 = ssq rk (sqf rk AN1 AI (cmf rk AN1 AI AL1)) := ⟨_, rfl⟩
  rw [← hal, ← hAL2] at hP hD
  have ep : plAL (I 1) (I 2) AI AN AL = AL2 := by unfold plAL plSq; rw [hLe, hAL2]
  have ea : plall (I 1) (I 2) AI AN AL = al := by unfold plall plSq; rw [hLe, hal]
  have eo : plok (I 1) (I 2) AI AN AL = (fnd (fun g => ¬ sme rk AN1 AI AL2 g = Int32.toInt64 (AI (4 * g + 3)) * al) (I 2) 0).isNone := by unfold plok; rw [ep, ea, hLe]
  rw [eo, ep, ea, hLe]
  refine lv_iconst (v := nI 0) hx hb dX3_findPlain_46 (by decide) ?_
  refine lv_istore_n (lv' := [(1, .int (nI 0)), (0, .ref (ad 0))]) hx hb dX3_findPlain_47 rfl hl (by decide) rfl (fun ls hl => ?_)
  have lp48 : ∀ (n g : Nat) (H : Heap) (locs : List Loc) (ls : Array Slot), g + n = I 2 → va_P D vc (wM cs ad (up1 I 3 rk) (up1 G 0 al) AN1 AI AL2) H → va_D A (wM cs ad (up1 I 3 rk) (up1 G 0 al) AN1 AI AL2) → va_S A s.heap H locs → lv_has ls 5 [(1, .int (nI g)), (0, .ref (ad 0))] → W p l e rmX3_findPlain s m args below meth c H locs 0 0 (MQ below (va_Qi (fun (r : Int32) (u : MS) => u = (up1 I 3 rk, up1 G 0 al, AN1, AI, AL2) ∧ r = bz (fnd (fun g => ¬ sme rk AN1 AI AL2 g = Int32.toInt64 (AI (4 * g + 3)) * al) n g).isNone) (gB D cs A (wMs cs ad)) A) args s 0 0 A) (F0 m 48 ls []) := by
    intro n
    induction n with
    | zero =>
      intro g H locs ls hn hP hD hS hl
      have hi : g = I 2 := by omega
      refine lv_iload_n hx hb dX3_findPlain_48 rfl (lv_at hl 0 rfl) ?_
      refine lv_aload_n hx hb dX3_findPlain_49 rfl (lv_at hl 1 rfl) ?_
      refine b_get (own := RX3) (C := RX3) (T := TX3) (N := 23) (ci := 3) (v := .int (nI (I 2))) hx hb hts usX3 hown hK hP 0 (by decide) rfl rfl 2 (by decide) (hts _ gw_506) rfl dX3_findPlain_50 ?_
      refine b_ge_t (tgt := 133) hx hb dX3_findPlain_53 (by decide) (by omega) (by omega) ?_
      refine lv_iconst (v := nI 1) hx hb dX3_findPlain_133 (by decide) ?_
      exact g_zret hx hb hr hlocks rfl (up1 I 3 rk, up1 G 0 al, AN1, AI, AL2) (⟨rfl, rfl⟩) hK hP hD hS dX3_findPlain_134
    | succ n ih =>
      intro g H locs ls hn hP hD hS hl
      have hi : g < I 2 := by omega
      refine lv_iload_n hx hb dX3_findPlain_48 rfl (lv_at hl 0 rfl) ?_
      refine lv_aload_n hx hb dX3_findPlain_49 rfl (lv_at hl 1 rfl) ?_
      refine b_get (own := RX3) (C := RX3) (T := TX3) (N := 23) (ci := 3) (v := .int (nI (I 2))) hx hb hts usX3 hown hK hP 0 (by decide) rfl rfl 2 (by decide) (hts _ gw_506) rfl dX3_findPlain_50 ?_
      refine b_ge_f (tgt := 133) hx hb dX3_findPlain_53 (by decide) (by omega) (by omega) ?_
      refine lv_lconst (v := 0) hx hb dX3_findPlain_56 (by decide) ?_
      refine lv_lstore_n (lv' := [(2, .long 0), (1, .int (nI g)), (0, .ref (ad 0))]) hx hb dX3_findPlain_57 rfl hl (by decide) rfl (fun ls hl => ?_)
      refine lv_iconst (v := nI 0) hx hb dX3_findPlain_58 (by decide) ?_
      refine lv_istore (lv' := [(4, .int (nI 0)), (2, .long 0), (1, .int (nI g)), (0, .ref (ad 0))]) hx hb dX3_findPlain_59 hl (by decide) rfl (fun ls hl => ?_)
      have lp61 : ∀ (Q : State → Prop) (n c9 : Nat) (z : Int64) (H : Heap) (locs : List Loc) (ls : Array Slot), c9 + n = rk → va_P D vc (wM cs ad (up1 I 3 rk) (up1 G 0 al) AN1 AI AL2) H → va_D A (wM cs ad (up1 I 3 rk) (up1 G 0 al) AN1 AI AL2) → va_S A s.heap H locs → lv_has ls 5 [(4, .int (nI c9)), (2, .long z), (1, .int (nI g)), (0, .ref (ad 0))] → (∀ (H : Heap) (locs : List Loc) (ls : Array Slot), va_P D vc (wM cs ad (up1 I 3 rk) (up1 G 0 al) AN1 AI AL2) H → va_D A (wM cs ad (up1 I 3 rk) (up1 G 0 al) AN1 AI AL2) → va_S A s.heap H locs → lv_has ls 5 [(4, .int (nI rk)), (2, .long (fo (fun c z => z + Int32.toInt64 (AI (4 * g + AN1 2 c)) * AL2 7 c) n c9 z)), (1, .int (nI g)), (0, .ref (ad 0))] → W p l e rmX3_findPlain s m args below meth c H locs 0 0 Q (F0 m 104 ls [])) → W p l e rmX3_findPlain s m args below meth c H locs 0 0 Q (F0 m 61 ls []) := by
        intro Q n
        induction n with
        | zero =>
          intro c9 z H locs ls hn hP hD hS hl kx
          have hi : c9 = rk := by omega
          refine lv_iload hx hb dX3_findPlain_61 (lv_at hl 0 rfl) ?_
          refine lv_aload_n hx hb dX3_findPlain_63 rfl (lv_at hl 3 rfl) ?_
          refine b_get (own := RX3) (C := RX3) (T := TX3) (N := 23) (ci := 3) (v := .int (nI rk)) hx hb hts usX3 hown hK hP 0 (by decide) rfl rfl 4 (by decide) (hts _ gw_508) rfl dX3_findPlain_64 ?_
          refine b_ge_t (tgt := 104) hx hb dX3_findPlain_67 (by decide) (by omega) (by omega) ?_
          rw [hi] at hl
          exact kx H locs ls hP hD hS (lv_sub hl [0, 1, 2, 3] rfl)
        | succ n ih =>
          intro c9 z H locs ls hn hP hD hS hl kx
          have hi : c9 < rk := by omega
          refine lv_iload hx hb dX3_findPlain_61 (lv_at hl 0 rfl) ?_
          refine lv_aload_n hx hb dX3_findPlain_63 rfl (lv_at hl 3 rfl) ?_
          refine b_get (own := RX3) (C := RX3) (T := TX3) (N := 23) (ci := 3) (v := .int (nI rk)) hx hb hts usX3 hown hK hP 0 (by decide) rfl rfl 4 (by decide) (hts _ gw_508) rfl dX3_findPlain_64 ?_
          refine b_ge_f (tgt := 104) hx hb dX3_findPlain_67 (by decide) (by omega) (by omega) ?_
          have hc3 := hL3.1 c9 (by omega)
          refine lv_lload_n hx hb dX3_findPlain_70 rfl (lv_at hl 1 rfl) ?_
          refine lv_aload_n hx hb dX3_findPlain_71 rfl (lv_at hl 3 rfl) ?_
          refine b_get (own := RX3) (C := RX3) (T := TX3) (N := 23) (ci := 3) (v := .ref (ad 1)) hx hb hts usX3 hown hK hP 0 (by decide) rfl rfl 3 (by decide) (hts _ gw_507) rfl dX3_findPlain_72 ?_
          refine lv_iconst (v := nI 4) hx hb dX3_findPlain_75 (by decide) ?_
          refine lv_iload_n hx hb dX3_findPlain_76 rfl (lv_at hl 2 rfl) ?_
          refine b_muln hx hb dX3_findPlain_77 ?_
          refine lv_aload_n hx hb dX3_findPlain_78 rfl (lv_at hl 3 rfl) ?_
          refine b_get (own := RX3) (C := RX3) (T := TX3) (N := 23) (ci := 3) (v := .ref (ad 2)) hx hb hts usX3 hown hK hP 0 (by decide) rfl rfl 5 (by decide) (hts _ gw_509) rfl dX3_findPlain_79 ?_
          refine lv_iload hx hb dX3_findPlain_82 (lv_at hl 0 rfl) ?_
          refine b_iald hx hb hK hP 2 0 (by decide) rfl rfl (by omega) (by decide) dX3_findPlain_84 ?_
          refine b_addn hx hb dX3_findPlain_85 ?_
          refine b_iald hx hb hK hP 1 0 (by decide) rfl rfl (by omega) (by decide) dX3_findPlain_86 ?_
          refine lv_i2l (v := Int32.toInt64 (AI ((4 * g) + (AN1 2 c9)))) hx hb dX3_findPlain_87 rfl ?_
          refine lv_aload_n hx hb dX3_findPlain_88 rfl (lv_at hl 3 rfl) ?_
          refine b_get (own := RX3) (C := RX3) (T := TX3) (N := 23) (ci := 3) (v := .ref (ad 7)) hx hb hts usX3 hown hK hP 0 (by decide) rfl rfl 10 (by decide) (hts _ gw_514) rfl dX3_findPlain_89 ?_
          refine lv_iload hx hb dX3_findPlain_92 (lv_at hl 0 rfl) ?_
          refine b_lald hx hb hK hP 7 1 (by decide) rfl rfl (by omega) (by decide) dX3_findPlain_94 ?_
          refine lv_lmul hx hb dX3_findPlain_95 ?_
          refine lv_ladd hx hb dX3_findPlain_96 ?_
          refine lv_lstore_n (lv' := [(2, .long (z + ((Int32.toInt64 (AI ((4 * g) + (AN1 2 c9)))) * (AL2 7 c9)))), (4, .int (nI c9)), (1, .int (nI g)), (0, .ref (ad 0))]) hx hb dX3_findPlain_97 rfl hl (by decide) rfl (fun ls hl => ?_)
          refine b_iinc (lv' := [(4, .int (nI (c9 + 1))), (2, .long (z + ((Int32.toInt64 (AI ((4 * g) + (AN1 2 c9)))) * (AL2 7 c9)))), (1, .int (nI g)), (0, .ref (ad 0))]) hx hb dX3_findPlain_98 hl (k := 1) rfl (by decide) rfl (fun ls hl => ?_)
          refine lv_goto (tgt := 61) hx hb dX3_findPlain_101 (by decide) ?_
          exact ih (c9 + 1) _ H locs ls (by omega) hP hD hS (lv_sub hl [0, 1, 2, 3] rfl) kx
      refine lp61 _ (rk) 0 0 _ _ ls (by omega) hP hD hS (lv_sub hl [0, 1, 2, 3] rfl) (fun H locs ls hP hD hS hl => ?_)
      refine lv_lload_n hx hb dX3_findPlain_104 rfl (lv_at hl 1 rfl) ?_
      refine lv_aload_n hx hb dX3_findPlain_105 rfl (lv_at hl 3 rfl) ?_
      refine b_get (own := RX3) (C := RX3) (T := TX3) (N := 23) (ci := 3) (v := .ref (ad 1)) hx hb hts usX3 hown hK hP 0 (by decide) rfl rfl 3 (by decide) (hts _ gw_507) rfl dX3_findPlain_106 ?_
      refine lv_iconst (v := nI 4) hx hb dX3_findPlain_109 (by decide) ?_
      refine lv_iload_n hx hb dX3_findPlain_110 rfl (lv_at hl 2 rfl) ?_
      refine b_muln hx hb dX3_findPlain_111 ?_
      refine lv_iconst (v := nI 3) hx hb dX3_findPlain_112 (by decide) ?_
      refine b_addn hx hb dX3_findPlain_113 ?_
      refine b_iald hx hb hK hP 1 0 (by decide) rfl rfl (by omega) (by decide) dX3_findPlain_114 ?_
      refine lv_i2l (v := Int32.toInt64 (AI ((4 * g) + 3))) hx hb dX3_findPlain_115 rfl ?_
      refine lv_aload_n hx hb dX3_findPlain_116 rfl (lv_at hl 3 rfl) ?_
      refine b_get (own := RX3) (C := RX3) (T := TX3) (N := 23) (ci := 3) (v := .long al) hx hb hts usX3 hown hK hP 0 (by decide) rfl rfl 11 (by decide) (hts _ gw_515) rfl dX3_findPlain_117 ?_
      refine lv_lmul hx hb dX3_findPlain_120 ?_
      refine b_lceq (tgt := 127) hx hb dX3_findPlain_121 dX3_findPlain_122 (by decide) (fun h => ?_) (fun h => ?_)
      · refine b_iinc (lv' := [(1, .int (nI (g + 1))), (4, .int (nI rk)), (2, .long (fo (fun c z => z + Int32.toInt64 (AI (4 * g + AN1 2 c)) * AL2 7 c) (rk) 0 0)), (0, .ref (ad 0))]) hx hb dX3_findPlain_127 hl (k := 2) rfl (by decide) rfl (fun ls hl => ?_)
        refine lv_goto (tgt := 48) hx hb dX3_findPlain_130 (by decide) ?_
        rw [fnd_f (f := fun g => ¬ sme rk AN1 AI AL2 g = Int32.toInt64 (AI (4 * g + 3)) * al) (fun q => q h)]
        exact ih (g + 1) H locs ls (by omega) hP hD hS (lv_sub hl [0, 3] rfl)
      · refine lv_iconst (v := nI 0) hx hb dX3_findPlain_125 (by decide) ?_
        exact g_zret hx hb hr hlocks rfl (up1 I 3 rk, up1 G 0 al, AN1, AI, AL2) (⟨rfl, by rw [fnd_t (f := fun g => ¬ sme rk AN1 AI AL2 g = Int32.toInt64 (AI (4 * g + 3)) * al) h]; rfl⟩) hK hP hD hS dX3_findPlain_126
  exact lp48 ((I 2) - 0) 0 _ _ ls (by omega) hP hD hS (lv_sub hl [0, 1] rfl)

abbrev rmX3_solutions : Room := { frames := 4, cells := 0, slots := 0, locals := 92 }
set_option maxHeartbeats 4000000 in
set_option maxRecDepth 100000 in
theorem ctX3_solutions (l : Launch) (D : va_G) (cs : Nat → ClassId) (ad : Nat → Nat) (I : Nat → Nat) (G : Nat → Int64) (AN : Nat → Nat → Nat) (AI : Nat → Int32) (AL : Nat → Nat → Int64) (sz : Nat)  (h1 : I 1 ≤ 3) (h2 : I 2 ≤ 3) (hok : okA AN) : Met l yX3_solutions (Cond.code yX3_solutions cX3_solutions 1 (some FieldType.int) :: GW) rmX3_solutions (va_Pc [.ref (ad 0)] (gP D cs (wM cs ad I G AN AI AL) sz)) (va_Qi (fun (r : Int32) (u : MS) => u = (up1 (up1 I 0 0) 3 (lkF (I 1) (I 2) AI AN AL).1, up1 G 0 (plall (I 1) (I 2) AI AN AL), (lkF (I 1) (I 2) AI AN AL).2.1, AI, plAL (I 1) (I 2) AI AN AL) ∧ r = if plok (I 1) (I 2) AI AN AL then nI (I 1 - (lkF (I 1) (I 2) AI AN AL).1) else -1) (gB D cs (va_A (wM cs ad I G AN AI AL) sz) (wMs cs ad)) (va_A (wM cs ad I G AN AI AL) sz)) 0 0 (va_A (wM cs ad I G AN AI AL) sz) := by
  refine Met.ofW (cc := cX3_solutions) (maxL := 1) (ret := (some FieldType.int)) (by decide) rfl ?_
  intro p e s m args below meth c s₁ B hml hv
  obtain ⟨rfl, hsz, hP, hK, hD0, hN⟩ := hv
  have hx := B.exec
  have hb := B.bytes
  have hr := B.returns
  have hts : ∀ w ∈ GW, w.before _ s = true := fun w h => atoms_spec (ws := Cond.code yX3_solutions cX3_solutions 1 (some FieldType.int) :: GW) B.pre w (List.mem_cons_of_mem _ h)
  have hown : s.vm.findClass RX3 = some m.cls := findClass_of_methodNamed B.named
  have hlocks := B.notSynchronized
  subst hsz
  have hD := hD0.self (sz := s.heap.size)
  generalize hAe : va_A (wM cs ad I G AN AI AL) s.heap.size = A at hD ⊢
  have hA : ∀ q : Nat, s.heap.size ≤ q → A q := fun q h => by rw [← hAe]; exact Or.inr h
  have hS : va_S A s.heap s.heap [] := va_S.rf
  have hl := lv_entry [.ref (ad 0)] (n := 1) (Nat.le_of_ble_eq_true rfl)
  rw [lg_entry_eq]
  generalize (lg_sl [.ref (ad 0)] ++ List.replicate (1 - (lg_sl [.ref (ad 0)]).length) Slot.unset).toArray = ls at hl ⊢
  have hl : lv_has ls 1 [(0, .ref (ad 0))] := hl
  generalize hargs : ([.ref (ad 0)] : List Value).toArray = args at *
  show W p l e rmX3_solutions s m args below meth c s.heap [] 0 0 _ (F0 m 0 ls [])
  refine lv_aload_n hx hb dX3_solutions_0 rfl (lv_at hl 0 rfl) ?_
  refine lv_iconst (v := nI 0) hx hb dX3_solutions_1 (by decide) ?_
  refine b_put (own := RX3) (C := RX3) (T := TX3) (N := 23) (ci := 3) (v := .int (nI 0)) hx hb hts usX3 tyX3 tyX3_ok nmX3 hown hK hP hD hS 0 (by decide) rfl rfl 0 (by decide) (hts _ gw_504) rfl rfl rfl (Nat.le_of_ble_eq_true rfl) dX3_solutions_2 sM_I0 (fun H locs hP hD hS => ?_)
  refine lv_aload_n hx hb dX3_solutions_5 rfl (lv_at hl 0 rfl) ?_
  refine g_calli (va_runV (As := []) (rest := []) ⟨hx, hb, hml, hown, hts⟩ (ctX3_findPlain l D cs ad (up1 I 0 0) G AN AI AL _ h1 h2 hok) (cwV 0 hts (gi_V gw_632 gw_634 gw_33 gw_57 gw_635) rfl rfl rfl (by decide +kernel) ⟨Nat.le_of_ble_eq_true rfl, Nat.le_of_ble_eq_true rfl⟩) ⟨g_blind, va_recv hK hP (ci := 3) (q0 := 0) rfl (wm_at (by decide) rfl), g_pre hP hK hD hN⟩ rfl rfl hl.1 rfl (lv_room (Nat.le_of_ble_eq_true rfl)) dX3_solutions_6 ⟨Nat.zero_le _, Nat.zero_le _⟩) hD hS hA (fun r u H locs hw hP hD hS => ?_)
  obtain ⟨rfl, hw2⟩ := hw
  have hP : va_P D vc (wM cs ad (up1 (up1 I 0 0) 3 (lkF (I 1) (I 2) AI AN AL).1) (up1 G 0 (plall (I 1) (I 2) AI AN AL)) ((lkF (I 1) (I 2) AI AN AL).2.1) AI (plAL (I 1) (I 2) AI AN AL)) H := hP
  have hD : va_D A (wM cs ad (up1 (up1 I 0 0) 3 (lkF (I 1) (I 2) AI AN AL).1) (up1 G 0 (plall (I 1) (I 2) AI AN AL)) ((lkF (I 1) (I 2) AI AN AL).2.1) AI (plAL (I 1) (I 2) AI AN AL)) := hD
  have hw2 : r = bz (plok (I 1) (I 2) AI AN AL) := hw2
  subst hw2
  have hL := lk_ok (AI := AI) (AL := AL) h1 h2 hok
  have hL1 : (lkF (I 1) (I 2) AI AN AL).1 ≤ 3 := Nat.le_trans hL.2.1 h1
  have hL2 := hL.2.1
  have hL3 : okA (lkF (I 1) (I 2) AI AN AL).2.1 := hL.2.2
  refine lv_if_eq (tgt := 24) hx hb dX3_solutions_9 (by decide) (fun h => ?_) (fun h => ?_)
  · refine lv_iconst (v := -1) hx hb dX3_solutions_24 (by decide) ?_
    exact g_iret hx hb hr hlocks (up1 (up1 I 0 0) 3 (lkF (I 1) (I 2) AI AN AL).1, up1 G 0 (plall (I 1) (I 2) AI AN AL), (lkF (I 1) (I 2) AI AN AL).2.1, AI, plAL (I 1) (I 2) AI AN AL) (⟨rfl, by rw [bz_1.mp h]; rfl⟩) hK hP hD hS dX3_solutions_25
  · refine lv_aload_n hx hb dX3_solutions_12 rfl (lv_at hl 0 rfl) ?_
    refine b_get (own := RX3) (C := RX3) (T := TX3) (N := 23) (ci := 3) (v := .int (nI (I 1))) hx hb hts usX3 hown hK hP 0 (by decide) rfl rfl 1 (by decide) (hts _ gw_505) rfl dX3_solutions_13 ?_
    refine lv_aload_n hx hb dX3_solutions_16 rfl (lv_at hl 0 rfl) ?_
    refine b_get (own := RX3) (C := RX3) (T := TX3) (N := 23) (ci := 3) (v := .int (nI ((lkF (I 1) (I 2) AI AN AL).1))) hx hb hts usX3 hown hK hP 0 (by decide) rfl rfl 4 (by decide) (hts _ gw_508) rfl dX3_solutions_17 ?_
    refine b_subn hx hb dX3_solutions_20 (by omega) ?_
    refine lv_goto (tgt := 25) hx hb dX3_solutions_21 (by decide) ?_
    exact g_iret hx hb hr hlocks (up1 (up1 I 0 0) 3 (lkF (I 1) (I 2) AI AN AL).1, up1 G 0 (plall (I 1) (I 2) AI AN AL), (lkF (I 1) (I 2) AI AN AL).2.1, AI, plAL (I 1) (I 2) AI AN AL) (⟨rfl, by rw [if_pos (bz_t h)]⟩) hK hP hD hS dX3_solutions_25

abbrev rmX3_freeAt : Room := { frames := 0, cells := 0, slots := 0, locals := 0 }
set_option maxHeartbeats 4000000 in
set_option maxRecDepth 100000 in
theorem ctX3_freeAt (l : Launch) (D : va_G) (cs : Nat → ClassId) (ad : Nat → Nat) (I : Nat → Nat) (G : Nat → Int64) (AN : Nat → Nat → Nat) (AI : Nat → Int32) (AL : Nat → Nat → Int64) (sz : Nat) (k : Int32) (h1 : I 1 ≤ 3) (hok : okA AN) : Met l yX3_freeAt (Cond.code yX3_freeAt cX3_freeAt 4 (some FieldType.int) :: GW) rmX3_freeAt (va_Pc [.ref (ad 0), .int k] (gP D cs (wM cs ad I G AN AI AL) sz)) (va_Qi (fun (r : Int32) (v9 : MS) => v9 = (I, G, AN, AI, AL) ∧ r = enc (fra AN k (I 1) 0 0)) (gB D cs (va_A (wM cs ad I G AN AI AL) sz) (wMs cs ad)) (va_A (wM cs ad I G AN AI AL) sz)) 0 0 (va_A (wM cs ad I G AN AI AL) sz) := by
  refine Met.ofW (cc := cX3_freeAt) (maxL := 4) (ret := (some FieldType.int)) (by decide) rfl ?_
  intro p e s m args below meth c s₁ B hml hv
  obtain ⟨rfl, hsz, hP, hK, hD0, hN⟩ := hv
  have hx := B.exec
  have hb := B.bytes
  have hr := B.returns
  have hts : ∀ w ∈ GW, w.before _ s = true := fun w h => atoms_spec (ws := Cond.code yX3_freeAt cX3_freeAt 4 (some FieldType.int) :: GW) B.pre w (List.mem_cons_of_mem _ h)
  have hown : s.vm.findClass RX3 = some m.cls := findClass_of_methodNamed B.named
  have hlocks := B.notSynchronized
  subst hsz
  have hD := hD0.self (sz := s.heap.size)
  generalize hAe : va_A (wM cs ad I G AN AI AL) s.heap.size = A at hD ⊢
  have hA : ∀ q : Nat, s.heap.size ≤ q → A q := fun q h => by rw [← hAe]; exact Or.inr h
  have hS : va_S A s.heap s.heap [] := va_S.rf
  have hl := lv_entry [.ref (ad 0), .int k] (n := 4) (Nat.le_of_ble_eq_true rfl)
  rw [lg_entry_eq]
  generalize (lg_sl [.ref (ad 0), .int k] ++ List.replicate (4 - (lg_sl [.ref (ad 0), .int k]).length) Slot.unset).toArray = ls at hl ⊢
  have hl : lv_has ls 4 [(0, .ref (ad 0)), (1, .int k)] := hl
  generalize hargs : ([.ref (ad 0), .int k] : List Value).toArray = args at *
  show W p l e rmX3_freeAt s m args below meth c s.heap [] 0 0 _ (F0 m 0 ls [])
  refine lv_iconst (v := nI 0) hx hb dX3_freeAt_0 (by decide) ?_
  refine lv_istore_n (lv' := [(2, .int (nI 0)), (0, .ref (ad 0)), (1, .int k)]) hx hb dX3_freeAt_1 rfl hl (by decide) rfl (fun ls hl => ?_)
  refine lv_iconst (v := nI 0) hx hb dX3_freeAt_2 (by decide) ?_
  refine lv_istore_n (lv' := [(3, .int (nI 0)), (2, .int (nI 0)), (0, .ref (ad 0)), (1, .int k)]) hx hb dX3_freeAt_3 rfl hl (by decide) rfl (fun ls hl => ?_)
  have lp4 : ∀ (n j : Nat) (z : Nat) (H : Heap) (locs : List Loc) (ls : Array Slot), j + n = I 1 → va_P D vc (wM cs ad I G AN AI AL) H → va_D A (wM cs ad I G AN AI AL) → va_S A s.heap H locs → lv_has ls 4 [(3, .int (nI j)), (2, .int (nI z)), (0, .ref (ad 0)), (1, .int k)] → W p l e rmX3_freeAt s m args below meth c H locs 0 0 (MQ below (va_Qi (fun (r : Int32) (v9 : MS) => v9 = (I, G, AN, AI, AL) ∧ r = enc (fra AN k n j z)) (gB D cs A (wMs cs ad)) A) args s 0 0 A) (F0 m 4 ls []) := by
    intro n
    induction n with
    | zero =>
      intro j z H locs ls hn hP hD hS hl
      have hi : j = I 1 := by omega
      refine lv_iload_n hx hb dX3_freeAt_4 rfl (lv_at hl 0 rfl) ?_
      refine lv_aload_n hx hb dX3_freeAt_5 rfl (lv_at hl 2 rfl) ?_
      refine b_get (own := RX3) (C := RX3) (T := TX3) (N := 23) (ci := 3) (v := .int (nI (I 1))) hx hb hts usX3 hown hK hP 0 (by decide) rfl rfl 1 (by decide) (hts _ gw_505) rfl dX3_freeAt_6 ?_
      refine b_ge_t (tgt := 40) hx hb dX3_freeAt_9 (by decide) (by omega) (by omega) ?_
      refine lv_iconst (v := -1) hx hb dX3_freeAt_40 (by decide) ?_
      exact g_iret hx hb hr hlocks (I, G, AN, AI, AL) (⟨rfl, rfl⟩) hK hP hD hS dX3_freeAt_41
    | succ n ih =>
      intro j z H locs ls hn hP hD hS hl
      have hi : j < I 1 := by omega
      have h42 := hok.2.2.1 j (by omega)
      refine lv_iload_n hx hb dX3_freeAt_4 rfl (lv_at hl 0 rfl) ?_
      refine lv_aload_n hx hb dX3_freeAt_5 rfl (lv_at hl 2 rfl) ?_
      refine b_get (own := RX3) (C := RX3) (T := TX3) (N := 23) (ci := 3) (v := .int (nI (I 1))) hx hb hts usX3 hown hK hP 0 (by decide) rfl rfl 1 (by decide) (hts _ gw_505) rfl dX3_freeAt_6 ?_
      refine b_ge_f (tgt := 40) hx hb dX3_freeAt_9 (by decide) (by omega) (by omega) ?_
      refine lv_aload_n hx hb dX3_freeAt_12 rfl (lv_at hl 2 rfl) ?_
      refine b_get (own := RX3) (C := RX3) (T := TX3) (N := 23) (ci := 3) (v := .ref (ad 4)) hx hb hts usX3 hown hK hP 0 (by decide) rfl rfl 7 (by decide) (hts _ gw_511) rfl dX3_freeAt_13 ?_
      refine lv_iload_n hx hb dX3_freeAt_16 rfl (lv_at hl 0 rfl) ?_
      refine b_zald hx hb hK hP 4 2 (by decide) rfl rfl (by omega) (by decide) dX3_freeAt_17 ?_
      by_cases h : AN 4 j = 0
      · refine lv_if_ne (tgt := 24) hx hb dX3_freeAt_18 (by decide) (fun q => absurd (by rw [h]; rfl) q) (fun _ => ?_)
        refine lv_goto (tgt := 34) hx hb dX3_freeAt_21 (by decide) ?_
        refine b_iinc (lv' := [(3, .int (nI (j + 1))), (2, .int (nI z)), (0, .ref (ad 0)), (1, .int k)]) hx hb dX3_freeAt_34 hl (k := 0) rfl (by decide) rfl (fun ls hl => ?_)
        refine lv_goto (tgt := 4) hx hb dX3_freeAt_37 (by decide) ?_
        rw [show fra AN k (n + 1) j z = fra AN k n (j + 1) z from if_pos h]
        exact ih (j + 1) z H locs ls (by omega) hP hD hS (lv_sub hl [0, 1, 2, 3] rfl)
      · refine lv_if_ne (tgt := 24) hx hb dX3_freeAt_18 (by decide) (fun _ => ?_) (fun q => absurd q (nI_ne0 (by omega) (by omega)))
        refine lv_iload_n hx hb dX3_freeAt_24 rfl (lv_at hl 1 rfl) ?_
        refine lv_iload_n hx hb dX3_freeAt_25 rfl (lv_at hl 3 rfl) ?_
        refine lv_icmp_ne (tgt := 31) hx hb dX3_freeAt_26 (by decide) (fun h9 => ?_) (fun h9 => ?_)
        · refine b_iinc (lv' := [(2, .int (nI (z + 1))), (3, .int (nI j)), (0, .ref (ad 0)), (1, .int k)]) hx hb dX3_freeAt_31 hl (k := 1) rfl (by decide) rfl (fun ls hl => ?_)
          refine b_iinc (lv' := [(3, .int (nI (j + 1))), (2, .int (nI (z + 1))), (0, .ref (ad 0)), (1, .int k)]) hx hb dX3_freeAt_34 hl (k := 1) rfl (by decide) rfl (fun ls hl => ?_)
          refine lv_goto (tgt := 4) hx hb dX3_freeAt_37 (by decide) ?_
          rw [show fra AN k (n + 1) j z = fra AN k n (j + 1) (z + 1) from (if_neg h).trans (if_neg h9)]
          exact ih (j + 1) (z + 1) H locs ls (by omega) hP hD hS (lv_sub hl [0, 1, 2, 3] rfl)
        · refine lv_iload_n hx hb dX3_freeAt_29 rfl (lv_at hl 0 rfl) ?_
          exact g_iret hx hb hr hlocks (I, G, AN, AI, AL) (⟨rfl, by rw [show fra AN k (n + 1) j z = some j from (if_neg h).trans (if_pos h9)]; rfl⟩) hK hP hD hS dX3_freeAt_30
  exact lp4 ((I 1) - 0) 0 0 _ _ ls (by omega) hP hD hS (lv_sub hl [0, 1, 2, 3] rfl)

abbrev rmX3_free : Room := { frames := 3, cells := 0, slots := 0, locals := 68 }
set_option maxHeartbeats 4000000 in
set_option maxRecDepth 100000 in
theorem ctX3_free (l : Launch) (D : va_G) (cs : Nat → ClassId) (ad : Nat → Nat) (I : Nat → Nat) (G : Nat → Int64) (AN : Nat → Nat → Nat) (AI : Nat → Int32) (AL : Nat → Nat → Int64) (sz : Nat) (k : Int32) (h1 : I 1 ≤ 3) (h2 : I 2 ≤ 3) (hok : okA AN) : Met l yX3_free (Cond.code yX3_free cX3_free 2 (some FieldType.int) :: GW) rmX3_free (va_Pc [.ref (ad 0), .int k] (gP D cs (wM cs ad I G AN AI AL) sz)) (va_Qi (fun (r : Int32) (u : MS) => u = (up1 (up1 I 0 0) 3 (lkF (I 1) (I 2) AI AN AL).1, G, (lkF (I 1) (I 2) AI AN AL).2.1, AI, (lkF (I 1) (I 2) AI AN AL).2.2) ∧ r = enc (fra (lkF (I 1) (I 2) AI AN AL).2.1 k (I 1) 0 0)) (gB D cs (va_A (wM cs ad I G AN AI AL) sz) (wMs cs ad)) (va_A (wM cs ad I G AN AI AL) sz)) 0 0 (va_A (wM cs ad I G AN AI AL) sz) := by
  refine Met.ofW (cc := cX3_free) (maxL := 2) (ret := (some FieldType.int)) (by decide) rfl ?_
  intro p e s m args below meth c s₁ B hml hv
  obtain ⟨rfl, hsz, hP, hK, hD0, hN⟩ := hv
  have hx := B.exec
  have hb := B.bytes
  have hr := B.returns
  have hts : ∀ w ∈ GW, w.before _ s = true := fun w h => atoms_spec (ws := Cond.code yX3_free cX3_free 2 (some FieldType.int) :: GW) B.pre w (List.mem_cons_of_mem _ h)
  have hown : s.vm.findClass RX3 = some m.cls := findClass_of_methodNamed B.named
  have hlocks := B.notSynchronized
  subst hsz
  have hD := hD0.self (sz := s.heap.size)
  generalize hAe : va_A (wM cs ad I G AN AI AL) s.heap.size = A at hD ⊢
  have hA : ∀ q : Nat, s.heap.size ≤ q → A q := fun q h => by rw [← hAe]; exact Or.inr h
  have hS : va_S A s.heap s.heap [] := va_S.rf
  have hl := lv_entry [.ref (ad 0), .int k] (n := 2) (Nat.le_of_ble_eq_true rfl)
  rw [lg_entry_eq]
  generalize (lg_sl [.ref (ad 0), .int k] ++ List.replicate (2 - (lg_sl [.ref (ad 0), .int k]).length) Slot.unset).toArray = ls at hl ⊢
  have hl : lv_has ls 2 [(0, .ref (ad 0)), (1, .int k)] := hl
  generalize hargs : ([.ref (ad 0), .int k] : List Value).toArray = args at *
  show W p l e rmX3_free s m args below meth c s.heap [] 0 0 _ (F0 m 0 ls [])
  refine lv_aload_n hx hb dX3_free_0 rfl (lv_at hl 0 rfl) ?_
  refine lv_iconst (v := nI 0) hx hb dX3_free_1 (by decide) ?_
  refine b_put (own := RX3) (C := RX3) (T := TX3) (N := 23) (ci := 3) (v := .int (nI 0)) hx hb hts usX3 tyX3 tyX3_ok nmX3 hown hK hP hD hS 0 (by decide) rfl rfl 0 (by decide) (hts _ gw_504) rfl rfl rfl (Nat.le_of_ble_eq_true rfl) dX3_free_2 sM_I0 (fun H locs hP hD hS => ?_)
  refine lv_aload_n hx hb dX3_free_5 rfl (lv_at hl 0 rfl) ?_
  refine g_callv (va_runV (As := []) (rest := []) ⟨hx, hb, hml, hown, hts⟩ (ctX3_look l D cs ad (up1 I 0 0) G AN AI AL _ h1 h2 hok) (cwV 0 hts (gi_V gw_616 gw_618 gw_30 gw_57 gw_619) rfl rfl rfl (by decide +kernel) ⟨Nat.le_of_ble_eq_true rfl, Nat.le_of_ble_eq_true rfl⟩) ⟨g_blind, va_recv hK hP (ci := 3) (q0 := 0) rfl (wm_at (by decide) rfl), g_pre hP hK hD hN⟩ rfl rfl hl.1 rfl (lv_room (Nat.le_of_ble_eq_true rfl)) dX3_free_6 ⟨Nat.zero_le _, Nat.zero_le _⟩) hD hS hA (fun u H locs hw hP hD hS => ?_)
  obtain rfl := hw
  have hP : va_P D vc (wM cs ad (up1 (up1 I 0 0) 3 (lkF (I 1) (I 2) AI AN AL).1) G ((lkF (I 1) (I 2) AI AN AL).2.1) AI ((lkF (I 1) (I 2) AI AN AL).2.2)) H := hP
  have hD : va_D A (wM cs ad (up1 (up1 I 0 0) 3 (lkF (I 1) (I 2) AI AN AL).1) G ((lkF (I 1) (I 2) AI AN AL).2.1) AI ((lkF (I 1) (I 2) AI AN AL).2.2)) := hD
  have hL := lk_ok (AI := AI) (AL := AL) h1 h2 hok
  have hL1 : (lkF (I 1) (I 2) AI AN AL).1 ≤ 3 := Nat.le_trans hL.2.1 h1
  have hL2 := hL.2.1
  have hL3 : okA (lkF (I 1) (I 2) AI AN AL).2.1 := hL.2.2
  refine lv_aload_n hx hb dX3_free_9 rfl (lv_at hl 0 rfl) ?_
  refine lv_iload_n hx hb dX3_free_10 rfl (lv_at hl 1 rfl) ?_
  refine g_calli (va_runV (As := [.int k]) (rest := []) ⟨hx, hb, hml, hown, hts⟩ (ctX3_freeAt l D cs ad (up1 (up1 I 0 0) 3 (lkF (I 1) (I 2) AI AN AL).1) G ((lkF (I 1) (I 2) AI AN AL).2.1) AI ((lkF (I 1) (I 2) AI AN AL).2.2) _ k (show I 1 ≤ 3 from h1) hL3) (cwV 1 hts (gi_V gw_648 gw_650 gw_36 gw_57 gw_651) rfl rfl rfl (by decide +kernel) ⟨Nat.le_of_ble_eq_true rfl, Nat.le_of_ble_eq_true rfl⟩) ⟨g_blind, va_recv hK hP (ci := 3) (q0 := 0) rfl (wm_at (by decide) rfl), g_pre hP hK hD hN⟩ rfl rfl hl.1 rfl (lv_room (Nat.le_of_ble_eq_true rfl)) dX3_free_11 ⟨Nat.zero_le _, Nat.zero_le _⟩) hD hS hA (fun r u H locs hw hP hD hS => ?_)
  obtain ⟨rfl, hw2⟩ := hw
  have hP : va_P D vc (wM cs ad (up1 (up1 I 0 0) 3 (lkF (I 1) (I 2) AI AN AL).1) G ((lkF (I 1) (I 2) AI AN AL).2.1) AI ((lkF (I 1) (I 2) AI AN AL).2.2)) H := hP
  have hD : va_D A (wM cs ad (up1 (up1 I 0 0) 3 (lkF (I 1) (I 2) AI AN AL).1) G ((lkF (I 1) (I 2) AI AN AL).2.1) AI ((lkF (I 1) (I 2) AI AN AL).2.2)) := hD
  exact g_iret hx hb hr hlocks (up1 (up1 I 0 0) 3 (lkF (I 1) (I 2) AI AN AL).1, G, (lkF (I 1) (I 2) AI AN AL).2.1, AI, (lkF (I 1) (I 2) AI AN AL).2.2) (⟨rfl, hw2⟩) hK hP hD hS dX3_free_14

abbrev rmX3_takeAnswer : Room := { frames := 2, cells := 0, slots := 0, locals := 55 }
set_option maxHeartbeats 4000000 in
set_option maxRecDepth 100000 in
theorem ctX3_takeAnswer (l : Launch) (D : va_G) (cs : Nat → ClassId) (ad : Nat → Nat) (I : Nat → Nat) (G : Nat → Int64) (AN : Nat → Nat → Nat) (AI : Nat → Int32) (AL : Nat → Nat → Int64) (sz : Nat) (u : Nat) (h3 : I 3 ≤ 3) (hok : okA AN) (hu : u < 3) (hlo : ∀ c, c < I 3 → okLow (AL 7 c) (G 0)) : Met l yX3_takeAnswer (Cond.code yX3_takeAnswer cX3_takeAnswer 3 none :: GW) rmX3_takeAnswer (va_Pc [.ref (ad 0), .int (nI u)] (gP D cs (wM cs ad I G AN AI AL) sz)) (va_Qv (fun v : MS => v = (I, takG (I 3) AN AL u G, AN, AI, AL)) (gB D cs (va_A (wM cs ad I G AN AI AL) sz) (wMs cs ad)) (va_A (wM cs ad I G AN AI AL) sz)) 0 0 (va_A (wM cs ad I G AN AI AL) sz) := by
  refine Met.ofW (cc := cX3_takeAnswer) (maxL := 3) (ret := none) (by decide) rfl ?_
  intro p e s m args below meth c s₁ B hml hv
  obtain ⟨rfl, hsz, hP, hK, hD0, hN⟩ := hv
  have hx := B.exec
  have hb := B.bytes
  have hr := B.returns
  have hts : ∀ w ∈ GW, w.before _ s = true := fun w h => atoms_spec (ws := Cond.code yX3_takeAnswer cX3_takeAnswer 3 none :: GW) B.pre w (List.mem_cons_of_mem _ h)
  have hown : s.vm.findClass RX3 = some m.cls := findClass_of_methodNamed B.named
  have hlocks := B.notSynchronized
  subst hsz
  have hD := hD0.self (sz := s.heap.size)
  generalize hAe : va_A (wM cs ad I G AN AI AL) s.heap.size = A at hD ⊢
  have hA : ∀ q : Nat, s.heap.size ≤ q → A q := fun q h => by rw [← hAe]; exact Or.inr h
  have hS : va_S A s.heap s.heap [] := va_S.rf
  have hl := lv_entry [.ref (ad 0), .int (nI u)] (n := 3) (Nat.le_of_ble_eq_true rfl)
  rw [lg_entry_eq]
  generalize (lg_sl [.ref (ad 0), .int (nI u)] ++ List.replicate (3 - (lg_sl [.ref (ad 0), .int (nI u)]).length) Slot.unset).toArray = ls at hl ⊢
  have hl : lv_has ls 3 [(0, .ref (ad 0)), (1, .int (nI u))] := hl
  generalize hargs : ([.ref (ad 0), .int (nI u)] : List Value).toArray = args at *
  show W p l e rmX3_takeAnswer s m args below meth c s.heap [] 0 0 _ (F0 m 0 ls [])
  refine lv_aload_n hx hb dX3_takeAnswer_0 rfl (lv_at hl 0 rfl) ?_
  refine lv_lconst (v := 0) hx hb dX3_takeAnswer_1 (by decide) ?_
  refine lv_lconst (v := 1) hx hb dX3_takeAnswer_2 (by decide) ?_
  refine g_callv (va_runV (As := [.long 0, .long 1]) (rest := []) ⟨hx, hb, hml, hown, hts⟩ (ctX3_lowest l D cs ad I G AN AI AL _ 0 1 okLow01) (cwV 2 hts (gi_V gw_668 gw_670 gw_40 gw_57 gw_671) rfl rfl rfl (by decide +kernel) ⟨Nat.le_of_ble_eq_true rfl, Nat.le_of_ble_eq_true rfl⟩) ⟨g_blind, va_recv hK hP (ci := 3) (q0 := 0) rfl (wm_at (by decide) rfl), g_pre hP hK hD hN⟩ rfl rfl hl.1 rfl (lv_room (Nat.le_of_ble_eq_true rfl)) dX3_takeAnswer_3 ⟨Nat.zero_le _, Nat.zero_le _⟩) hD hS hA (fun u H locs hw hP hD hS => ?_)
  obtain rfl := hw
  have hP : va_P D vc (wM cs ad I (lowG G 0 1) AN AI AL) H := hP
  have hD : va_D A (wM cs ad I (lowG G 0 1) AN AI AL) := hD
  refine lv_iconst (v := nI 0) hx hb dX3_takeAnswer_6 (by decide) ?_
  refine lv_istore_n (lv' := [(2, .int (nI 0)), (0, .ref (ad 0)), (1, .int (nI u))]) hx hb dX3_takeAnswer_7 rfl hl (by decide) rfl (fun ls hl => ?_)
  have lp8 : ∀ (Q : State → Prop) (n c9 : Nat) (X : Nat → Int64) (H : Heap) (locs : List Loc) (ls : Array Slot), c9 + n = I 3 → X 0 = G 0 → va_P D vc (wM cs ad I X AN AI AL) H → va_D A (wM cs ad I X AN AI AL) → va_S A s.heap H locs → lv_has ls 3 [(2, .int (nI c9)), (0, .ref (ad 0)), (1, .int (nI u))] → (∀ (H : Heap) (locs : List Loc) (ls : Array Slot), va_P D vc (wM cs ad I (fo (fun c X => if AN 2 c = u then lowG X (AL 7 c) (G 0) else X) n c9 X) AN AI AL) H → va_D A (wM cs ad I (fo (fun c X => if AN 2 c = u then lowG X (AL 7 c) (G 0) else X) n c9 X) AN AI AL) → va_S A s.heap H locs → W p l e rmX3_takeAnswer s m args below meth c H locs 0 0 Q (F0 m 46 ls [])) → W p l e rmX3_takeAnswer s m args below meth c H locs 0 0 Q (F0 m 8 ls []) := by
    intro Q n
    induction n with
    | zero =>
      intro c9 X H locs ls hn hX hP hD hS hl kx
      refine lv_iload_n hx hb dX3_takeAnswer_8 rfl (lv_at hl 0 rfl) ?_
      refine lv_aload_n hx hb dX3_takeAnswer_9 rfl (lv_at hl 1 rfl) ?_
      refine b_get (own := RX3) (C := RX3) (T := TX3) (N := 23) (ci := 3) (v := .int (nI (I 3))) hx hb hts usX3 hown hK hP 0 (by decide) rfl rfl 4 (by decide) (hts _ gw_508) rfl dX3_takeAnswer_10 ?_
      refine b_ge_t (tgt := 46) hx hb dX3_takeAnswer_13 (by decide) (by omega) (by omega) ?_
      exact kx H locs ls hP hD hS
    | succ n ih =>
      intro c9 X H locs ls hn hX hP hD hS hl kx
      have hc3 := hok.1 c9 (by omega)
      refine lv_iload_n hx hb dX3_takeAnswer_8 rfl (lv_at hl 0 rfl) ?_
      refine lv_aload_n hx hb dX3_takeAnswer_9 rfl (lv_at hl 1 rfl) ?_
      refine b_get (own := RX3) (C := RX3) (T := TX3) (N := 23) (ci := 3) (v := .int (nI (I 3))) hx hb hts usX3 hown hK hP 0 (by decide) rfl rfl 4 (by decide) (hts _ gw_508) rfl dX3_takeAnswer_10 ?_
      refine b_ge_f (tgt := 46) hx hb dX3_takeAnswer_13 (by decide) (by omega) (by omega) ?_
      refine lv_aload_n hx hb dX3_takeAnswer_16 rfl (lv_at hl 1 rfl) ?_
      refine b_get (own := RX3) (C := RX3) (T := TX3) (N := 23) (ci := 3) (v := .ref (ad 2)) hx hb hts usX3 hown hK hP 0 (by decide) rfl rfl 5 (by decide) (hts _ gw_509) rfl dX3_takeAnswer_17 ?_
      refine lv_iload_n hx hb dX3_takeAnswer_20 rfl (lv_at hl 0 rfl) ?_
      refine b_iald hx hb hK hP 2 0 (by decide) rfl rfl (by omega) (by decide) dX3_takeAnswer_21 ?_
      refine lv_iload_n hx hb dX3_takeAnswer_22 rfl (lv_at hl 2 rfl) ?_
      by_cases h : AN 2 c9 = u
      · refine b_ne_f (tgt := 40) hx hb dX3_takeAnswer_23 (by decide) (h)  ?_
        refine lv_aload_n hx hb dX3_takeAnswer_26 rfl (lv_at hl 1 rfl) ?_
        refine lv_aload_n hx hb dX3_takeAnswer_27 rfl (lv_at hl 1 rfl) ?_
        refine b_get (own := RX3) (C := RX3) (T := TX3) (N := 23) (ci := 3) (v := .ref (ad 7)) hx hb hts usX3 hown hK hP 0 (by decide) rfl rfl 10 (by decide) (hts _ gw_514) rfl dX3_takeAnswer_28 ?_
        refine lv_iload_n hx hb dX3_takeAnswer_31 rfl (lv_at hl 0 rfl) ?_
        refine b_lald hx hb hK hP 7 1 (by decide) rfl rfl (by omega) (by decide) dX3_takeAnswer_32 ?_
        refine lv_aload_n hx hb dX3_takeAnswer_33 rfl (lv_at hl 1 rfl) ?_
        refine b_get (own := RX3) (C := RX3) (T := TX3) (N := 23) (ci := 3) (v := .long (X 0)) hx hb hts usX3 hown hK hP 0 (by decide) rfl rfl 11 (by decide) (hts _ gw_515) rfl dX3_takeAnswer_34 ?_
        rw [hX]
        refine g_callv (va_runV (As := [.long (AL 7 c9), .long (G 0)]) (rest := []) ⟨hx, hb, hml, hown, hts⟩ (ctX3_lowest l D cs ad I X AN AI AL _ (AL 7 c9) (G 0) (hlo c9 (by omega))) (cwV 2 hts (gi_V gw_668 gw_670 gw_40 gw_57 gw_671) rfl rfl rfl (by decide +kernel) ⟨Nat.le_of_ble_eq_true rfl, Nat.le_of_ble_eq_true rfl⟩) ⟨g_blind, va_recv hK hP (ci := 3) (q0 := 0) rfl (wm_at (by decide) rfl), g_pre hP hK hD hN⟩ rfl rfl hl.1 rfl (lv_room (Nat.le_of_ble_eq_true rfl)) dX3_takeAnswer_37 ⟨Nat.zero_le _, Nat.zero_le _⟩) hD hS hA (fun u H locs hw hP hD hS => ?_)
        obtain rfl := hw
        have hP : va_P D vc (wM cs ad I (lowG X (AL 7 c9) (G 0)) AN AI AL) H := hP
        have hD : va_D A (wM cs ad I (lowG X (AL 7 c9) (G 0)) AN AI AL) := hD
        refine b_iinc (lv' := [(2, .int (nI (c9 + 1))), (0, .ref (ad 0)), (1, .int (nI u))]) hx hb dX3_takeAnswer_40 hl (k := 0) rfl (by decide) rfl (fun ls hl => ?_)
        refine lv_goto (tgt := 8) hx hb dX3_takeAnswer_43 (by decide) ?_
        rw [fo_s, if_pos h] at kx
        exact ih (c9 + 1) (lowG X (AL 7 c9) (G 0)) H locs ls (by omega) (show X 0 = G 0 from hX) hP hD hS (lv_sub hl [0, 1, 2] rfl) kx
      · refine b_ne_t (tgt := 40) hx hb dX3_takeAnswer_23 (by decide) (h) (by omega) (by omega) ?_
        refine b_iinc (lv' := [(2, .int (nI (c9 + 1))), (0, .ref (ad 0)), (1, .int (nI u))]) hx hb dX3_takeAnswer_40 hl (k := 0) rfl (by decide) rfl (fun ls hl => ?_)
        refine lv_goto (tgt := 8) hx hb dX3_takeAnswer_43 (by decide) ?_
        rw [fo_s, if_neg h] at kx
        exact ih (c9 + 1) _ H locs ls (by omega) hX hP hD hS (lv_sub hl [0, 1, 2] rfl) kx
  refine lp8 _ (I 3) 0 (lowG G 0 1) _ _ ls (by omega) rfl hP hD hS (lv_sub hl [0, 1, 2] rfl) (fun H locs ls hP hD hS => ?_)
  exact g_vret hx hb hr hlocks (I, takG (I 3) AN AL u G, AN, AI, AL) rfl hK hP hD hS dX3_takeAnswer_46

abbrev rmX3_number : Room := { frames := 0, cells := 0, slots := 0, locals := 0 }
set_option maxHeartbeats 4000000 in
set_option maxRecDepth 100000 in
theorem ctX3_number (l : Launch) (D : va_G) (cs : Nat → ClassId) (ad : Nat → Nat) (I : Nat → Nat) (G : Nat → Int64) (AN : Nat → Nat → Nat) (AI : Nat → Int32) (AL : Nat → Nat → Int64) (sz : Nat) (r9 u : Nat) (hok : okA AN) (hr9 : r9 < 3) (hu : u < 4) : Met l yX3_number (Cond.code yX3_number cX3_number 3 (some FieldType.long) :: GW) rmX3_number (va_Pc [.ref (ad 0), .int (nI r9), .int (nI u)] (gP D cs (wM cs ad I G AN AI AL) sz)) (va_Ql (fun (r : Int64) (v : MS) => v = (I, G, AN, AI, AL) ∧ r = Int32.toInt64 (AI (4 * AN 3 r9 + u))) (gB D cs (va_A (wM cs ad I G AN AI AL) sz) (wMs cs ad)) (va_A (wM cs ad I G AN AI AL) sz)) 0 0 (va_A (wM cs ad I G AN AI AL) sz) := by
  refine Met.ofW (cc := cX3_number) (maxL := 3) (ret := (some FieldType.long)) (by decide) rfl ?_
  intro p e s m args below meth c s₁ B hml hv
  obtain ⟨rfl, hsz, hP, hK, hD0, hN⟩ := hv
  have hx := B.exec
  have hb := B.bytes
  have hr := B.returns
  have hts : ∀ w ∈ GW, w.before _ s = true := fun w h => atoms_spec (ws := Cond.code yX3_number cX3_number 3 (some FieldType.long) :: GW) B.pre w (List.mem_cons_of_mem _ h)
  have hown : s.vm.findClass RX3 = some m.cls := findClass_of_methodNamed B.named
  have hlocks := B.notSynchronized
  subst hsz
  have hD := hD0.self (sz := s.heap.size)
  generalize hAe : va_A (wM cs ad I G AN AI AL) s.heap.size = A at hD ⊢
  have hA : ∀ q : Nat, s.heap.size ≤ q → A q := fun q h => by rw [← hAe]; exact Or.inr h
  have hS : va_S A s.heap s.heap [] := va_S.rf
  have hl := lv_entry [.ref (ad 0), .int (nI r9), .int (nI u)] (n := 3) (Nat.le_of_ble_eq_true rfl)
  rw [lg_entry_eq]
  generalize (lg_sl [.ref (ad 0), .int (nI r9), .int (nI u)] ++ List.replicate (3 - (lg_sl [.ref (ad 0), .int (nI r9), .int (nI u)]).length) Slot.unset).toArray = ls at hl ⊢
  have hl : lv_has ls 3 [(0, .ref (ad 0)), (1, .int (nI r9)), (2, .int (nI u))] := hl
  generalize hargs : ([.ref (ad 0), .int (nI r9), .int (nI u)] : List Value).toArray = args at *
  show W p l e rmX3_number s m args below meth c s.heap [] 0 0 _ (F0 m 0 ls [])
  have hl3 := hok.2.1 r9 hr9
  refine lv_aload_n hx hb dX3_number_0 rfl (lv_at hl 0 rfl) ?_
  refine b_get (own := RX3) (C := RX3) (T := TX3) (N := 23) (ci := 3) (v := .ref (ad 1)) hx hb hts usX3 hown hK hP 0 (by decide) rfl rfl 3 (by decide) (hts _ gw_507) rfl dX3_number_1 ?_
  refine lv_iconst (v := nI 4) hx hb dX3_number_4 (by decide) ?_
  refine lv_aload_n hx hb dX3_number_5 rfl (lv_at hl 0 rfl) ?_
  refine b_get (own := RX3) (C := RX3) (T := TX3) (N := 23) (ci := 3) (v := .ref (ad 3)) hx hb hts usX3 hown hK hP 0 (by decide) rfl rfl 6 (by decide) (hts _ gw_510) rfl dX3_number_6 ?_
  refine lv_iload_n hx hb dX3_number_9 rfl (lv_at hl 1 rfl) ?_
  refine b_iald hx hb hK hP 3 0 (by decide) rfl rfl (by omega) (by decide) dX3_number_10 ?_
  refine b_muln hx hb dX3_number_11 ?_
  refine lv_iload_n hx hb dX3_number_12 rfl (lv_at hl 2 rfl) ?_
  refine b_addn hx hb dX3_number_13 ?_
  refine b_iald hx hb hK hP 1 0 (by decide) rfl rfl (by omega) (by decide) dX3_number_14 ?_
  refine lv_i2l (v := Int32.toInt64 (AI ((4 * (AN 3 r9)) + u))) hx hb dX3_number_15 rfl ?_
  exact g_lret hx hb hr hlocks (I, G, AN, AI, AL) (⟨rfl, rfl⟩) hK hP hD hS dX3_number_16

def prd (n : Nat) (AI : Nat → Int32) (a b : Nat) : Int64 := fo (fun u z => z + Int32.toInt64 (AI (4 * a + u)) * Int32.toInt64 (AI (4 * b + u))) n 0 0

abbrev rmX3_products : Room := { frames := 0, cells := 0, slots := 0, locals := 0 }
set_option maxHeartbeats 4000000 in
set_option maxRecDepth 100000 in
theorem ctX3_products (l : Launch) (D : va_G) (cs : Nat → ClassId) (ad : Nat → Nat) (I : Nat → Nat) (G : Nat → Int64) (AN : Nat → Nat → Nat) (AI : Nat → Int32) (AL : Nat → Nat → Int64) (sz : Nat) (a b : Nat) (h1 : I 1 ≤ 3) (ha : a < 3) (hb3 : b < 3) : Met l yX3_products (Cond.code yX3_products cX3_products 6 (some FieldType.long) :: GW) rmX3_products (va_Pc [.ref (ad 0), .int (nI a), .int (nI b)] (gP D cs (wM cs ad I G AN AI AL) sz)) (va_Ql (fun (r : Int64) (v : MS) => v = (I, G, AN, AI, AL) ∧ r = prd (I 1) AI a b) (gB D cs (va_A (wM cs ad I G AN AI AL) sz) (wMs cs ad)) (va_A (wM cs ad I G AN AI AL) sz)) 0 0 (va_A (wM cs ad I G AN AI AL) sz) := by
  refine Met.ofW (cc := cX3_products) (maxL := 6) (ret := (some FieldType.long)) (by decide) rfl ?_
  intro p e s m args below meth c s₁ B hml hv
  obtain ⟨rfl, hsz, hP, hK, hD0, hN⟩ := hv
  have hx := B.exec
  have hb := B.bytes
  have hr := B.returns
  have hts : ∀ w ∈ GW, w.before _ s = true := fun w h => atoms_spec (ws := Cond.code yX3_products cX3_products 6 (some FieldType.long) :: GW) B.pre w (List.mem_cons_of_mem _ h)
  have hown : s.vm.findClass RX3 = some m.cls := findClass_of_methodNamed B.named
  have hlocks := B.notSynchronized
  subst hsz
  have hD := hD0.self (sz := s.heap.size)
  generalize hAe : va_A (wM cs ad I G AN AI AL) s.heap.size = A at hD ⊢
  have hA : ∀ q : Nat, s.heap.size ≤ q → A q := fun q h => by rw [← hAe]; exact Or.inr h
  have hS : va_S A s.heap s.heap [] := va_S.rf
  have hl := lv_entry [.ref (ad 0), .int (nI a), .int (nI b)] (n := 6) (Nat.le_of_ble_eq_true rfl)
  rw [lg_entry_eq]
  generalize (lg_sl [.ref (ad 0), .int (nI a), .int (nI b)] ++ List.replicate (6 - (lg_sl [.ref (ad 0), .int (nI a), .int (nI b)]).length) Slot.unset).toArray = ls at hl ⊢
  have hl : lv_has ls 6 [(0, .ref (ad 0)), (1, .int (nI a)), (2, .int (nI b))] := hl
  generalize hargs : ([.ref (ad 0), .int (nI a), .int (nI b)] : List Value).toArray = args at *
  show W p l e rmX3_products s m args below meth c s.heap [] 0 0 _ (F0 m 0 ls [])
  refine lv_lconst (v := 0) hx hb dX3_products_0 (by decide) ?_
  refine lv_lstore_n (lv' := [(3, .long 0), (0, .ref (ad 0)), (1, .int (nI a)), (2, .int (nI b))]) hx hb dX3_products_1 rfl hl (by decide) rfl (fun ls hl => ?_)
  refine lv_iconst (v := nI 0) hx hb dX3_products_2 (by decide) ?_
  refine lv_istore (lv' := [(5, .int (nI 0)), (3, .long 0), (0, .ref (ad 0)), (1, .int (nI a)), (2, .int (nI b))]) hx hb dX3_products_3 hl (by decide) rfl (fun ls hl => ?_)
  have lp5 : ∀ (Q : State → Prop) (n u9 : Nat) (z : Int64) (H : Heap) (locs : List Loc) (ls : Array Slot), u9 + n = I 1 → va_P D vc (wM cs ad I G AN AI AL) H → va_D A (wM cs ad I G AN AI AL) → va_S A s.heap H locs → lv_has ls 6 [(5, .int (nI u9)), (3, .long z), (0, .ref (ad 0)), (1, .int (nI a)), (2, .int (nI b))] → (∀ (H : Heap) (locs : List Loc) (ls : Array Slot), va_P D vc (wM cs ad I G AN AI AL) H → va_D A (wM cs ad I G AN AI AL) → va_S A s.heap H locs → lv_has ls 6 [(5, .int (nI (I 1))), (3, .long (fo (fun u z => z + Int32.toInt64 (AI (4 * a + u)) * Int32.toInt64 (AI (4 * b + u))) n u9 z)), (0, .ref (ad 0)), (1, .int (nI a)), (2, .int (nI b))] → W p l e rmX3_products s m args below meth c H locs 0 0 Q (F0 m 48 ls [])) → W p l e rmX3_products s m args below meth c H locs 0 0 Q (F0 m 5 ls []) := by
    intro Q n
    induction n with
    | zero =>
      intro u9 z H locs ls hn hP hD hS hl kx
      have hi : u9 = I 1 := by omega
      refine lv_iload hx hb dX3_products_5 (lv_at hl 0 rfl) ?_
      refine lv_aload_n hx hb dX3_products_7 rfl (lv_at hl 2 rfl) ?_
      refine b_get (own := RX3) (C := RX3) (T := TX3) (N := 23) (ci := 3) (v := .int (nI (I 1))) hx hb hts usX3 hown hK hP 0 (by decide) rfl rfl 1 (by decide) (hts _ gw_505) rfl dX3_products_8 ?_
      refine b_ge_t (tgt := 48) hx hb dX3_products_11 (by decide) (by omega) (by omega) ?_
      rw [hi] at hl
      exact kx H locs ls hP hD hS (lv_sub hl [0, 1, 2, 3, 4] rfl)
    | succ n ih =>
      intro u9 z H locs ls hn hP hD hS hl kx
      have hi : u9 < I 1 := by omega
      refine lv_iload hx hb dX3_products_5 (lv_at hl 0 rfl) ?_
      refine lv_aload_n hx hb dX3_products_7 rfl (lv_at hl 2 rfl) ?_
      refine b_get (own := RX3) (C := RX3) (T := TX3) (N := 23) (ci := 3) (v := .int (nI (I 1))) hx hb hts usX3 hown hK hP 0 (by decide) rfl rfl 1 (by decide) (hts _ gw_505) rfl dX3_products_8 ?_
      refine b_ge_f (tgt := 48) hx hb dX3_products_11 (by decide) (by omega) (by omega) ?_
      refine lv_lload_n hx hb dX3_products_14 rfl (lv_at hl 1 rfl) ?_
      refine lv_aload_n hx hb dX3_products_15 rfl (lv_at hl 2 rfl) ?_
      refine b_get (own := RX3) (C := RX3) (T := TX3) (N := 23) (ci := 3) (v := .ref (ad 1)) hx hb hts usX3 hown hK hP 0 (by decide) rfl rfl 3 (by decide) (hts _ gw_507) rfl dX3_products_16 ?_
      refine lv_iconst (v := nI 4) hx hb dX3_products_19 (by decide) ?_
      refine lv_iload_n hx hb dX3_products_20 rfl (lv_at hl 3 rfl) ?_
      refine b_muln hx hb dX3_products_21 ?_
      refine lv_iload hx hb dX3_products_22 (lv_at hl 0 rfl) ?_
      refine b_addn hx hb dX3_products_24 ?_
      refine b_iald hx hb hK hP 1 0 (by decide) rfl rfl (by omega) (by decide) dX3_products_25 ?_
      refine lv_i2l (v := Int32.toInt64 (AI ((4 * a) + u9))) hx hb dX3_products_26 rfl ?_
      refine lv_aload_n hx hb dX3_products_27 rfl (lv_at hl 2 rfl) ?_
      refine b_get (own := RX3) (C := RX3) (T := TX3) (N := 23) (ci := 3) (v := .ref (ad 1)) hx hb hts usX3 hown hK hP 0 (by decide) rfl rfl 3 (by decide) (hts _ gw_507) rfl dX3_products_28 ?_
      refine lv_iconst (v := nI 4) hx hb dX3_products_31 (by decide) ?_
      refine lv_iload_n hx hb dX3_products_32 rfl (lv_at hl 4 rfl) ?_
      refine b_muln hx hb dX3_products_33 ?_
      refine lv_iload hx hb dX3_products_34 (lv_at hl 0 rfl) ?_
      refine b_addn hx hb dX3_products_36 ?_
      refine b_iald hx hb hK hP 1 0 (by decide) rfl rfl (by omega) (by decide) dX3_products_37 ?_
      refine lv_i2l (v := Int32.toInt64 (AI ((4 * b) + u9))) hx hb dX3_products_38 rfl ?_
      refine lv_lmul hx hb dX3_products_39 ?_
      refine lv_ladd hx hb dX3_products_40 ?_
      refine lv_lstore_n (lv' := [(3, .long (z + ((Int32.toInt64 (AI ((4 * a) + u9))) * (Int32.toInt64 (AI ((4 * b) + u9)))))), (5, .int (nI u9)), (0, .ref (ad 0)), (1, .int (nI a)), (2, .int (nI b))]) hx hb dX3_products_41 rfl hl (by decide) rfl (fun ls hl => ?_)
      refine b_iinc (lv' := [(5, .int (nI (u9 + 1))), (3, .long (z + ((Int32.toInt64 (AI ((4 * a) + u9))) * (Int32.toInt64 (AI ((4 * b) + u9)))))), (0, .ref (ad 0)), (1, .int (nI a)), (2, .int (nI b))]) hx hb dX3_products_42 hl (k := 1) rfl (by decide) rfl (fun ls hl => ?_)
      refine lv_goto (tgt := 5) hx hb dX3_products_45 (by decide) ?_
      exact ih (u9 + 1) _ H locs ls (by omega) hP hD hS (lv_sub hl [0, 1, 2, 3, 4] rfl) kx
  refine lp5 _ (I 1) 0 0 _ _ ls (by omega) hP hD hS (lv_sub hl [0, 1, 2, 3, 4] rfl) (fun H locs ls hP hD hS hl => ?_)
  refine lv_lload_n hx hb dX3_products_48 rfl (lv_at hl 1 rfl) ?_
  exact g_lret hx hb hr hlocks (I, G, AN, AI, AL) (⟨rfl, rfl⟩) hK hP hD hS dX3_products_49
