abbrev rmX0_begin : Room := { frames := 1, cells := 0, slots := 0, locals := 21 }
set_option maxHeartbeats 4000000 in
set_option maxRecDepth 100000 in
/-- begin: the rows of so many unknowns and so many rows are 0 -/
theorem ctX0_begin (l : Launch) (D : va_G) (cs : Nat → ClassId) (ad : Nat → Nat) (I : Nat → Nat) (AN : Nat → Nat → Nat) (AI : Nat → Nat → Int32) (AL : Nat → Nat → Int64) (sz : Nat) (a b : Nat) (ha : a ≤ 4) (hb7 : b ≤ 7) : Met l yX0_begin (Cond.code yX0_begin cX0_begin 5 none :: GW) rmX0_begin (va_Pc [.ref (ad 2), .int (nI a), .int (nI b)] (gP D cs (wT cs ad I AN AI AL) sz)) (va_Qv (fun u : TS => u = (up1 (up1 (up1 I 2 a) 3 b) 4 0, AN, AI, fo (fun i X => fo (fun j X => up2 X (i + 11) j 0) (a + 1) 0 X) (b) 0 AL)) (gB D cs (va_A (wT cs ad I AN AI AL) sz) (wTs cs ad)) (va_A (wT cs ad I AN AI AL) sz)) 0 0 (va_A (wT cs ad I AN AI AL) sz) := by
  refine Met.ofW (cc := cX0_begin) (maxL := 5) (ret := none) (by decide) rfl ?_
  intro p e s m args below meth c s₁ B hml hv
  obtain ⟨rfl, hsz, hP, hK, hD0, hN⟩ := hv
  have hx := B.exec
  have hb := B.bytes
  have hr := B.returns
  have hts : ∀ w ∈ GW, w.before _ s = true := fun w h => atoms_spec (ws := Cond.code yX0_begin cX0_begin 5 none :: GW) B.pre w (List.mem_cons_of_mem _ h)
  have hown : s.vm.findClass RX0 = some m.cls := findClass_of_methodNamed B.named
  have hlocks := B.notSynchronized
  subst hsz
  have hD := hD0.self (sz := s.heap.size)
  generalize hAe : va_A (wT cs ad I AN AI AL) s.heap.size = A at hD ⊢
  have hA : ∀ q : Nat, s.heap.size ≤ q → A q := fun q h => by rw [← hAe]; exact Or.inr h
  have hS : va_S A s.heap s.heap [] := va_S.rf
  have hl := lv_entry [.ref (ad 2), .int (nI a), .int (nI b)] (n := 5) (Nat.le_of_ble_eq_true rfl)
  rw [lg_entry_eq]
  generalize (lg_sl [.ref (ad 2), .int (nI a), .int (nI b)] ++ List.replicate (5 - (lg_sl [.ref (ad 2), .int (nI a), .int (nI b)]).length) Slot.unset).toArray = ls at hl ⊢
  have hl : lv_has ls 5 [(0, .ref (ad 2)), (1, .int (nI a)), (2, .int (nI b))] := hl
  generalize hargs : ([.ref (ad 2), .int (nI a), .int (nI b)] : List Value).toArray = args at *
  show W p l e rmX0_begin s m args below meth c s.heap [] 0 0 _ (F0 m 0 ls [])
  refine lv_aload_n hx hb dX0_begin_0 rfl (lv_at hl 0 rfl) ?_
  refine lv_iconst (v := nI 0) hx hb dX0_begin_1 (by decide) ?_
  refine lv_iconst (v := nI 4) hx hb dX0_begin_2 (by decide) ?_
  refine lv_iload_n hx hb dX0_begin_3 rfl (lv_at hl 1 rfl) ?_
  refine va_mmin hx hb (by rw [hml]; exact hl.1.symm) hown (hts _ gw_158) (hts _ gw_73) (hts _ gw_54) (hts _ gw_74) (Nat.le_of_ble_eq_true rfl) (Nat.le_of_ble_eq_true rfl) (Nat.zero_le _) (Nat.zero_le _) dX0_begin_4 ?_
  rw [mn_r (by omega) (by decide)]
  refine va_mmax hx hb (by rw [hml]; exact hl.1.symm) hown (hts _ gw_159) (hts _ gw_76) (hts _ gw_54) (hts _ gw_77) (Nat.le_of_ble_eq_true rfl) (Nat.le_of_ble_eq_true rfl) (Nat.zero_le _) (Nat.zero_le _) dX0_begin_7 ?_
  rw [mx_r (by omega)]
  refine b_put (own := RX0) (C := RX0) (T := TX0) (N := 5) (ci := 0) (v := .int (nI a)) hx hb hts usX0 tyX0 tyX0_ok nmX0 hown hK hP hD hS 2 (by decide) rfl rfl 2 (by decide) (hts _ gw_91) rfl rfl rfl (Nat.le_of_ble_eq_true rfl) dX0_begin_10 sT_w (fun H locs hP hD hS => ?_)
  refine lv_aload_n hx hb dX0_begin_13 rfl (lv_at hl 0 rfl) ?_
  refine lv_iconst (v := nI 0) hx hb dX0_begin_14 (by decide) ?_
  refine lv_bipush (v := nI 7) hx hb dX0_begin_15 (by decide) ?_
  refine lv_iload_n hx hb dX0_begin_17 rfl (lv_at hl 2 rfl) ?_
  refine va_mmin hx hb (by rw [hml]; exact hl.1.symm) hown (hts _ gw_158) (hts _ gw_73) (hts _ gw_54) (hts _ gw_74) (Nat.le_of_ble_eq_true rfl) (Nat.le_of_ble_eq_true rfl) (Nat.zero_le _) (Nat.zero_le _) dX0_begin_18 ?_
  rw [mn_r (by omega) (by decide)]
  refine va_mmax hx hb (by rw [hml]; exact hl.1.symm) hown (hts _ gw_159) (hts _ gw_76) (hts _ gw_54) (hts _ gw_77) (Nat.le_of_ble_eq_true rfl) (Nat.le_of_ble_eq_true rfl) (Nat.zero_le _) (Nat.zero_le _) dX0_begin_21 ?_
  rw [mx_r (by omega)]
  refine b_put (own := RX0) (C := RX0) (T := TX0) (N := 5) (ci := 0) (v := .int (nI b)) hx hb hts usX0 tyX0 tyX0_ok nmX0 hown hK hP hD hS 2 (by decide) rfl rfl 3 (by decide) (hts _ gw_92) rfl rfl rfl (Nat.le_of_ble_eq_true rfl) dX0_begin_24 sT_h (fun H locs hP hD hS => ?_)
  refine lv_aload_n hx hb dX0_begin_27 rfl (lv_at hl 0 rfl) ?_
  refine lv_iconst (v := nI 0) hx hb dX0_begin_28 (by decide) ?_
  refine b_put (own := RX0) (C := RX0) (T := TX0) (N := 5) (ci := 0) (v := .int (nI 0)) hx hb hts usX0 tyX0 tyX0_ok nmX0 hown hK hP hD hS 2 (by decide) rfl rfl 4 (by decide) (hts _ gw_93) rfl rfl rfl (Nat.le_of_ble_eq_true rfl) dX0_begin_29 sT_d (fun H locs hP hD hS => ?_)
  refine lv_iconst (v := nI 0) hx hb dX0_begin_32 (by decide) ?_
  refine lv_istore_n (lv' := [(3, .int (nI 0)), (0, .ref (ad 2)), (1, .int (nI a)), (2, .int (nI b))]) hx hb dX0_begin_33 rfl hl (by decide) rfl (fun ls hl => ?_)
  have lp34 : ∀ (Q : State → Prop) (n i : Nat) (X : Nat → Nat → Int64) (H : Heap) (locs : List Loc) (ls : Array Slot), i + n = b → va_P D vc (wT cs ad (up1 (up1 (up1 I 2 a) 3 b) 4 0) AN AI X) H → va_D A (wT cs ad (up1 (up1 (up1 I 2 a) 3 b) 4 0) AN AI X) → va_S A s.heap H locs → lv_has ls 5 [(3, .int (nI i)), (0, .ref (ad 2)), (1, .int (nI a)), (2, .int (nI b))] → (∀ (H : Heap) (locs : List Loc) (ls : Array Slot), va_P D vc (wT cs ad (up1 (up1 (up1 I 2 a) 3 b) 4 0) AN AI (fo (fun i X => fo (fun j X => up2 X (i + 11) j 0) (a + 1) 0 X) n i X)) H → va_D A (wT cs ad (up1 (up1 (up1 I 2 a) 3 b) 4 0) AN AI (fo (fun i X => fo (fun j X => up2 X (i + 11) j 0) (a + 1) 0 X) n i X)) → va_S A s.heap H locs → lv_has ls 5 [(3, .int (nI b)), (0, .ref (ad 2)), (1, .int (nI a)), (2, .int (nI b))] → W p l e rmX0_begin s m args below meth c H locs 0 0 Q (F0 m 76 ls [])) → W p l e rmX0_begin s m args below meth c H locs 0 0 Q (F0 m 34 ls []) := by
    intro Q n
    induction n with
    | zero =>
      intro i X H locs ls hn hP hD hS hl kx
      have hi : i = b := by omega
      refine lv_iload_n hx hb dX0_begin_34 rfl (lv_at hl 0 rfl) ?_
      refine lv_aload_n hx hb dX0_begin_35 rfl (lv_at hl 1 rfl) ?_
      refine b_get (own := RX0) (C := RX0) (T := TX0) (N := 5) (ci := 0) (v := .int (nI b)) hx hb hts usX0 hown hK hP 2 (by decide) rfl rfl 3 (by decide) (hts _ gw_92) rfl dX0_begin_36 ?_
      refine b_ge_t (tgt := 76) hx hb dX0_begin_39 (by decide) (by show _ ≤ _; omega) (by omega) ?_
      rw [hi] at hl
      exact kx H locs ls hP hD hS (lv_sub hl [0, 1, 2, 3] rfl)
    | succ n ih =>
      intro i X H locs ls hn hP hD hS hl kx
      have hi : i < b := by omega
      refine lv_iload_n hx hb dX0_begin_34 rfl (lv_at hl 0 rfl) ?_
      refine lv_aload_n hx hb dX0_begin_35 rfl (lv_at hl 1 rfl) ?_
      refine b_get (own := RX0) (C := RX0) (T := TX0) (N := 5) (ci := 0) (v := .int (nI b)) hx hb hts usX0 hown hK hP 2 (by decide) rfl rfl 3 (by decide) (hts _ gw_92) rfl dX0_begin_36 ?_
      refine b_ge_f (tgt := 76) hx hb dX0_begin_39 (by decide) (by show _ < _; omega) (by omega) ?_
      refine lv_iconst (v := nI 0) hx hb dX0_begin_42 (by decide) ?_
      refine lv_istore (lv' := [(4, .int (nI 0)), (3, .int (nI i)), (0, .ref (ad 2)), (1, .int (nI a)), (2, .int (nI b))]) hx hb dX0_begin_43 hl (by decide) rfl (fun ls hl => ?_)
      have lp45 : ∀ (Q : State → Prop) (n j : Nat) (Y : Nat → Nat → Int64) (H : Heap) (locs : List Loc) (ls : Array Slot), j + n = a + 1 → va_P D vc (wT cs ad (up1 (up1 (up1 I 2 a) 3 b) 4 0) AN AI Y) H → va_D A (wT cs ad (up1 (up1 (up1 I 2 a) 3 b) 4 0) AN AI Y) → va_S A s.heap H locs → lv_has ls 5 [(4, .int (nI j)), (3, .int (nI i)), (0, .ref (ad 2)), (1, .int (nI a)), (2, .int (nI b))] → (∀ (H : Heap) (locs : List Loc) (ls : Array Slot), va_P D vc (wT cs ad (up1 (up1 (up1 I 2 a) 3 b) 4 0) AN AI (fo (fun j X => up2 X (i + 11) j 0) n j Y)) H → va_D A (wT cs ad (up1 (up1 (up1 I 2 a) 3 b) 4 0) AN AI (fo (fun j X => up2 X (i + 11) j 0) n j Y)) → va_S A s.heap H locs → lv_has ls 5 [(4, .int (nI (a + 1))), (3, .int (nI i)), (0, .ref (ad 2)), (1, .int (nI a)), (2, .int (nI b))] → W p l e rmX0_begin s m args below meth c H locs 0 0 Q (F0 m 70 ls [])) → W p l e rmX0_begin s m args below meth c H locs 0 0 Q (F0 m 45 ls []) := by
        intro Q n
        induction n with
        | zero =>
          intro j Y H locs ls hn hP hD hS hl kx
          have hi : j = a + 1 := by omega
          refine lv_iload hx hb dX0_begin_45 (lv_at hl 0 rfl) ?_
          refine lv_aload_n hx hb dX0_begin_47 rfl (lv_at hl 2 rfl) ?_
          refine b_get (own := RX0) (C := RX0) (T := TX0) (N := 5) (ci := 0) (v := .int (nI a)) hx hb hts usX0 hown hK hP 2 (by decide) rfl rfl 2 (by decide) (hts _ gw_91) rfl dX0_begin_48 ?_
          refine b_gt_t (tgt := 70) hx hb dX0_begin_51 (by decide) (by show _ < _; omega) (by omega) ?_
          rw [hi] at hl
          exact kx H locs ls hP hD hS (lv_sub hl [0, 1, 2, 3, 4] rfl)
        | succ n ih =>
          intro j Y H locs ls hn hP hD hS hl kx
          have hi : j < a + 1 := by omega
          refine lv_iload hx hb dX0_begin_45 (lv_at hl 0 rfl) ?_
          refine lv_aload_n hx hb dX0_begin_47 rfl (lv_at hl 2 rfl) ?_
          refine b_get (own := RX0) (C := RX0) (T := TX0) (N := 5) (ci := 0) (v := .int (nI a)) hx hb hts usX0 hown hK hP 2 (by decide) rfl rfl 2 (by decide) (hts _ gw_91) rfl dX0_begin_48 ?_
          refine b_gt_f (tgt := 70) hx hb dX0_begin_51 (by decide) (by show _ ≤ _; omega) (by omega) ?_
          refine lv_aload_n hx hb dX0_begin_54 rfl (lv_at hl 2 rfl) ?_
          refine b_get (own := RX0) (C := RX0) (T := TX0) (N := 5) (ci := 0) (v := .ref (ad 4)) hx hb hts usX0 hown hK hP 2 (by decide) rfl rfl 0 (by decide) (hts _ gw_88) rfl dX0_begin_55 ?_
          refine lv_iload_n hx hb dX0_begin_58 rfl (lv_at hl 1 rfl) ?_
          refine tE_r hx hb hK hP (by omega) dX0_begin_59 ?_
          refine lv_iload hx hb dX0_begin_60 (lv_at hl 0 rfl) ?_
          refine lv_lconst (v := 0) hx hb dX0_begin_62 (by decide) ?_
          refine tE_st (i := i) hx hb hK hP hD hS (by omega) (by omega) dX0_begin_63 (fun H locs hP hD hS => ?_)
          refine b_iinc (lv' := [(4, .int (nI (j + 1))), (3, .int (nI i)), (0, .ref (ad 2)), (1, .int (nI a)), (2, .int (nI b))]) hx hb dX0_begin_64 hl (k := 0) rfl (by decide) rfl (fun ls hl => ?_)
          refine lv_goto (tgt := 45) hx hb dX0_begin_67 (by decide) ?_
          exact ih (j + 1) _ H locs ls (by omega) hP hD hS (lv_sub hl [0, 1, 2, 3, 4] rfl) kx
      refine lp45 _ (a + 1) 0 X _ _ ls (by omega) hP hD hS (lv_sub hl [0, 1, 2, 3, 4] rfl) (fun H locs ls hP hD hS hl => ?_)
      refine b_iinc (lv' := [(3, .int (nI (i + 1))), (4, .int (nI (a + 1))), (0, .ref (ad 2)), (1, .int (nI a)), (2, .int (nI b))]) hx hb dX0_begin_70 hl (k := 1) rfl (by decide) rfl (fun ls hl => ?_)
      refine lv_goto (tgt := 34) hx hb dX0_begin_73 (by decide) ?_
      exact ih (i + 1) _ H locs ls (by omega) hP hD hS (lv_sub hl [0, 2, 3, 4] rfl) kx
  refine lp34 _ (b) 0 AL _ _ ls (by omega) hP hD hS (lv_sub hl [0, 1, 2, 3] rfl) (fun H locs ls hP hD hS hl => ?_)
  exact g_vret hx hb hr hlocks (up1 (up1 (up1 I 2 a) 3 b) 4 0, AN, AI, fo (fun i X => fo (fun j X => up2 X (i + 11) j 0) (a + 1) 0 X) (b) 0 AL) (rfl) hK hP hD hS dX0_begin_76

abbrev rmX0_firstRowWith : Room := { frames := 0, cells := 0, slots := 0, locals := 0 }
set_option maxHeartbeats 4000000 in
set_option maxRecDepth 100000 in
/-- firstRowWith -/
theorem ctX0_firstRowWith (l : Launch) (D : va_G) (cs : Nat → ClassId) (ad : Nat → Nat) (I : Nat → Nat) (AN : Nat → Nat → Nat) (AI : Nat → Nat → Int32) (AL : Nat → Nat → Int64) (sz : Nat) (q : Nat) (h3 : I 3 ≤ 7) (h43 : I 4 ≤ I 3) (hq : q < 5) : Met l yX0_firstRowWith (Cond.code yX0_firstRowWith cX0_firstRowWith 3 (some FieldType.int) :: GW) rmX0_firstRowWith (va_Pc [.ref (ad 2), .int (nI q)] (gP D cs (wT cs ad I AN AI AL) sz)) (va_Qi (fun (r : Int32) (u : TS) => u = (I, AN, AI, AL) ∧ r = enc (fnd (fun k => AL (k + 11) q ≠ 0) (I 3 - I 4) (I 4))) (gB D cs (va_A (wT cs ad I AN AI AL) sz) (wTs cs ad)) (va_A (wT cs ad I AN AI AL) sz)) 0 0 (va_A (wT cs ad I AN AI AL) sz) := by
  refine Met.ofW (cc := cX0_firstRowWith) (maxL := 3) (ret := (some FieldType.int)) (by decide) rfl ?_
  intro p e s m args below meth c s₁ B hml hv
  obtain ⟨rfl, hsz, hP, hK, hD0, hN⟩ := hv
  have hx := B.exec
  have hb := B.bytes
  have hr := B.returns
  have hts : ∀ w ∈ GW, w.before _ s = true := fun w h => atoms_spec (ws := Cond.code yX0_firstRowWith cX0_firstRowWith 3 (some FieldType.int) :: GW) B.pre w (List.mem_cons_of_mem _ h)
  have hown : s.vm.findClass RX0 = some m.cls := findClass_of_methodNamed B.named
  have hlocks := B.notSynchronized
  subst hsz
  have hD := hD0.self (sz := s.heap.size)
  generalize hAe : va_A (wT cs ad I AN AI AL) s.heap.size = A at hD ⊢
  have hA : ∀ q : Nat, s.heap.size ≤ q → A q := fun q h => by rw [← hAe]; exact Or.inr h
  have hS : va_S A s.heap s.heap [] := va_S.rf
  have hl := lv_entry [.ref (ad 2), .int (nI q)] (n := 3) (Nat.le_of_ble_eq_true rfl)
  rw [lg_entry_eq]
  generalize (lg_sl [.ref (ad 2), .int (nI q)] ++ List.replicate (3 - (lg_sl [.ref (ad 2), .int (nI q)]).length) Slot.unset).toArray = ls at hl ⊢
  have hl : lv_has ls 3 [(0, .ref (ad 2)), (1, .int (nI q))] := hl
  generalize hargs : ([.ref (ad 2), .int (nI q)] : List Value).toArray = args at *
  show W p l e rmX0_firstRowWith s m args below meth c s.heap [] 0 0 _ (F0 m 0 ls [])
  refine lv_aload_n hx hb dX0_firstRowWith_0 rfl (lv_at hl 0 rfl) ?_
  refine b_get (own := RX0) (C := RX0) (T := TX0) (N := 5) (ci := 0) (v := .int (nI (I 4))) hx hb hts usX0 hown hK hP 2 (by decide) rfl rfl 4 (by decide) (hts _ gw_93) rfl dX0_firstRowWith_1 ?_
  refine lv_istore_n (lv' := [(2, .int (nI (I 4))), (0, .ref (ad 2)), (1, .int (nI q))]) hx hb dX0_firstRowWith_4 rfl hl (by decide) rfl (fun ls hl => ?_)
  have lp5 : ∀ (n k : Nat) (H : Heap) (locs : List Loc) (ls : Array Slot), k + n = I 3 → va_P D vc (wT cs ad I AN AI AL) H → va_D A (wT cs ad I AN AI AL) → va_S A s.heap H locs → lv_has ls 3 [(2, .int (nI k)), (0, .ref (ad 2)), (1, .int (nI q))] → W p l e rmX0_firstRowWith s m args below meth c H locs 0 0 (MQ below (va_Qi (fun (r : Int32) (u : TS) => u = (I, AN, AI, AL) ∧ r = enc (fnd (fun k => AL (k + 11) q ≠ 0) n k)) (gB D cs A (wTs cs ad)) A) args s 0 0 A) (F0 m 5 ls []) := by
    intro n
    induction n with
    | zero =>
      intro k H locs ls hn hP hD hS hl
      have hi : k = I 3 := by omega
      refine lv_iload_n hx hb dX0_firstRowWith_5 rfl (lv_at hl 0 rfl) ?_
      refine lv_aload_n hx hb dX0_firstRowWith_6 rfl (lv_at hl 1 rfl) ?_
      refine b_get (own := RX0) (C := RX0) (T := TX0) (N := 5) (ci := 0) (v := .int (nI (I 3))) hx hb hts usX0 hown hK hP 2 (by decide) rfl rfl 3 (by decide) (hts _ gw_92) rfl dX0_firstRowWith_7 ?_
      refine b_ge_t (tgt := 34) hx hb dX0_firstRowWith_10 (by decide) (by omega) (by omega) ?_
      refine lv_iconst (v := -1) hx hb dX0_firstRowWith_34 (by decide) ?_
      exact g_iret hx hb hr hlocks (I, AN, AI, AL) (⟨rfl, rfl⟩) hK hP hD hS dX0_firstRowWith_35
    | succ n ih =>
      intro k H locs ls hn hP hD hS hl
      have hi : k < I 3 := by omega
      refine lv_iload_n hx hb dX0_firstRowWith_5 rfl (lv_at hl 0 rfl) ?_
      refine lv_aload_n hx hb dX0_firstRowWith_6 rfl (lv_at hl 1 rfl) ?_
      refine b_get (own := RX0) (C := RX0) (T := TX0) (N := 5) (ci := 0) (v := .int (nI (I 3))) hx hb hts usX0 hown hK hP 2 (by decide) rfl rfl 3 (by decide) (hts _ gw_92) rfl dX0_firstRowWith_7 ?_
      refine b_ge_f (tgt := 34) hx hb dX0_firstRowWith_10 (by decide) (by omega) (by omega) ?_
      refine lv_aload_n hx hb dX0_firstRowWith_13 rfl (lv_at hl 1 rfl) ?_
      refine b_get (own := RX0) (C := RX0) (T := TX0) (N := 5) (ci := 0) (v := .ref (ad 4)) hx hb hts usX0 hown hK hP 2 (by decide) rfl rfl 0 (by decide) (hts _ gw_88) rfl dX0_firstRowWith_14 ?_
      refine lv_iload_n hx hb dX0_firstRowWith_17 rfl (lv_at hl 0 rfl) ?_
      refine tE_r hx hb hK hP (by omega) dX0_firstRowWith_18 ?_
      refine lv_iload_n hx hb dX0_firstRowWith_19 rfl (lv_at hl 2 rfl) ?_
      refine tE_ld (i := k) hx hb hK hP (by omega) (by omega) dX0_firstRowWith_20 ?_
      refine lv_lconst (v := 0) hx hb dX0_firstRowWith_21 (by decide) ?_
      refine b_lceq (tgt := 28) hx hb dX0_firstRowWith_22 dX0_firstRowWith_23 (by decide) (fun h => ?_) (fun h => ?_)
      · refine b_iinc (lv' := [(2, .int (nI (k + 1))), (0, .ref (ad 2)), (1, .int (nI q))]) hx hb dX0_firstRowWith_28 hl (k := 0) rfl (by decide) rfl (fun ls hl => ?_)
        refine lv_goto (tgt := 5) hx hb dX0_firstRowWith_31 (by decide) ?_
        rw [fnd_f (f := fun k => AL (k + 11) q ≠ 0) (fun q => q h)]
        exact ih (k + 1) H locs ls (by omega) hP hD hS (lv_sub hl [0, 1, 2] rfl)
      · refine lv_iload_n hx hb dX0_firstRowWith_26 rfl (lv_at hl 0 rfl) ?_
        exact g_iret hx hb hr hlocks (I, AN, AI, AL) (⟨rfl, by rw [fnd_t (f := fun k => AL (k + 11) q ≠ 0) h]; rfl⟩) hK hP hD hS dX0_firstRowWith_27
  exact lp5 ((I 3) - (I 4)) (I 4) _ _ ls (by omega) hP hD hS (lv_sub hl [0, 1, 2] rfl)

abbrev rmX0_exchange : Room := { frames := 0, cells := 0, slots := 0, locals := 0 }
set_option maxHeartbeats 4000000 in
set_option maxRecDepth 100000 in
/-- exchange -/
theorem ctX0_exchange (l : Launch) (D : va_G) (cs : Nat → ClassId) (ad : Nat → Nat) (I : Nat → Nat) (AN : Nat → Nat → Nat) (AI : Nat → Nat → Int32) (AL : Nat → Nat → Int64) (sz : Nat) (a b : Nat) (h2 : I 2 ≤ 4) (ha : a < 7) (hb7 : b < 7) : Met l yX0_exchange (Cond.code yX0_exchange cX0_exchange 6 none :: GW) rmX0_exchange (va_Pc [.ref (ad 2), .int (nI a), .int (nI b)] (gP D cs (wT cs ad I AN AI AL) sz)) (va_Qv (fun u : TS => u = (I, AN, AI, fo (fun j X => up2 (up2 X (a + 11) j (X (b + 11) j)) (b + 11) j (X (a + 11) j)) (I 2 + 1) 0 AL)) (gB D cs (va_A (wT cs ad I AN AI AL) sz) (wTs cs ad)) (va_A (wT cs ad I AN AI AL) sz)) 0 0 (va_A (wT cs ad I AN AI AL) sz) := by
  refine Met.ofW (cc := cX0_exchange) (maxL := 6) (ret := none) (by decide) rfl ?_
  intro p e s m args below meth c s₁ B hml hv
  obtain ⟨rfl, hsz, hP, hK, hD0, hN⟩ := hv
  have hx := B.exec
  have hb := B.bytes
  have hr := B.returns
  have hts : ∀ w ∈ GW, w.before _ s = true := fun w h => atoms_spec (ws := Cond.code yX0_exchange cX0_exchange 6 none :: GW) B.pre w (List.mem_cons_of_mem _ h)
  have hown : s.vm.findClass RX0 = some m.cls := findClass_of_methodNamed B.named
  have hlocks := B.notSynchronized
  subst hsz
  have hD := hD0.self (sz := s.heap.size)
  generalize hAe : va_A (wT cs ad I AN AI AL) s.heap.size = A at hD ⊢
  have hA : ∀ q : Nat, s.heap.size ≤ q → A q := fun q h => by rw [← hAe]; exact Or.inr h
  have hS : va_S A s.heap s.heap [] := va_S.rf
  have hl := lv_entry [.ref (ad 2), .int (nI a), .int (nI b)] (n := 6) (Nat.le_of_ble_eq_true rfl)
  rw [lg_entry_eq]
  generalize (lg_sl [.ref (ad 2), .int (nI a), .int (nI b)] ++ List.replicate (6 - (lg_sl [.ref (ad 2), .int (nI a), .int (nI b)]).length) Slot.unset).toArray = ls at hl ⊢
  have hl : lv_has ls 6 [(0, .ref (ad 2)), (1, .int (nI a)), (2, .int (nI b))] := hl
  generalize hargs : ([.ref (ad 2), .int (nI a), .int (nI b)] : List Value).toArray = args at *
  show W p l e rmX0_exchange s m args below meth c s.heap [] 0 0 _ (F0 m 0 ls [])
  refine lv_iconst (v := nI 0) hx hb dX0_exchange_0 (by decide) ?_
  refine lv_istore_n (lv' := [(3, .int (nI 0)), (0, .ref (ad 2)), (1, .int (nI a)), (2, .int (nI b))]) hx hb dX0_exchange_1 rfl hl (by decide) rfl (fun ls hl => ?_)
  have lp2 : ∀ (Q : State → Prop) (n j : Nat) (X : Nat → Nat → Int64) (H : Heap) (locs : List Loc) (ls : Array Slot), j + n = I 2 + 1 → va_P D vc (wT cs ad I AN AI X) H → va_D A (wT cs ad I AN AI X) → va_S A s.heap H locs → lv_has ls 6 [(3, .int (nI j)), (0, .ref (ad 2)), (1, .int (nI a)), (2, .int (nI b))] → (∀ (H : Heap) (locs : List Loc) (ls : Array Slot), va_P D vc (wT cs ad I AN AI (fo (fun j X => up2 (up2 X (a + 11) j (X (b + 11) j)) (b + 11) j (X (a + 11) j)) n j X)) H → va_D A (wT cs ad I AN AI (fo (fun j X => up2 (up2 X (a + 11) j (X (b + 11) j)) (b + 11) j (X (a + 11) j)) n j X)) → va_S A s.heap H locs → lv_has ls 6 [(3, .int (nI (I 2 + 1))), (0, .ref (ad 2)), (1, .int (nI a)), (2, .int (nI b))] → W p l e rmX0_exchange s m args below meth c H locs 0 0 Q (F0 m 52 ls [])) → W p l e rmX0_exchange s m args below meth c H locs 0 0 Q (F0 m 2 ls []) := by
    intro Q n
    induction n with
    | zero =>
      intro j X H locs ls hn hP hD hS hl kx
      have hi : j = I 2 + 1 := by omega
      refine lv_iload_n hx hb dX0_exchange_2 rfl (lv_at hl 0 rfl) ?_
      refine lv_aload_n hx hb dX0_exchange_3 rfl (lv_at hl 1 rfl) ?_
      refine b_get (own := RX0) (C := RX0) (T := TX0) (N := 5) (ci := 0) (v := .int (nI (I 2))) hx hb hts usX0 hown hK hP 2 (by decide) rfl rfl 2 (by decide) (hts _ gw_91) rfl dX0_exchange_4 ?_
      refine b_gt_t (tgt := 52) hx hb dX0_exchange_7 (by decide) (by omega) (by omega) ?_
      rw [hi] at hl
      exact kx H locs ls hP hD hS (lv_sub hl [0, 1, 2, 3] rfl)
    | succ n ih =>
      intro j X H locs ls hn hP hD hS hl kx
      have hi : j < I 2 + 1 := by omega
      refine lv_iload_n hx hb dX0_exchange_2 rfl (lv_at hl 0 rfl) ?_
      refine lv_aload_n hx hb dX0_exchange_3 rfl (lv_at hl 1 rfl) ?_
      refine b_get (own := RX0) (C := RX0) (T := TX0) (N := 5) (ci := 0) (v := .int (nI (I 2))) hx hb hts usX0 hown hK hP 2 (by decide) rfl rfl 2 (by decide) (hts _ gw_91) rfl dX0_exchange_4 ?_
      refine b_gt_f (tgt := 52) hx hb dX0_exchange_7 (by decide) (by omega) (by omega) ?_
      refine lv_aload_n hx hb dX0_exchange_10 rfl (lv_at hl 1 rfl) ?_
      refine b_get (own := RX0) (C := RX0) (T := TX0) (N := 5) (ci := 0) (v := .ref (ad 4)) hx hb hts usX0 hown hK hP 2 (by decide) rfl rfl 0 (by decide) (hts _ gw_88) rfl dX0_exchange_11 ?_
      refine lv_iload_n hx hb dX0_exchange_14 rfl (lv_at hl 2 rfl) ?_
      refine tE_r hx hb hK hP (by omega) dX0_exchange_15 ?_
      refine lv_iload_n hx hb dX0_exchange_16 rfl (lv_at hl 0 rfl) ?_
      refine tE_ld (i := a) hx hb hK hP (by omega) (by omega) dX0_exchange_17 ?_
      refine lv_lstore (lv' := [(4, .long (X (a + 11) j)), (3, .int (nI j)), (0, .ref (ad 2)), (1, .int (nI a)), (2, .int (nI b))]) hx hb dX0_exchange_18 hl (by decide) rfl (fun ls hl => ?_)
      refine lv_aload_n hx hb dX0_exchange_20 rfl (lv_at hl 2 rfl) ?_
      refine b_get (own := RX0) (C := RX0) (T := TX0) (N := 5) (ci := 0) (v := .ref (ad 4)) hx hb hts usX0 hown hK hP 2 (by decide) rfl rfl 0 (by decide) (hts _ gw_88) rfl dX0_exchange_21 ?_
      refine lv_iload_n hx hb dX0_exchange_24 rfl (lv_at hl 3 rfl) ?_
      refine tE_r hx hb hK hP (by omega) dX0_exchange_25 ?_
      refine lv_iload_n hx hb dX0_exchange_26 rfl (lv_at hl 1 rfl) ?_
      refine lv_aload_n hx hb dX0_exchange_27 rfl (lv_at hl 2 rfl) ?_
      refine b_get (own := RX0) (C := RX0) (T := TX0) (N := 5) (ci := 0) (v := .ref (ad 4)) hx hb hts usX0 hown hK hP 2 (by decide) rfl rfl 0 (by decide) (hts _ gw_88) rfl dX0_exchange_28 ?_
      refine lv_iload_n hx hb dX0_exchange_31 rfl (lv_at hl 4 rfl) ?_
      refine tE_r hx hb hK hP (by omega) dX0_exchange_32 ?_
      refine lv_iload_n hx hb dX0_exchange_33 rfl (lv_at hl 1 rfl) ?_
      refine tE_ld (i := b) hx hb hK hP (by omega) (by omega) dX0_exchange_34 ?_
      refine tE_st (i := a) hx hb hK hP hD hS (by omega) (by omega) dX0_exchange_35 (fun H locs hP hD hS => ?_)
      refine lv_aload_n hx hb dX0_exchange_36 rfl (lv_at hl 2 rfl) ?_
      refine b_get (own := RX0) (C := RX0) (T := TX0) (N := 5) (ci := 0) (v := .ref (ad 4)) hx hb hts usX0 hown hK hP 2 (by decide) rfl rfl 0 (by decide) (hts _ gw_88) rfl dX0_exchange_37 ?_
      refine lv_iload_n hx hb dX0_exchange_40 rfl (lv_at hl 4 rfl) ?_
      refine tE_r hx hb hK hP (by omega) dX0_exchange_41 ?_
      refine lv_iload_n hx hb dX0_exchange_42 rfl (lv_at hl 1 rfl) ?_
      refine lv_lload hx hb dX0_exchange_43 (lv_at hl 0 rfl) ?_
      refine tE_st (i := b) hx hb hK hP hD hS (by omega) (by omega) dX0_exchange_45 (fun H locs hP hD hS => ?_)
      refine b_iinc (lv' := [(3, .int (nI (j + 1))), (4, .long (X (a + 11) j)), (0, .ref (ad 2)), (1, .int (nI a)), (2, .int (nI b))]) hx hb dX0_exchange_46 hl (k := 1) rfl (by decide) rfl (fun ls hl => ?_)
      refine lv_goto (tgt := 2) hx hb dX0_exchange_49 (by decide) ?_
      exact ih (j + 1) _ H locs ls (by omega) hP hD hS (lv_sub hl [0, 2, 3, 4] rfl) kx
  refine lp2 _ (I 2 + 1) 0 AL _ _ ls (by omega) hP hD hS (lv_sub hl [0, 1, 2, 3] rfl) (fun H locs ls hP hD hS hl => ?_)
  exact g_vret hx hb hr hlocks (I, AN, AI, fo (fun j X => up2 (up2 X (a + 11) j (X (b + 11) j)) (b + 11) j (X (a + 11) j)) (I 2 + 1) 0 AL) (rfl) hK hP hD hS dX0_exchange_52

abbrev rmX0_makeAboveZero : Room := { frames := 0, cells := 0, slots := 0, locals := 0 }
set_option maxHeartbeats 4000000 in
set_option maxRecDepth 100000 in
/-- makeAboveZero -/
theorem ctX0_makeAboveZero (l : Launch) (D : va_G) (cs : Nat → ClassId) (ad : Nat → Nat) (I : Nat → Nat) (AN : Nat → Nat → Nat) (AI : Nat → Nat → Int32) (AL : Nat → Nat → Int64) (sz : Nat) (a q : Nat) (h2 : I 2 ≤ 4) (ha : a < 7) (hq : q < 5) : Met l yX0_makeAboveZero (Cond.code yX0_makeAboveZero cX0_makeAboveZero 4 none :: GW) rmX0_makeAboveZero (va_Pc [.ref (ad 2), .int (nI a), .int (nI q)] (gP D cs (wT cs ad I AN AI AL) sz)) (va_Qv (fun u : TS => u = (I, AN, AI, if AL (a + 11) q < 0 then fo (fun j X => up2 X (a + 11) j (-X (a + 11) j)) (I 2 + 1) 0 AL else AL)) (gB D cs (va_A (wT cs ad I AN AI AL) sz) (wTs cs ad)) (va_A (wT cs ad I AN AI AL) sz)) 0 0 (va_A (wT cs ad I AN AI AL) sz) := by
  refine Met.ofW (cc := cX0_makeAboveZero) (maxL := 4) (ret := none) (by decide) rfl ?_
  intro p e s m args below meth c s₁ B hml hv
  obtain ⟨rfl, hsz, hP, hK, hD0, hN⟩ := hv
  have hx := B.exec
  have hb := B.bytes
  have hr := B.returns
  have hts : ∀ w ∈ GW, w.before _ s = true := fun w h => atoms_spec (ws := Cond.code yX0_makeAboveZero cX0_makeAboveZero 4 none :: GW) B.pre w (List.mem_cons_of_mem _ h)
  have hown : s.vm.findClass RX0 = some m.cls := findClass_of_methodNamed B.named
  have hlocks := B.notSynchronized
  subst hsz
  have hD := hD0.self (sz := s.heap.size)
  generalize hAe : va_A (wT cs ad I AN AI AL) s.heap.size = A at hD ⊢
  have hA : ∀ q : Nat, s.heap.size ≤ q → A q := fun q h => by rw [← hAe]; exact Or.inr h
  have hS : va_S A s.heap s.heap [] := va_S.rf
  have hl := lv_entry [.ref (ad 2), .int (nI a), .int (nI q)] (n := 4) (Nat.le_of_ble_eq_true rfl)
  rw [lg_entry_eq]
  generalize (lg_sl [.ref (ad 2), .int (nI a), .int (nI q)] ++ List.replicate (4 - (lg_sl [.ref (ad 2), .int (nI a), .int (nI q)]).length) Slot.unset).toArray = ls at hl ⊢
  have hl : lv_has ls 4 [(0, .ref (ad 2)), (1, .int (nI a)), (2, .int (nI q))] := hl
  generalize hargs : ([.ref (ad 2), .int (nI a), .int (nI q)] : List Value).toArray = args at *
  show W p l e rmX0_makeAboveZero s m args below meth c s.heap [] 0 0 _ (F0 m 0 ls [])
  refine lv_aload_n hx hb dX0_makeAboveZero_0 rfl (lv_at hl 0 rfl) ?_
  refine b_get (own := RX0) (C := RX0) (T := TX0) (N := 5) (ci := 0) (v := .ref (ad 4)) hx hb hts usX0 hown hK hP 2 (by decide) rfl rfl 0 (by decide) (hts _ gw_88) rfl dX0_makeAboveZero_1 ?_
  refine lv_iload_n hx hb dX0_makeAboveZero_4 rfl (lv_at hl 1 rfl) ?_
  refine tE_r hx hb hK hP (by omega) dX0_makeAboveZero_5 ?_
  refine lv_iload_n hx hb dX0_makeAboveZero_6 rfl (lv_at hl 2 rfl) ?_
  refine tE_ld (i := a) hx hb hK hP (by omega) (by omega) dX0_makeAboveZero_7 ?_
  refine lv_lconst (v := 0) hx hb dX0_makeAboveZero_8 (by decide) ?_
  refine b_lcge (tgt := 46) hx hb dX0_makeAboveZero_9 dX0_makeAboveZero_10 (by decide) (fun h => ?_) (fun h => ?_)
  · exact g_vret hx hb hr hlocks (I, AN, AI, AL) (by rw [if_neg h]) hK hP hD hS dX0_makeAboveZero_46
  · refine lv_iconst (v := nI 0) hx hb dX0_makeAboveZero_13 (by decide) ?_
    refine lv_istore_n (lv' := [(3, .int (nI 0)), (0, .ref (ad 2)), (1, .int (nI a)), (2, .int (nI q))]) hx hb dX0_makeAboveZero_14 rfl hl (by decide) rfl (fun ls hl => ?_)
    have lp15 : ∀ (Q : State → Prop) (n j : Nat) (X : Nat → Nat → Int64) (H : Heap) (locs : List Loc) (ls : Array Slot), j + n = I 2 + 1 → va_P D vc (wT cs ad I AN AI X) H → va_D A (wT cs ad I AN AI X) → va_S A s.heap H locs → lv_has ls 4 [(3, .int (nI j)), (0, .ref (ad 2)), (1, .int (nI a)), (2, .int (nI q))] → (∀ (H : Heap) (locs : List Loc) (ls : Array Slot), va_P D vc (wT cs ad I AN AI (fo (fun j X => up2 X (a + 11) j (-X (a + 11) j)) n j X)) H → va_D A (wT cs ad I AN AI (fo (fun j X => up2 X (a + 11) j (-X (a + 11) j)) n j X)) → va_S A s.heap H locs → lv_has ls 4 [(3, .int (nI (I 2 + 1))), (0, .ref (ad 2)), (1, .int (nI a)), (2, .int (nI q))] → W p l e rmX0_makeAboveZero s m args below meth c H locs 0 0 Q (F0 m 46 ls [])) → W p l e rmX0_makeAboveZero s m args below meth c H locs 0 0 Q (F0 m 15 ls []) := by
      intro Q n
      induction n with
      | zero =>
        intro j X H locs ls hn hP hD hS hl kx
        have hi : j = I 2 + 1 := by omega
        refine lv_iload_n hx hb dX0_makeAboveZero_15 rfl (lv_at hl 0 rfl) ?_
        refine lv_aload_n hx hb dX0_makeAboveZero_16 rfl (lv_at hl 1 rfl) ?_
        refine b_get (own := RX0) (C := RX0) (T := TX0) (N := 5) (ci := 0) (v := .int (nI (I 2))) hx hb hts usX0 hown hK hP 2 (by decide) rfl rfl 2 (by decide) (hts _ gw_91) rfl dX0_makeAboveZero_17 ?_
        refine b_gt_t (tgt := 46) hx hb dX0_makeAboveZero_20 (by decide) (by omega) (by omega) ?_
        rw [hi] at hl
        exact kx H locs ls hP hD hS (lv_sub hl [0, 1, 2, 3] rfl)
      | succ n ih =>
        intro j X H locs ls hn hP hD hS hl kx
        have hi : j < I 2 + 1 := by omega
        refine lv_iload_n hx hb dX0_makeAboveZero_15 rfl (lv_at hl 0 rfl) ?_
        refine lv_aload_n hx hb dX0_makeAboveZero_16 rfl (lv_at hl 1 rfl) ?_
        refine b_get (own := RX0) (C := RX0) (T := TX0) (N := 5) (ci := 0) (v := .int (nI (I 2))) hx hb hts usX0 hown hK hP 2 (by decide) rfl rfl 2 (by decide) (hts _ gw_91) rfl dX0_makeAboveZero_17 ?_
        refine b_gt_f (tgt := 46) hx hb dX0_makeAboveZero_20 (by decide) (by omega) (by omega) ?_
        refine lv_aload_n hx hb dX0_makeAboveZero_23 rfl (lv_at hl 1 rfl) ?_
        refine b_get (own := RX0) (C := RX0) (T := TX0) (N := 5) (ci := 0) (v := .ref (ad 4)) hx hb hts usX0 hown hK hP 2 (by decide) rfl rfl 0 (by decide) (hts _ gw_88) rfl dX0_makeAboveZero_24 ?_
        refine lv_iload_n hx hb dX0_makeAboveZero_27 rfl (lv_at hl 2 rfl) ?_
        refine tE_r hx hb hK hP (by omega) dX0_makeAboveZero_28 ?_
        refine lv_iload_n hx hb dX0_makeAboveZero_29 rfl (lv_at hl 0 rfl) ?_
        refine lv_aload_n hx hb dX0_makeAboveZero_30 rfl (lv_at hl 1 rfl) ?_
        refine b_get (own := RX0) (C := RX0) (T := TX0) (N := 5) (ci := 0) (v := .ref (ad 4)) hx hb hts usX0 hown hK hP 2 (by decide) rfl rfl 0 (by decide) (hts _ gw_88) rfl dX0_makeAboveZero_31 ?_
        refine lv_iload_n hx hb dX0_makeAboveZero_34 rfl (lv_at hl 2 rfl) ?_
        refine tE_r hx hb hK hP (by omega) dX0_makeAboveZero_35 ?_
        refine lv_iload_n hx hb dX0_makeAboveZero_36 rfl (lv_at hl 0 rfl) ?_
        refine tE_ld (i := a) hx hb hK hP (by omega) (by omega) dX0_makeAboveZero_37 ?_
        refine lv_lneg hx hb dX0_makeAboveZero_38 ?_
        refine tE_st (i := a) hx hb hK hP hD hS (by omega) (by omega) dX0_makeAboveZero_39 (fun H locs hP hD hS => ?_)
        refine b_iinc (lv' := [(3, .int (nI (j + 1))), (0, .ref (ad 2)), (1, .int (nI a)), (2, .int (nI q))]) hx hb dX0_makeAboveZero_40 hl (k := 0) rfl (by decide) rfl (fun ls hl => ?_)
        refine lv_goto (tgt := 15) hx hb dX0_makeAboveZero_43 (by decide) ?_
        exact ih (j + 1) _ H locs ls (by omega) hP hD hS (lv_sub hl [0, 1, 2, 3] rfl) kx
    refine lp15 _ (I 2 + 1) 0 AL _ _ ls (by omega) hP hD hS (lv_sub hl [0, 1, 2, 3] rfl) (fun H locs ls hP hD hS hl => ?_)
    exact g_vret hx hb hr hlocks (I, AN, AI, fo (fun j X => up2 X (a + 11) j (-X (a + 11) j)) (I 2 + 1) 0 AL) (by rw [if_pos h]) hK hP hD hS dX0_makeAboveZero_46

/-- the row's shared divisor, and the row without it -/
def shr (AL : Nat → Nat → Int64) (w a : Nat) : Int64 := fo (fun j z => cd64 z (AL (a + 11) j)) (w + 1) 0 0
def dvs (AL : Nat → Nat → Int64) (w a : Nat) : Nat → Nat → Int64 := if 1 < shr AL w a then fo (fun j X => up2 X (a + 11) j (X (a + 11) j / shr AL w a)) (w + 1) 0 AL else AL

abbrev rmX0_divideByShared : Room := { frames := 2, cells := 0, slots := 0, locals := 51 }
set_option maxHeartbeats 4000000 in
set_option maxRecDepth 100000 in
/-- divideByShared -/
theorem ctX0_divideByShared (l : Launch) (D : va_G) (cs : Nat → ClassId) (ad : Nat → Nat) (I : Nat → Nat) (AN : Nat → Nat → Nat) (AI : Nat → Nat → Int32) (AL : Nat → Nat → Int64) (sz : Nat) (a : Nat) (h2 : I 2 ≤ 4) (ha : a < 7) : Met l yX0_divideByShared (Cond.code yX0_divideByShared cX0_divideByShared 5 none :: GW) rmX0_divideByShared (va_Pc [.ref (ad 2), .int (nI a)] (gP D cs (wT cs ad I AN AI AL) sz)) (va_Qv (fun u : TS => u = (I, AN, AI, dvs AL (I 2) a)) (gB D cs (va_A (wT cs ad I AN AI AL) sz) (wTs cs ad)) (va_A (wT cs ad I AN AI AL) sz)) 0 0 (va_A (wT cs ad I AN AI AL) sz) := by
  refine Met.ofW (cc := cX0_divideByShared) (maxL := 5) (ret := none) (by decide) rfl ?_
  intro p e s m args below meth c s₁ B hml hv
  obtain ⟨rfl, hsz, hP, hK, hD0, hN⟩ := hv
  have hx := B.exec
  have hb := B.bytes
  have hr := B.returns
  have hts : ∀ w ∈ GW, w.before _ s = true := fun w h => atoms_spec (ws := Cond.code yX0_divideByShared cX0_divideByShared 5 none :: GW) B.pre w (List.mem_cons_of_mem _ h)
  have hown : s.vm.findClass RX0 = some m.cls := findClass_of_methodNamed B.named
  have hlocks := B.notSynchronized
  subst hsz
  have hD := hD0.self (sz := s.heap.size)
  generalize hAe : va_A (wT cs ad I AN AI AL) s.heap.size = A at hD ⊢
  have hA : ∀ q : Nat, s.heap.size ≤ q → A q := fun q h => by rw [← hAe]; exact Or.inr h
  have hS : va_S A s.heap s.heap [] := va_S.rf
  have hl := lv_entry [.ref (ad 2), .int (nI a)] (n := 5) (Nat.le_of_ble_eq_true rfl)
  rw [lg_entry_eq]
  generalize (lg_sl [.ref (ad 2), .int (nI a)] ++ List.replicate (5 - (lg_sl [.ref (ad 2), .int (nI a)]).length) Slot.unset).toArray = ls at hl ⊢
  have hl : lv_has ls 5 [(0, .ref (ad 2)), (1, .int (nI a))] := hl
  generalize hargs : ([.ref (ad 2), .int (nI a)] : List Value).toArray = args at *
  show W p l e rmX0_divideByShared s m args below meth c s.heap [] 0 0 _ (F0 m 0 ls [])
  refine lv_lconst (v := 0) hx hb dX0_divideByShared_0 (by decide) ?_
  refine lv_lstore_n (lv' := [(2, .long 0), (0, .ref (ad 2)), (1, .int (nI a))]) hx hb dX0_divideByShared_1 rfl hl (by decide) rfl (fun ls hl => ?_)
  refine lv_iconst (v := nI 0) hx hb dX0_divideByShared_2 (by decide) ?_
  refine lv_istore (lv' := [(4, .int (nI 0)), (2, .long 0), (0, .ref (ad 2)), (1, .int (nI a))]) hx hb dX0_divideByShared_3 hl (by decide) rfl (fun ls hl => ?_)
  have lp5 : ∀ (Q : State → Prop) (n j : Nat) (z : Int64) (H : Heap) (locs : List Loc) (ls : Array Slot), j + n = I 2 + 1 → va_P D vc (wT cs ad I AN AI AL) H → va_D A (wT cs ad I AN AI AL) → va_S A s.heap H locs → lv_has ls 5 [(4, .int (nI j)), (2, .long z), (0, .ref (ad 2)), (1, .int (nI a))] → (∀ (H : Heap) (locs : List Loc) (ls : Array Slot), va_P D vc (wT cs ad I AN AI AL) H → va_D A (wT cs ad I AN AI AL) → va_S A s.heap H locs → lv_has ls 5 [(4, .int (nI (I 2 + 1))), (2, .long (fo (fun j z => cd64 z (AL (a + 11) j)) n j z)), (0, .ref (ad 2)), (1, .int (nI a))] → W p l e rmX0_divideByShared s m args below meth c H locs 0 0 Q (F0 m 34 ls [])) → W p l e rmX0_divideByShared s m args below meth c H locs 0 0 Q (F0 m 5 ls []) := by
    intro Q n
    induction n with
    | zero =>
      intro j z H locs ls hn hP hD hS hl kx
      have hi : j = I 2 + 1 := by omega
      refine lv_iload hx hb dX0_divideByShared_5 (lv_at hl 0 rfl) ?_
      refine lv_aload_n hx hb dX0_divideByShared_7 rfl (lv_at hl 2 rfl) ?_
      refine b_get (own := RX0) (C := RX0) (T := TX0) (N := 5) (ci := 0) (v := .int (nI (I 2))) hx hb hts usX0 hown hK hP 2 (by decide) rfl rfl 2 (by decide) (hts _ gw_91) rfl dX0_divideByShared_8 ?_
      refine b_gt_t (tgt := 34) hx hb dX0_divideByShared_11 (by decide) (by omega) (by omega) ?_
      rw [hi] at hl
      exact kx H locs ls hP hD hS (lv_sub hl [0, 1, 2, 3] rfl)
    | succ n ih =>
      intro j z H locs ls hn hP hD hS hl kx
      have hi : j < I 2 + 1 := by omega
      refine lv_iload hx hb dX0_divideByShared_5 (lv_at hl 0 rfl) ?_
      refine lv_aload_n hx hb dX0_divideByShared_7 rfl (lv_at hl 2 rfl) ?_
      refine b_get (own := RX0) (C := RX0) (T := TX0) (N := 5) (ci := 0) (v := .int (nI (I 2))) hx hb hts usX0 hown hK hP 2 (by decide) rfl rfl 2 (by decide) (hts _ gw_91) rfl dX0_divideByShared_8 ?_
      refine b_gt_f (tgt := 34) hx hb dX0_divideByShared_11 (by decide) (by omega) (by omega) ?_
      refine lv_lload_n hx hb dX0_divideByShared_14 rfl (lv_at hl 1 rfl) ?_
      refine lv_aload_n hx hb dX0_divideByShared_15 rfl (lv_at hl 2 rfl) ?_
      refine b_get (own := RX0) (C := RX0) (T := TX0) (N := 5) (ci := 0) (v := .ref (ad 4)) hx hb hts usX0 hown hK hP 2 (by decide) rfl rfl 0 (by decide) (hts _ gw_88) rfl dX0_divideByShared_16 ?_
      refine lv_iload_n hx hb dX0_divideByShared_19 rfl (lv_at hl 3 rfl) ?_
      refine tE_r hx hb hK hP (by omega) dX0_divideByShared_20 ?_
      refine lv_iload hx hb dX0_divideByShared_21 (lv_at hl 0 rfl) ?_
      refine tE_ld (i := a) hx hb hK hP (by omega) (by omega) dX0_divideByShared_23 ?_
      refine g_calll (va_runSN (As := [.long z, .long (AL (a + 11) j)]) (rest := []) ⟨hx, hb, hml, hown, hts⟩ (ctX2_commonDivisor l D cs ad I AN AI AL _ z (AL (a + 11) j)) ⟨va_cnB 2 hts (gi_C gw_186) rfl rfl rfl (hN _ (by decide +kernel) : va_Nw (Cond.methodLinkNest "TriangularSystems$Elimination" 57 ⟨"TriangularSystems", "commonDivisor", "(JJ)J"⟩ "TriangularSystems") s) (hts _ gw_53) (by decide +kernel) ⟨Nat.le_of_ble_eq_true rfl, Nat.le_of_ble_eq_true rfl⟩, hts _ gw_185, trivial⟩ ⟨g_blind, g_pre hP hK hD hN⟩ rfl rfl hl.1 rfl (lv_room (Nat.le_of_ble_eq_true rfl)) dX0_divideByShared_24 ⟨Nat.zero_le _, Nat.zero_le _⟩) hD hS hA (fun r u H locs hw hP hD hS => ?_)
      obtain ⟨rfl, rfl⟩ := hw
      have hP : va_P D vc (wT cs ad I AN AI AL) H := hP
      have hD : va_D A (wT cs ad I AN AI AL) := hD
      refine lv_lstore_n (lv' := [(2, .long (cd64 z (AL (a + 11) j))), (4, .int (nI j)), (0, .ref (ad 2)), (1, .int (nI a))]) hx hb dX0_divideByShared_27 rfl hl (by decide) rfl (fun ls hl => ?_)
      refine b_iinc (lv' := [(4, .int (nI (j + 1))), (2, .long (cd64 z (AL (a + 11) j))), (0, .ref (ad 2)), (1, .int (nI a))]) hx hb dX0_divideByShared_28 hl (k := 1) rfl (by decide) rfl (fun ls hl => ?_)
      refine lv_goto (tgt := 5) hx hb dX0_divideByShared_31 (by decide) ?_
      exact ih (j + 1) _ H locs ls (by omega) hP hD hS (lv_sub hl [0, 1, 2, 3] rfl) kx
  refine lp5 _ (I 2 + 1) 0 0 _ _ ls (by omega) hP hD hS (lv_sub hl [0, 1, 2, 3] rfl) (fun H locs ls hP hD hS hl => ?_)
  generalize hsh : fo (fun j z => cd64 z (AL (a + 11) j)) (I 2 + 1) 0 0 = sh at hl
  refine lv_lload_n hx hb dX0_divideByShared_34 rfl (lv_at hl 1 rfl) ?_
  refine lv_lconst (v := 1) hx hb dX0_divideByShared_35 (by decide) ?_
  refine b_lcle (tgt := 71) hx hb dX0_divideByShared_36 dX0_divideByShared_37 (by decide) (fun h => ?_) (fun h => ?_)
  · exact g_vret hx hb hr hlocks (I, AN, AI, AL) (by rw [← hsh] at h; exact congrArg (fun z => (I, AN, AI, z)) (if_neg h).symm) hK hP hD hS dX0_divideByShared_71
  · refine lv_iconst (v := nI 0) hx hb dX0_divideByShared_40 (by decide) ?_
    refine lv_istore (lv' := [(4, .int (nI 0)), (2, .long sh), (0, .ref (ad 2)), (1, .int (nI a))]) hx hb dX0_divideByShared_41 hl (by decide) rfl (fun ls hl => ?_)
    have lp43 : ∀ (Q : State → Prop) (n j : Nat) (X : Nat → Nat → Int64) (H : Heap) (locs : List Loc) (ls : Array Slot), j + n = I 2 + 1 → va_P D vc (wT cs ad I AN AI X) H → va_D A (wT cs ad I AN AI X) → va_S A s.heap H locs → lv_has ls 5 [(4, .int (nI j)), (2, .long sh), (0, .ref (ad 2)), (1, .int (nI a))] → (∀ (H : Heap) (locs : List Loc) (ls : Array Slot), va_P D vc (wT cs ad I AN AI (fo (fun j X => up2 X (a + 11) j (X (a + 11) j / sh)) n j X)) H → va_D A (wT cs ad I AN AI (fo (fun j X => up2 X (a + 11) j (X (a + 11) j / sh)) n j X)) → va_S A s.heap H locs → lv_has ls 5 [(4, .int (nI (I 2 + 1))), (2, .long sh), (0, .ref (ad 2)), (1, .int (nI a))] → W p l e rmX0_divideByShared s m args below meth c H locs 0 0 Q (F0 m 71 ls [])) → W p l e rmX0_divideByShared s m args below meth c H locs 0 0 Q (F0 m 43 ls []) := by
      intro Q n
      induction n with
      | zero =>
        intro j X H locs ls hn hP hD hS hl kx
        have hi : j = I 2 + 1 := by omega
        refine lv_iload hx hb dX0_divideByShared_43 (lv_at hl 0 rfl) ?_
        refine lv_aload_n hx hb dX0_divideByShared_45 rfl (lv_at hl 2 rfl) ?_
        refine b_get (own := RX0) (C := RX0) (T := TX0) (N := 5) (ci := 0) (v := .int (nI (I 2))) hx hb hts usX0 hown hK hP 2 (by decide) rfl rfl 2 (by decide) (hts _ gw_91) rfl dX0_divideByShared_46 ?_
        refine b_gt_t (tgt := 71) hx hb dX0_divideByShared_49 (by decide) (by omega) (by omega) ?_
        rw [hi] at hl
        exact kx H locs ls hP hD hS (lv_sub hl [0, 1, 2, 3] rfl)
      | succ n ih =>
        intro j X H locs ls hn hP hD hS hl kx
        have hi : j < I 2 + 1 := by omega
        refine lv_iload hx hb dX0_divideByShared_43 (lv_at hl 0 rfl) ?_
        refine lv_aload_n hx hb dX0_divideByShared_45 rfl (lv_at hl 2 rfl) ?_
        refine b_get (own := RX0) (C := RX0) (T := TX0) (N := 5) (ci := 0) (v := .int (nI (I 2))) hx hb hts usX0 hown hK hP 2 (by decide) rfl rfl 2 (by decide) (hts _ gw_91) rfl dX0_divideByShared_46 ?_
        refine b_gt_f (tgt := 71) hx hb dX0_divideByShared_49 (by decide) (by omega) (by omega) ?_
        refine lv_aload_n hx hb dX0_divideByShared_52 rfl (lv_at hl 2 rfl) ?_
        refine b_get (own := RX0) (C := RX0) (T := TX0) (N := 5) (ci := 0) (v := .ref (ad 4)) hx hb hts usX0 hown hK hP 2 (by decide) rfl rfl 0 (by decide) (hts _ gw_88) rfl dX0_divideByShared_53 ?_
        refine lv_iload_n hx hb dX0_divideByShared_56 rfl (lv_at hl 3 rfl) ?_
        refine tE_r hx hb hK hP (by omega) dX0_divideByShared_57 ?_
        refine lv_iload hx hb dX0_divideByShared_58 (lv_at hl 0 rfl) ?_
        refine lv_dup2_11 hx hb dX0_divideByShared_60 rfl rfl ?_
        refine tE_ld (i := a) hx hb hK hP (by omega) (by omega) dX0_divideByShared_61 ?_
        refine lv_lload_n hx hb dX0_divideByShared_62 rfl (lv_at hl 1 rfl) ?_
        refine lv_ldiv hx hb dX0_divideByShared_63 (ne_of_gt1 h) ?_
        refine tE_st (i := a) hx hb hK hP hD hS (by omega) (by omega) dX0_divideByShared_64 (fun H locs hP hD hS => ?_)
        refine b_iinc (lv' := [(4, .int (nI (j + 1))), (2, .long sh), (0, .ref (ad 2)), (1, .int (nI a))]) hx hb dX0_divideByShared_65 hl (k := 0) rfl (by decide) rfl (fun ls hl => ?_)
        refine lv_goto (tgt := 43) hx hb dX0_divideByShared_68 (by decide) ?_
        exact ih (j + 1) _ H locs ls (by omega) hP hD hS (lv_sub hl [0, 1, 2, 3] rfl) kx
    refine lp43 _ (I 2 + 1) 0 AL _ _ ls (by omega) hP hD hS (lv_sub hl [0, 1, 2, 3] rfl) (fun H locs ls hP hD hS hl => ?_)
    exact g_vret hx hb hr hlocks (I, AN, AI, fo (fun j X => up2 X (a + 11) j (X (a + 11) j / sh)) (I 2 + 1) 0 AL) (by subst hsh; exact congrArg (fun z => (I, AN, AI, z)) (if_pos h).symm) hK hP hD hS dX0_divideByShared_71

/-- one row of clearColumn -/
def clr1 (w a q : Nat) (fac : Int64) (i : Nat) (X : Nat → Nat → Int64) : Nat → Nat → Int64 := if i ≠ a ∧ X (i + 11) q ≠ 0 then dvs (fo (fun j Y => up2 Y (i + 11) j (Y (i + 11) j * fac - Y (a + 11) j * X (i + 11) q)) (w + 1) 0 X) w i else X

abbrev rmX0_clearColumn : Room := { frames := 3, cells := 0, slots := 0, locals := 75 }
set_option maxHeartbeats 4000000 in
set_option maxRecDepth 100000 in
/-- clearColumn -/
theorem ctX0_clearColumn (l : Launch) (D : va_G) (cs : Nat → ClassId) (ad : Nat → Nat) (I : Nat → Nat) (AN : Nat → Nat → Nat) (AI : Nat → Nat → Int32) (AL : Nat → Nat → Int64) (sz : Nat) (a q : Nat) (h2 : I 2 ≤ 4) (h3 : I 3 ≤ 7) (ha : a < 7) (hq : q < 5) : Met l yX0_clearColumn (Cond.code yX0_clearColumn cX0_clearColumn 9 none :: GW) rmX0_clearColumn (va_Pc [.ref (ad 2), .int (nI a), .int (nI q)] (gP D cs (wT cs ad I AN AI AL) sz)) (va_Qv (fun u : TS => u = (I, AN, AI, fo (fun i X => clr1 (I 2) a q (AL (a + 11) q) i X) (I 3) 0 AL)) (gB D cs (va_A (wT cs ad I AN AI AL) sz) (wTs cs ad)) (va_A (wT cs ad I AN AI AL) sz)) 0 0 (va_A (wT cs ad I AN AI AL) sz) := by
  refine Met.ofW (cc := cX0_clearColumn) (maxL := 9) (ret := none) (by decide) rfl ?_
  intro p e s m args below meth c s₁ B hml hv
  obtain ⟨rfl, hsz, hP, hK, hD0, hN⟩ := hv
  have hx := B.exec
  have hb := B.bytes
  have hr := B.returns
  have hts : ∀ w ∈ GW, w.before _ s = true := fun w h => atoms_spec (ws := Cond.code yX0_clearColumn cX0_clearColumn 9 none :: GW) B.pre w (List.mem_cons_of_mem _ h)
  have hown : s.vm.findClass RX0 = some m.cls := findClass_of_methodNamed B.named
  have hlocks := B.notSynchronized
  subst hsz
  have hD := hD0.self (sz := s.heap.size)
  generalize hAe : va_A (wT cs ad I AN AI AL) s.heap.size = A at hD ⊢
  have hA : ∀ q : Nat, s.heap.size ≤ q → A q := fun q h => by rw [← hAe]; exact Or.inr h
  have hS : va_S A s.heap s.heap [] := va_S.rf
  have hl := lv_entry [.ref (ad 2), .int (nI a), .int (nI q)] (n := 9) (Nat.le_of_ble_eq_true rfl)
  rw [lg_entry_eq]
  generalize (lg_sl [.ref (ad 2), .int (nI a), .int (nI q)] ++ List.replicate (9 - (lg_sl [.ref (ad 2), .int (nI a), .int (nI q)]).length) Slot.unset).toArray = ls at hl ⊢
  have hl : lv_has ls 9 [(0, .ref (ad 2)), (1, .int (nI a)), (2, .int (nI q))] := hl
  generalize hargs : ([.ref (ad 2), .int (nI a), .int (nI q)] : List Value).toArray = args at *
  show W p l e rmX0_clearColumn s m args below meth c s.heap [] 0 0 _ (F0 m 0 ls [])
  refine lv_aload_n hx hb dX0_clearColumn_0 rfl (lv_at hl 0 rfl) ?_
  refine b_get (own := RX0) (C := RX0) (T := TX0) (N := 5) (ci := 0) (v := .ref (ad 4)) hx hb hts usX0 hown hK hP 2 (by decide) rfl rfl 0 (by decide) (hts _ gw_88) rfl dX0_clearColumn_1 ?_
  refine lv_iload_n hx hb dX0_clearColumn_4 rfl (lv_at hl 1 rfl) ?_
  refine tE_r hx hb hK hP (by omega) dX0_clearColumn_5 ?_
  refine lv_iload_n hx hb dX0_clearColumn_6 rfl (lv_at hl 2 rfl) ?_
  refine tE_ld (i := a) hx hb hK hP (by omega) (by omega) dX0_clearColumn_7 ?_
  refine lv_lstore_n (lv' := [(3, .long (AL (a + 11) q)), (0, .ref (ad 2)), (1, .int (nI a)), (2, .int (nI q))]) hx hb dX0_clearColumn_8 rfl hl (by decide) rfl (fun ls hl => ?_)
  refine lv_iconst (v := nI 0) hx hb dX0_clearColumn_9 (by decide) ?_
  refine lv_istore (lv' := [(5, .int (nI 0)), (3, .long (AL (a + 11) q)), (0, .ref (ad 2)), (1, .int (nI a)), (2, .int (nI q))]) hx hb dX0_clearColumn_10 hl (by decide) rfl (fun ls hl => ?_)
  generalize hfac : AL (a + 11) q = fac at hl
  have lp12 : ∀ (Q : State → Prop) (n i : Nat) (X : Nat → Nat → Int64) (H : Heap) (locs : List Loc) (ls : Array Slot), i + n = I 3 → va_P D vc (wT cs ad I AN AI X) H → va_D A (wT cs ad I AN AI X) → va_S A s.heap H locs → lv_has ls 9 [(5, .int (nI i)), (3, .long fac), (0, .ref (ad 2)), (1, .int (nI a)), (2, .int (nI q))] → (∀ (H : Heap) (locs : List Loc) (ls : Array Slot), va_P D vc (wT cs ad I AN AI (fo (fun i X => clr1 (I 2) a q fac i X) n i X)) H → va_D A (wT cs ad I AN AI (fo (fun i X => clr1 (I 2) a q fac i X) n i X)) → va_S A s.heap H locs → lv_has ls 9 [(5, .int (nI (I 3))), (3, .long fac), (0, .ref (ad 2)), (1, .int (nI a)), (2, .int (nI q))] → W p l e rmX0_clearColumn s m args below meth c H locs 0 0 Q (F0 m 110 ls [])) → W p l e rmX0_clearColumn s m args below meth c H locs 0 0 Q (F0 m 12 ls []) := by
    intro Q n
    induction n with
    | zero =>
      intro i X H locs ls hn hP hD hS hl kx
      have hi : i = I 3 := by omega
      refine lv_iload hx hb dX0_clearColumn_12 (lv_at hl 0 rfl) ?_
      refine lv_aload_n hx hb dX0_clearColumn_14 rfl (lv_at hl 2 rfl) ?_
      refine b_get (own := RX0) (C := RX0) (T := TX0) (N := 5) (ci := 0) (v := .int (nI (I 3))) hx hb hts usX0 hown hK hP 2 (by decide) rfl rfl 3 (by decide) (hts _ gw_92) rfl dX0_clearColumn_15 ?_
      refine b_ge_t (tgt := 110) hx hb dX0_clearColumn_18 (by decide) (by omega) (by omega) ?_
      rw [hi] at hl
      exact kx H locs ls hP hD hS (lv_sub hl [0, 1, 2, 3, 4] rfl)
    | succ n ih =>
      intro i X H locs ls hn hP hD hS hl kx
      have hi : i < I 3 := by omega
      refine lv_iload hx hb dX0_clearColumn_12 (lv_at hl 0 rfl) ?_
      refine lv_aload_n hx hb dX0_clearColumn_14 rfl (lv_at hl 2 rfl) ?_
      refine b_get (own := RX0) (C := RX0) (T := TX0) (N := 5) (ci := 0) (v := .int (nI (I 3))) hx hb hts usX0 hown hK hP 2 (by decide) rfl rfl 3 (by decide) (hts _ gw_92) rfl dX0_clearColumn_15 ?_
      refine b_ge_f (tgt := 110) hx hb dX0_clearColumn_18 (by decide) (by omega) (by omega) ?_
      refine lv_aload_n hx hb dX0_clearColumn_21 rfl (lv_at hl 2 rfl) ?_
      refine b_get (own := RX0) (C := RX0) (T := TX0) (N := 5) (ci := 0) (v := .ref (ad 4)) hx hb hts usX0 hown hK hP 2 (by decide) rfl rfl 0 (by decide) (hts _ gw_88) rfl dX0_clearColumn_22 ?_
      refine lv_iload hx hb dX0_clearColumn_25 (lv_at hl 0 rfl) ?_
      refine tE_r hx hb hK hP (by omega) dX0_clearColumn_27 ?_
      refine lv_iload_n hx hb dX0_clearColumn_28 rfl (lv_at hl 4 rfl) ?_
      refine tE_ld (i := i) hx hb hK hP (by omega) (by omega) dX0_clearColumn_29 ?_
      refine lv_lstore (lv' := [(6, .long (X (i + 11) q)), (5, .int (nI i)), (3, .long fac), (0, .ref (ad 2)), (1, .int (nI a)), (2, .int (nI q))]) hx hb dX0_clearColumn_30 hl (by decide) rfl (fun ls hl => ?_)
      refine lv_iload hx hb dX0_clearColumn_32 (lv_at hl 1 rfl) ?_
      refine lv_iload_n hx hb dX0_clearColumn_34 rfl (lv_at hl 4 rfl) ?_
      by_cases hia : i = a
      · refine b_eq_t (tgt := 104) hx hb dX0_clearColumn_35 (by decide) (hia)  ?_
        refine b_iinc (lv' := [(5, .int (nI (i + 1))), (6, .long (X (i + 11) q)), (3, .long fac), (0, .ref (ad 2)), (1, .int (nI a)), (2, .int (nI q))]) hx hb dX0_clearColumn_104 hl (k := 1) rfl (by decide) rfl (fun ls hl => ?_)
        refine lv_goto (tgt := 12) hx hb dX0_clearColumn_107 (by decide) ?_
        have e1 : clr1 (I 2) a q fac i X = X := if_neg (fun z => z.1 hia)
        rw [← e1] at hP hD
        exact ih (i + 1) _ H locs ls (by omega) hP hD hS (lv_sub hl [0, 2, 3, 4, 5] rfl) kx
      · refine b_eq_f (tgt := 104) hx hb dX0_clearColumn_35 (by decide) (hia) (by omega) (by omega) ?_
        refine lv_lload hx hb dX0_clearColumn_38 (lv_at hl 0 rfl) ?_
        refine lv_lconst (v := 0) hx hb dX0_clearColumn_40 (by decide) ?_
        refine b_lceq (tgt := 104) hx hb dX0_clearColumn_41 dX0_clearColumn_42 (by decide) (fun h => ?_) (fun h => ?_)
        · refine b_iinc (lv' := [(5, .int (nI (i + 1))), (6, .long (X (i + 11) q)), (3, .long fac), (0, .ref (ad 2)), (1, .int (nI a)), (2, .int (nI q))]) hx hb dX0_clearColumn_104 hl (k := 1) rfl (by decide) rfl (fun ls hl => ?_)
          refine lv_goto (tgt := 12) hx hb dX0_clearColumn_107 (by decide) ?_
          have e1 : clr1 (I 2) a q fac i X = X := if_neg (fun z => z.2 h)
          rw [← e1] at hP hD
          exact ih (i + 1) _ H locs ls (by omega) hP hD hS (lv_sub hl [0, 2, 3, 4, 5] rfl) kx
        · refine lv_iconst (v := nI 0) hx hb dX0_clearColumn_45 (by decide) ?_
          refine lv_istore (lv' := [(8, .int (nI 0)), (6, .long (X (i + 11) q)), (5, .int (nI i)), (3, .long fac), (0, .ref (ad 2)), (1, .int (nI a)), (2, .int (nI q))]) hx hb dX0_clearColumn_46 hl (by decide) rfl (fun ls hl => ?_)
          have lp48 : ∀ (Q : State → Prop) (n j : Nat) (Y : Nat → Nat → Int64) (H : Heap) (locs : List Loc) (ls : Array Slot), j + n = I 2 + 1 → va_P D vc (wT cs ad I AN AI Y) H → va_D A (wT cs ad I AN AI Y) → va_S A s.heap H locs → lv_has ls 9 [(8, .int (nI j)), (6, .long (X (i + 11) q)), (5, .int (nI i)), (3, .long fac), (0, .ref (ad 2)), (1, .int (nI a)), (2, .int (nI q))] → (∀ (H : Heap) (locs : List Loc) (ls : Array Slot), va_P D vc (wT cs ad I AN AI (fo (fun j Y => up2 Y (i + 11) j (Y (i + 11) j * fac - Y (a + 11) j * X (i + 11) q)) n j Y)) H → va_D A (wT cs ad I AN AI (fo (fun j Y => up2 Y (i + 11) j (Y (i + 11) j * fac - Y (a + 11) j * X (i + 11) q)) n j Y)) → va_S A s.heap H locs → lv_has ls 9 [(8, .int (nI (I 2 + 1))), (6, .long (X (i + 11) q)), (5, .int (nI i)), (3, .long fac), (0, .ref (ad 2)), (1, .int (nI a)), (2, .int (nI q))] → W p l e rmX0_clearColumn s m args below meth c H locs 0 0 Q (F0 m 98 ls [])) → W p l e rmX0_clearColumn s m args below meth c H locs 0 0 Q (F0 m 48 ls []) := by
            intro Q n
            induction n with
            | zero =>
              intro j Y H locs ls hn hP hD hS hl kx
              have hi : j = I 2 + 1 := by omega
              refine lv_iload hx hb dX0_clearColumn_48 (lv_at hl 0 rfl) ?_
              refine lv_aload_n hx hb dX0_clearColumn_50 rfl (lv_at hl 4 rfl) ?_
              refine b_get (own := RX0) (C := RX0) (T := TX0) (N := 5) (ci := 0) (v := .int (nI (I 2))) hx hb hts usX0 hown hK hP 2 (by decide) rfl rfl 2 (by decide) (hts _ gw_91) rfl dX0_clearColumn_51 ?_
              refine b_gt_t (tgt := 98) hx hb dX0_clearColumn_54 (by decide) (by omega) (by omega) ?_
              rw [hi] at hl
              exact kx H locs ls hP hD hS (lv_sub hl [0, 1, 2, 3, 4, 5, 6] rfl)
            | succ n ih =>
              intro j Y H locs ls hn hP hD hS hl kx
              have hi : j < I 2 + 1 := by omega
              refine lv_iload hx hb dX0_clearColumn_48 (lv_at hl 0 rfl) ?_
              refine lv_aload_n hx hb dX0_clearColumn_50 rfl (lv_at hl 4 rfl) ?_
              refine b_get (own := RX0) (C := RX0) (T := TX0) (N := 5) (ci := 0) (v := .int (nI (I 2))) hx hb hts usX0 hown hK hP 2 (by decide) rfl rfl 2 (by decide) (hts _ gw_91) rfl dX0_clearColumn_51 ?_
              refine b_gt_f (tgt := 98) hx hb dX0_clearColumn_54 (by decide) (by omega) (by omega) ?_
              refine lv_aload_n hx hb dX0_clearColumn_57 rfl (lv_at hl 4 rfl) ?_
              refine b_get (own := RX0) (C := RX0) (T := TX0) (N := 5) (ci := 0) (v := .ref (ad 4)) hx hb hts usX0 hown hK hP 2 (by decide) rfl rfl 0 (by decide) (hts _ gw_88) rfl dX0_clearColumn_58 ?_
              refine lv_iload hx hb dX0_clearColumn_61 (lv_at hl 2 rfl) ?_
              refine tE_r hx hb hK hP (by omega) dX0_clearColumn_63 ?_
              refine lv_iload hx hb dX0_clearColumn_64 (lv_at hl 0 rfl) ?_
              refine lv_aload_n hx hb dX0_clearColumn_66 rfl (lv_at hl 4 rfl) ?_
              refine b_get (own := RX0) (C := RX0) (T := TX0) (N := 5) (ci := 0) (v := .ref (ad 4)) hx hb hts usX0 hown hK hP 2 (by decide) rfl rfl 0 (by decide) (hts _ gw_88) rfl dX0_clearColumn_67 ?_
              refine lv_iload hx hb dX0_clearColumn_70 (lv_at hl 2 rfl) ?_
              refine tE_r hx hb hK hP (by omega) dX0_clearColumn_72 ?_
              refine lv_iload hx hb dX0_clearColumn_73 (lv_at hl 0 rfl) ?_
              refine tE_ld (i := i) hx hb hK hP (by omega) (by omega) dX0_clearColumn_75 ?_
              refine lv_lload_n hx hb dX0_clearColumn_76 rfl (lv_at hl 3 rfl) ?_
              refine lv_lmul hx hb dX0_clearColumn_77 ?_
              refine lv_aload_n hx hb dX0_clearColumn_78 rfl (lv_at hl 4 rfl) ?_
              refine b_get (own := RX0) (C := RX0) (T := TX0) (N := 5) (ci := 0) (v := .ref (ad 4)) hx hb hts usX0 hown hK hP 2 (by decide) rfl rfl 0 (by decide) (hts _ gw_88) rfl dX0_clearColumn_79 ?_
              refine lv_iload_n hx hb dX0_clearColumn_82 rfl (lv_at hl 5 rfl) ?_
              refine tE_r hx hb hK hP (by omega) dX0_clearColumn_83 ?_
              refine lv_iload hx hb dX0_clearColumn_84 (lv_at hl 0 rfl) ?_
              refine tE_ld (i := a) hx hb hK hP (by omega) (by omega) dX0_clearColumn_86 ?_
              refine lv_lload hx hb dX0_clearColumn_87 (lv_at hl 1 rfl) ?_
              refine lv_lmul hx hb dX0_clearColumn_89 ?_
              refine lv_lsub hx hb dX0_clearColumn_90 ?_
              refine tE_st (i := i) hx hb hK hP hD hS (by omega) (by omega) dX0_clearColumn_91 (fun H locs hP hD hS => ?_)
              refine b_iinc (lv' := [(8, .int (nI (j + 1))), (6, .long (X (i + 11) q)), (5, .int (nI i)), (3, .long fac), (0, .ref (ad 2)), (1, .int (nI a)), (2, .int (nI q))]) hx hb dX0_clearColumn_92 hl (k := 0) rfl (by decide) rfl (fun ls hl => ?_)
              refine lv_goto (tgt := 48) hx hb dX0_clearColumn_95 (by decide) ?_
              exact ih (j + 1) _ H locs ls (by omega) hP hD hS (lv_sub hl [0, 1, 2, 3, 4, 5, 6] rfl) kx
          refine lp48 _ (I 2 + 1) 0 X _ _ ls (by omega) hP hD hS (lv_sub hl [0, 1, 2, 3, 4, 5, 6] rfl) (fun H locs ls hP hD hS hl => ?_)
          refine lv_aload_n hx hb dX0_clearColumn_98 rfl (lv_at hl 4 rfl) ?_
          refine lv_iload hx hb dX0_clearColumn_99 (lv_at hl 2 rfl) ?_
          refine g_callv (va_runV (As := [.int (nI i)]) (rest := []) ⟨hx, hb, hml, hown, hts⟩ (ctX0_divideByShared l D cs ad I AN AI (fo (fun j Y => up2 Y (i + 11) j (Y (i + 11) j * fac - Y (a + 11) j * X (i + 11) q)) (I 2 + 1) 0 X) _ i h2 (by omega)) (cwV 1 hts (gi_V gw_180 gw_182 gw_7 gw_55 gw_183) rfl rfl rfl (by decide +kernel) ⟨Nat.le_of_ble_eq_true rfl, Nat.le_of_ble_eq_true rfl⟩) ⟨g_blind, va_recv hK hP (ci := 0) (q0 := 2) rfl (wm_at (by decide) rfl), g_pre hP hK hD hN⟩ rfl rfl hl.1 rfl (lv_room (Nat.le_of_ble_eq_true rfl)) dX0_clearColumn_101 ⟨Nat.zero_le _, Nat.zero_le _⟩) hD hS hA (fun u H locs hw hP hD hS => ?_)
          obtain rfl := hw
          have hP : va_P D vc (wT cs ad I AN AI (dvs (fo (fun j Y => up2 Y (i + 11) j (Y (i + 11) j * fac - Y (a + 11) j * X (i + 11) q)) (I 2 + 1) 0 X) (I 2) i)) H := hP
          have hD : va_D A (wT cs ad I AN AI (dvs (fo (fun j Y => up2 Y (i + 11) j (Y (i + 11) j * fac - Y (a + 11) j * X (i + 11) q)) (I 2 + 1) 0 X) (I 2) i)) := hD
          refine b_iinc (lv' := [(5, .int (nI (i + 1))), (8, .int (nI (I 2 + 1))), (6, .long (X (i + 11) q)), (3, .long fac), (0, .ref (ad 2)), (1, .int (nI a)), (2, .int (nI q))]) hx hb dX0_clearColumn_104 hl (k := 2) rfl (by decide) rfl (fun ls hl => ?_)
          refine lv_goto (tgt := 12) hx hb dX0_clearColumn_107 (by decide) ?_
          have e1 : clr1 (I 2) a q fac i X = dvs (fo (fun j Y => up2 Y (i + 11) j (Y (i + 11) j * fac - Y (a + 11) j * X (i + 11) q)) (I 2 + 1) 0 X) (I 2) i := if_pos ⟨hia, h⟩
          rw [← e1] at hP hD
          exact ih (i + 1) _ H locs ls (by omega) hP hD hS (lv_sub hl [0, 3, 4, 5, 6] rfl) kx
  refine lp12 _ (I 3) 0 AL _ _ ls (by omega) hP hD hS (lv_sub hl [0, 1, 2, 3, 4] rfl) (fun H locs ls hP hD hS hl => ?_)
  subst hfac
  exact g_vret hx hb hr hlocks (I, AN, AI, fo (fun i X => clr1 (I 2) a q (AL (a + 11) q) i X) (I 3) 0 AL) (rfl) hK hP hD hS dX0_clearColumn_110

abbrev rmX0_agrees : Room := { frames := 0, cells := 0, slots := 0, locals := 0 }
set_option maxHeartbeats 4000000 in
set_option maxRecDepth 100000 in
/-- agrees -/
theorem ctX0_agrees (l : Launch) (D : va_G) (cs : Nat → ClassId) (ad : Nat → Nat) (I : Nat → Nat) (AN : Nat → Nat → Nat) (AI : Nat → Nat → Int32) (AL : Nat → Nat → Int64) (sz : Nat)  (h2 : I 2 ≤ 4) (h3 : I 3 ≤ 7) (h43 : I 4 ≤ I 3) : Met l yX0_agrees (Cond.code yX0_agrees cX0_agrees 2 (some FieldType.boolean) :: GW) rmX0_agrees (va_Pc [.ref (ad 2)] (gP D cs (wT cs ad I AN AI AL) sz)) (va_Qi (fun (r : Int32) (u : TS) => u = (I, AN, AI, AL) ∧ r = bz (fnd (fun k => AL (k + 11) (I 2) ≠ 0) (I 3 - I 4) (I 4)).isNone) (gB D cs (va_A (wT cs ad I AN AI AL) sz) (wTs cs ad)) (va_A (wT cs ad I AN AI AL) sz)) 0 0 (va_A (wT cs ad I AN AI AL) sz) := by
  refine Met.ofW (cc := cX0_agrees) (maxL := 2) (ret := (some FieldType.boolean)) (by decide) rfl ?_
  intro p e s m args below meth c s₁ B hml hv
  obtain ⟨rfl, hsz, hP, hK, hD0, hN⟩ := hv
  have hx := B.exec
  have hb := B.bytes
  have hr := B.returns
  have hts : ∀ w ∈ GW, w.before _ s = true := fun w h => atoms_spec (ws := Cond.code yX0_agrees cX0_agrees 2 (some FieldType.boolean) :: GW) B.pre w (List.mem_cons_of_mem _ h)
  have hown : s.vm.findClass RX0 = some m.cls := findClass_of_methodNamed B.named
  have hlocks := B.notSynchronized
  subst hsz
  have hD := hD0.self (sz := s.heap.size)
  generalize hAe : va_A (wT cs ad I AN AI AL) s.heap.size = A at hD ⊢
  have hA : ∀ q : Nat, s.heap.size ≤ q → A q := fun q h => by rw [← hAe]; exact Or.inr h
  have hS : va_S A s.heap s.heap [] := va_S.rf
  have hl := lv_entry [.ref (ad 2)] (n := 2) (Nat.le_of_ble_eq_true rfl)
  rw [lg_entry_eq]
  generalize (lg_sl [.ref (ad 2)] ++ List.replicate (2 - (lg_sl [.ref (ad 2)]).length) Slot.unset).toArray = ls at hl ⊢
  have hl : lv_has ls 2 [(0, .ref (ad 2))] := hl
  generalize hargs : ([.ref (ad 2)] : List Value).toArray = args at *
  show W p l e rmX0_agrees s m args below meth c s.heap [] 0 0 _ (F0 m 0 ls [])
  refine lv_aload_n hx hb dX0_agrees_0 rfl (lv_at hl 0 rfl) ?_
  refine b_get (own := RX0) (C := RX0) (T := TX0) (N := 5) (ci := 0) (v := .int (nI (I 4))) hx hb hts usX0 hown hK hP 2 (by decide) rfl rfl 4 (by decide) (hts _ gw_93) rfl dX0_agrees_1 ?_
  refine lv_istore_n (lv' := [(1, .int (nI (I 4))), (0, .ref (ad 2))]) hx hb dX0_agrees_4 rfl hl (by decide) rfl (fun ls hl => ?_)
  have lp5 : ∀ (n k : Nat) (H : Heap) (locs : List Loc) (ls : Array Slot), k + n = I 3 → va_P D vc (wT cs ad I AN AI AL) H → va_D A (wT cs ad I AN AI AL) → va_S A s.heap H locs → lv_has ls 2 [(1, .int (nI k)), (0, .ref (ad 2))] → W p l e rmX0_agrees s m args below meth c H locs 0 0 (MQ below (va_Qi (fun (r : Int32) (u : TS) => u = (I, AN, AI, AL) ∧ r = bz (fnd (fun k => AL (k + 11) (I 2) ≠ 0) n k).isNone) (gB D cs A (wTs cs ad)) A) args s 0 0 A) (F0 m 5 ls []) := by
    intro n
    induction n with
    | zero =>
      intro k H locs ls hn hP hD hS hl
      have hi : k = I 3 := by omega
      refine lv_iload_n hx hb dX0_agrees_5 rfl (lv_at hl 0 rfl) ?_
      refine lv_aload_n hx hb dX0_agrees_6 rfl (lv_at hl 1 rfl) ?_
      refine b_get (own := RX0) (C := RX0) (T := TX0) (N := 5) (ci := 0) (v := .int (nI (I 3))) hx hb hts usX0 hown hK hP 2 (by decide) rfl rfl 3 (by decide) (hts _ gw_92) rfl dX0_agrees_7 ?_
      refine b_ge_t (tgt := 37) hx hb dX0_agrees_10 (by decide) (by omega) (by omega) ?_
      refine lv_iconst (v := nI 1) hx hb dX0_agrees_37 (by decide) ?_
      exact g_zret hx hb hr hlocks rfl (I, AN, AI, AL) (⟨rfl, rfl⟩) hK hP hD hS dX0_agrees_38
    | succ n ih =>
      intro k H locs ls hn hP hD hS hl
      have hi : k < I 3 := by omega
      refine lv_iload_n hx hb dX0_agrees_5 rfl (lv_at hl 0 rfl) ?_
      refine lv_aload_n hx hb dX0_agrees_6 rfl (lv_at hl 1 rfl) ?_
      refine b_get (own := RX0) (C := RX0) (T := TX0) (N := 5) (ci := 0) (v := .int (nI (I 3))) hx hb hts usX0 hown hK hP 2 (by decide) rfl rfl 3 (by decide) (hts _ gw_92) rfl dX0_agrees_7 ?_
      refine b_ge_f (tgt := 37) hx hb dX0_agrees_10 (by decide) (by omega) (by omega) ?_
      refine lv_aload_n hx hb dX0_agrees_13 rfl (lv_at hl 1 rfl) ?_
      refine b_get (own := RX0) (C := RX0) (T := TX0) (N := 5) (ci := 0) (v := .ref (ad 4)) hx hb hts usX0 hown hK hP 2 (by decide) rfl rfl 0 (by decide) (hts _ gw_88) rfl dX0_agrees_14 ?_
      refine lv_iload_n hx hb dX0_agrees_17 rfl (lv_at hl 0 rfl) ?_
      refine tE_r hx hb hK hP (by omega) dX0_agrees_18 ?_
      refine lv_aload_n hx hb dX0_agrees_19 rfl (lv_at hl 1 rfl) ?_
      refine b_get (own := RX0) (C := RX0) (T := TX0) (N := 5) (ci := 0) (v := .int (nI (I 2))) hx hb hts usX0 hown hK hP 2 (by decide) rfl rfl 2 (by decide) (hts _ gw_91) rfl dX0_agrees_20 ?_
      refine tE_ld (i := k) hx hb hK hP (by omega) (by omega) dX0_agrees_23 ?_
      refine lv_lconst (v := 0) hx hb dX0_agrees_24 (by decide) ?_
      refine b_lceq (tgt := 31) hx hb dX0_agrees_25 dX0_agrees_26 (by decide) (fun h => ?_) (fun h => ?_)
      · refine b_iinc (lv' := [(1, .int (nI (k + 1))), (0, .ref (ad 2))]) hx hb dX0_agrees_31 hl (k := 0) rfl (by decide) rfl (fun ls hl => ?_)
        refine lv_goto (tgt := 5) hx hb dX0_agrees_34 (by decide) ?_
        rw [fnd_f (f := fun k => AL (k + 11) (I 2) ≠ 0) (fun q => q h)]
        exact ih (k + 1) H locs ls (by omega) hP hD hS (lv_sub hl [0, 1] rfl)
      · refine lv_iconst (v := nI 0) hx hb dX0_agrees_29 (by decide) ?_
        exact g_zret hx hb hr hlocks rfl (I, AN, AI, AL) (⟨rfl, by rw [fnd_t (f := fun k => AL (k + 11) (I 2) ≠ 0) h]; rfl⟩) hK hP hD hS dX0_agrees_30
  exact lp5 ((I 3) - (I 4)) (I 4) _ _ ls (by omega) hP hD hS (lv_sub hl [0, 1] rfl)

abbrev rmX0_rowDeciding : Room := { frames := 0, cells := 0, slots := 0, locals := 0 }
set_option maxHeartbeats 4000000 in
set_option maxRecDepth 100000 in
/-- rowDeciding -/
theorem ctX0_rowDeciding (l : Launch) (D : va_G) (cs : Nat → ClassId) (ad : Nat → Nat) (I : Nat → Nat) (AN : Nat → Nat → Nat) (AI : Nat → Nat → Int32) (AL : Nat → Nat → Int64) (sz : Nat) (q : Nat) (h4 : I 4 ≤ 7) (hdc : ∀ k, k < 7 → AN 5 k < 2 ^ 31) (hq : q < 2 ^ 31) : Met l yX0_rowDeciding (Cond.code yX0_rowDeciding cX0_rowDeciding 3 (some FieldType.int) :: GW) rmX0_rowDeciding (va_Pc [.ref (ad 2), .int (nI q)] (gP D cs (wT cs ad I AN AI AL) sz)) (va_Qi (fun (r : Int32) (u : TS) => u = (I, AN, AI, AL) ∧ r = enc (rdec AN (I 4) q)) (gB D cs (va_A (wT cs ad I AN AI AL) sz) (wTs cs ad)) (va_A (wT cs ad I AN AI AL) sz)) 0 0 (va_A (wT cs ad I AN AI AL) sz) := by
  refine Met.ofW (cc := cX0_rowDeciding) (maxL := 3) (ret := (some FieldType.int)) (by decide) rfl ?_
  intro p e s m args below meth c s₁ B hml hv
  obtain ⟨rfl, hsz, hP, hK, hD0, hN⟩ := hv
  have hx := B.exec
  have hb := B.bytes
  have hr := B.returns
  have hts : ∀ w ∈ GW, w.before _ s = true := fun w h => atoms_spec (ws := Cond.code yX0_rowDeciding cX0_rowDeciding 3 (some FieldType.int) :: GW) B.pre w (List.mem_cons_of_mem _ h)
  have hown : s.vm.findClass RX0 = some m.cls := findClass_of_methodNamed B.named
  have hlocks := B.notSynchronized
  subst hsz
  have hD := hD0.self (sz := s.heap.size)
  generalize hAe : va_A (wT cs ad I AN AI AL) s.heap.size = A at hD ⊢
  have hA : ∀ q : Nat, s.heap.size ≤ q → A q := fun q h => by rw [← hAe]; exact Or.inr h
  have hS : va_S A s.heap s.heap [] := va_S.rf
  have hl := lv_entry [.ref (ad 2), .int (nI q)] (n := 3) (Nat.le_of_ble_eq_true rfl)
  rw [lg_entry_eq]
  generalize (lg_sl [.ref (ad 2), .int (nI q)] ++ List.replicate (3 - (lg_sl [.ref (ad 2), .int (nI q)]).length) Slot.unset).toArray = ls at hl ⊢
  have hl : lv_has ls 3 [(0, .ref (ad 2)), (1, .int (nI q))] := hl
  generalize hargs : ([.ref (ad 2), .int (nI q)] : List Value).toArray = args at *
  show W p l e rmX0_rowDeciding s m args below meth c s.heap [] 0 0 _ (F0 m 0 ls [])
  refine lv_iconst (v := nI 0) hx hb dX0_rowDeciding_0 (by decide) ?_
  refine lv_istore_n (lv' := [(2, .int (nI 0)), (0, .ref (ad 2)), (1, .int (nI q))]) hx hb dX0_rowDeciding_1 rfl hl (by decide) rfl (fun ls hl => ?_)
  have lp2 : ∀ (n k : Nat) (H : Heap) (locs : List Loc) (ls : Array Slot), k + n = I 4 → va_P D vc (wT cs ad I AN AI AL) H → va_D A (wT cs ad I AN AI AL) → va_S A s.heap H locs → lv_has ls 3 [(2, .int (nI k)), (0, .ref (ad 2)), (1, .int (nI q))] → W p l e rmX0_rowDeciding s m args below meth c H locs 0 0 (MQ below (va_Qi (fun (r : Int32) (u : TS) => u = (I, AN, AI, AL) ∧ r = enc (fnd (fun k => AN 5 k = q) n k)) (gB D cs A (wTs cs ad)) A) args s 0 0 A) (F0 m 2 ls []) := by
    intro n
    induction n with
    | zero =>
      intro k H locs ls hn hP hD hS hl
      have hi : k = I 4 := by omega
      refine lv_iload_n hx hb dX0_rowDeciding_2 rfl (lv_at hl 0 rfl) ?_
      refine lv_aload_n hx hb dX0_rowDeciding_3 rfl (lv_at hl 1 rfl) ?_
      refine b_get (own := RX0) (C := RX0) (T := TX0) (N := 5) (ci := 0) (v := .int (nI (I 4))) hx hb hts usX0 hown hK hP 2 (by decide) rfl rfl 4 (by decide) (hts _ gw_93) rfl dX0_rowDeciding_4 ?_
      refine b_ge_t (tgt := 28) hx hb dX0_rowDeciding_7 (by decide) (by omega) (by omega) ?_
      refine lv_iconst (v := -1) hx hb dX0_rowDeciding_28 (by decide) ?_
      exact g_iret hx hb hr hlocks (I, AN, AI, AL) (⟨rfl, rfl⟩) hK hP hD hS dX0_rowDeciding_29
    | succ n ih =>
      intro k H locs ls hn hP hD hS hl
      have hi : k < I 4 := by omega
      refine lv_iload_n hx hb dX0_rowDeciding_2 rfl (lv_at hl 0 rfl) ?_
      refine lv_aload_n hx hb dX0_rowDeciding_3 rfl (lv_at hl 1 rfl) ?_
      refine b_get (own := RX0) (C := RX0) (T := TX0) (N := 5) (ci := 0) (v := .int (nI (I 4))) hx hb hts usX0 hown hK hP 2 (by decide) rfl rfl 4 (by decide) (hts _ gw_93) rfl dX0_rowDeciding_4 ?_
      refine b_ge_f (tgt := 28) hx hb dX0_rowDeciding_7 (by decide) (by omega) (by omega) ?_
      refine lv_aload_n hx hb dX0_rowDeciding_10 rfl (lv_at hl 1 rfl) ?_
      refine b_get (own := RX0) (C := RX0) (T := TX0) (N := 5) (ci := 0) (v := .ref (ad 5)) hx hb hts usX0 hown hK hP 2 (by decide) rfl rfl 1 (by decide) (hts _ gw_90) rfl dX0_rowDeciding_11 ?_
      refine lv_iload_n hx hb dX0_rowDeciding_14 rfl (lv_at hl 0 rfl) ?_
      refine tD_ld hx hb hK hP (by omega) dX0_rowDeciding_15 ?_
      refine lv_iload_n hx hb dX0_rowDeciding_16 rfl (lv_at hl 2 rfl) ?_
      have hv := hdc k (by omega)
      by_cases h : AN 5 k = q
      · refine b_ne_f (tgt := 22) hx hb dX0_rowDeciding_17 (by decide) (h)  ?_
        refine lv_iload_n hx hb dX0_rowDeciding_20 rfl (lv_at hl 0 rfl) ?_
        exact g_iret hx hb hr hlocks (I, AN, AI, AL) (⟨rfl, by rw [fnd_t (f := fun k => AN 5 k = q) h]; rfl⟩) hK hP hD hS dX0_rowDeciding_21
      · refine b_ne_t (tgt := 22) hx hb dX0_rowDeciding_17 (by decide) (h) (by omega) (by omega) ?_
        refine b_iinc (lv' := [(2, .int (nI (k + 1))), (0, .ref (ad 2)), (1, .int (nI q))]) hx hb dX0_rowDeciding_22 hl (k := 0) rfl (by decide) rfl (fun ls hl => ?_)
        refine lv_goto (tgt := 2) hx hb dX0_rowDeciding_25 (by decide) ?_
        rw [fnd_f (f := fun k => AN 5 k = q) h]
        exact ih (k + 1) H locs ls (by omega) hP hD hS (lv_sub hl [0, 1, 2] rfl)
  exact lp2 ((I 4) - 0) 0 _ _ ls (by omega) hP hD hS (lv_sub hl [0, 1, 2] rfl)
