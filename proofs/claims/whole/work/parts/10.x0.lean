abbrev rmX0_begin : Room := { frames := 1, cells := 0, slots := 0, locals := 21 }
set_option maxHeartbeats 4000000 in
set_option maxRecDepth 100000 in
/-- begin: the rows of so many unknowns and so many rows are 0 -/
theorem ctX0_begin (l : Launch) (D : va_G) (cs : Nat → ClassId) (ad : Nat → Nat) (I : Nat → Nat) (AN : Nat → Nat → Nat) (AI : Nat → Nat → Int32) (AL : Nat → Nat → Int64) (sz : Nat) (a b : Nat) (ha : a ≤ 4) (hb7 : b ≤ 7) : Met l yX0_begin (Cond.code yX0_begin cX0_begin 5 none :: GW) rmX0_begin (va_Pc [.ref (ad 2), .int (nI a), .int (nI b)] (gP D cs (wT cs ad I AN AI AL) sz)) (va_Qv (fun u : TS => u = (up1 (up1 (up1 I 2 a) 3 b) 4 0, AN, AI, fo (fun i X => fo (fun j X => up2 X (i + 11) j 0) (a + 1 - 0) 0 X) (b - 0) 0 AL)) (gB D cs (va_A (wT cs ad I AN AI AL) sz) (wTs cs ad)) (va_A (wT cs ad I AN AI AL) sz)) 0 0 (va_A (wT cs ad I AN AI AL) sz) := by
  refine Met.ofW (cc := cX0_begin) (maxL := 5) (ret := none) (by decide) rfl ?_
  intro p e s m args below meth c s₁ B hml hv
  obtain ⟨rfl, hsz, hP, hK, hD0, hN⟩ := hv
  have hx := B.exec
  have hb := B.bytes
  have hr := B.returns
  have hts : ∀ w ∈ GW, w.before _ s = true := fun w h => atoms_spec (ws := Cond.code yX0_begin cX0_begin 5 none :: GW) B.pre w (List.mem_cons_of_mem _ h)
  have hown : s.vm.findClass RX0 = some m.cls := findClass_of_methodNamed B.named
  have hlocks := B.notSynchronized
  subst hsz
  have hD := hD0.self (sz := s.heap.size)
  generalize hAe : va_A (wT cs ad I AN AI AL) s.heap.size = A at hD ⊢
  have hA : ∀ q : Nat, s.heap.size ≤ q → A q := fun q h => by rw [← hAe]; exact Or.inr h
  have hS : va_S A s.heap s.heap [] := va_S.rf
  have hl := lv_entry [.ref (ad 2), .int (nI a), .int (nI b)] (n := 5) (Nat.le_of_ble_eq_true rfl)
  rw [lg_entry_eq]
  generalize (lg_sl [.ref (ad 2), .int (nI a), .int (nI b)] ++ List.replicate (5 - (lg_sl [.ref (ad 2), .int (nI a), .int (nI b)]).length) Slot.unset).toArray = ls at hl ⊢
  have hl : lv_has ls 5 [(0, .ref (ad 2)), (1, .int (nI a)), (2, .int (nI b))] := hl
  generalize hargs : ([.ref (ad 2), .int (nI a), .int (nI b)] : List Value).toArray = args at *
  show W p l e rmX0_begin s m args below meth c s.heap [] 0 0 _ (F0 m 0 ls [])
  refine lv_aload_n hx hb dX0_begin_0 rfl (lv_at hl 0 rfl) ?_
  refine lv_iconst (v := nI 0) hx hb dX0_begin_1 (by decide) ?_
  refine lv_iconst (v := nI 4) hx hb dX0_begin_2 (by decide) ?_
  refine lv_iload_n hx hb dX0_begin_3 rfl (lv_at hl 1 rfl) ?_
  refine va_mmin hx hb (by rw [hml]; exact hl.1.symm) hown (hts _ gw_158) (hts _ gw_73) (hts _ gw_54) (hts _ gw_74) (Nat.le_of_ble_eq_true rfl) (Nat.le_of_ble_eq_true rfl) (Nat.zero_le _) (Nat.zero_le _) dX0_begin_4 ?_
  rw [mn_r (by omega) (by decide)]
  refine va_mmax hx hb (by rw [hml]; exact hl.1.symm) hown (hts _ gw_159) (hts _ gw_76) (hts _ gw_54) (hts _ gw_77) (Nat.le_of_ble_eq_true rfl) (Nat.le_of_ble_eq_true rfl) (Nat.zero_le _) (Nat.zero_le _) dX0_begin_7 ?_
  rw [mx_r (by omega)]
  refine b_put (own := RX0) (C := RX0) (T := TX0) (N := 5) (ci := 0) (v := .int (nI a)) hx hb hts usX0 tyX0 tyX0_ok nmX0 hown hK hP hD hS 2 (by decide) rfl rfl 2 (by decide) (hts _ gw_91) rfl rfl rfl (Nat.le_of_ble_eq_true rfl) dX0_begin_10 sT_w (fun H locs hP hD hS => ?_)
  refine lv_aload_n hx hb dX0_begin_13 rfl (lv_at hl 0 rfl) ?_
  refine lv_iconst (v := nI 0) hx hb dX0_begin_14 (by decide) ?_
  refine lv_bipush (v := nI 7) hx hb dX0_begin_15 (by decide) ?_
  refine lv_iload_n hx hb dX0_begin_17 rfl (lv_at hl 2 rfl) ?_
  refine va_mmin hx hb (by rw [hml]; exact hl.1.symm) hown (hts _ gw_158) (hts _ gw_73) (hts _ gw_54) (hts _ gw_74) (Nat.le_of_ble_eq_true rfl) (Nat.le_of_ble_eq_true rfl) (Nat.zero_le _) (Nat.zero_le _) dX0_begin_18 ?_
  rw [mn_r (by omega) (by decide)]
  refine va_mmax hx hb (by rw [hml]; exact hl.1.symm) hown (hts _ gw_159) (hts _ gw_76) (hts _ gw_54) (hts _ gw_77) (Nat.le_of_ble_eq_true rfl) (Nat.le_of_ble_eq_true rfl) (Nat.zero_le _) (Nat.zero_le _) dX0_begin_21 ?_
  rw [mx_r (by omega)]
  refine b_put (own := RX0) (C := RX0) (T := TX0) (N := 5) (ci := 0) (v := .int (nI b)) hx hb hts usX0 tyX0 tyX0_ok nmX0 hown hK hP hD hS 2 (by decide) rfl rfl 3 (by decide) (hts _ gw_92) rfl rfl rfl (Nat.le_of_ble_eq_true rfl) dX0_begin_24 sT_h (fun H locs hP hD hS => ?_)
  refine lv_aload_n hx hb dX0_begin_27 rfl (lv_at hl 0 rfl) ?_
  refine lv_iconst (v := nI 0) hx hb dX0_begin_28 (by decide) ?_
  refine b_put (own := RX0) (C := RX0) (T := TX0) (N := 5) (ci := 0) (v := .int (nI 0)) hx hb hts usX0 tyX0 tyX0_ok nmX0 hown hK hP hD hS 2 (by decide) rfl rfl 4 (by decide) (hts _ gw_93) rfl rfl rfl (Nat.le_of_ble_eq_true rfl) dX0_begin_29 sT_d (fun H locs hP hD hS => ?_)
  refine lv_iconst (v := nI 0) hx hb dX0_begin_32 (by decide) ?_
  refine lv_istore_n (lv' := [(3, .int (nI 0)), (0, .ref (ad 2)), (1, .int (nI a)), (2, .int (nI b))]) hx hb dX0_begin_33 rfl hl (by decide) rfl (fun ls hl => ?_)
  have lp34 : ∀ (Q : State → Prop) (n i : Nat) (X : Nat → Nat → Int64) (H : Heap) (locs : List Loc) (ls : Array Slot), i + n = b → va_P D vc (wT cs ad (up1 (up1 (up1 I 2 a) 3 b) 4 0) AN AI X) H → va_D A (wT cs ad (up1 (up1 (up1 I 2 a) 3 b) 4 0) AN AI X) → va_S A s.heap H locs → lv_has ls 5 [(3, .int (nI i)), (0, .ref (ad 2)), (1, .int (nI a)), (2, .int (nI b))] → (∀ (H : Heap) (locs : List Loc) (ls : Array Slot), va_P D vc (wT cs ad (up1 (up1 (up1 I 2 a) 3 b) 4 0) AN AI (fo (fun i X => fo (fun j X => up2 X (i + 11) j 0) (a + 1 - 0) 0 X) n i X)) H → va_D A (wT cs ad (up1 (up1 (up1 I 2 a) 3 b) 4 0) AN AI (fo (fun i X => fo (fun j X => up2 X (i + 11) j 0) (a + 1 - 0) 0 X) n i X)) → va_S A s.heap H locs → lv_has ls 5 [(3, .int (nI b)), (0, .ref (ad 2)), (1, .int (nI a)), (2, .int (nI b))] → W p l e rmX0_begin s m args below meth c H locs 0 0 Q (F0 m 76 ls [])) → W p l e rmX0_begin s m args below meth c H locs 0 0 Q (F0 m 34 ls []) := by
    intro Q n
    induction n with
    | zero =>
      intro i X H locs ls hn hP hD hS hl kx
      have hi : i = b := by omega
      refine lv_iload_n hx hb dX0_begin_34 rfl (lv_at hl 0 rfl) ?_
      refine lv_aload_n hx hb dX0_begin_35 rfl (lv_at hl 1 rfl) ?_
      refine b_get (own := RX0) (C := RX0) (T := TX0) (N := 5) (ci := 0) (v := .int (nI b)) hx hb hts usX0 hown hK hP 2 (by decide) rfl rfl 3 (by decide) (hts _ gw_92) rfl dX0_begin_36 ?_
      refine b_ge_t (tgt := 76) hx hb dX0_begin_39 (by decide) (by show _ ≤ _; omega) (by omega) ?_
      rw [hi] at hl
      exact kx H locs ls hP hD hS (lv_sub hl [0, 1, 2, 3] rfl)
    | succ n ih =>
      intro i X H locs ls hn hP hD hS hl kx
      have hi : i < b := by omega
      refine lv_iload_n hx hb dX0_begin_34 rfl (lv_at hl 0 rfl) ?_
      refine lv_aload_n hx hb dX0_begin_35 rfl (lv_at hl 1 rfl) ?_
      refine b_get (own := RX0) (C := RX0) (T := TX0) (N := 5) (ci := 0) (v := .int (nI b)) hx hb hts usX0 hown hK hP 2 (by decide) rfl rfl 3 (by decide) (hts _ gw_92) rfl dX0_begin_36 ?_
      refine b_ge_f (tgt := 76) hx hb dX0_begin_39 (by decide) (by show _ < _; omega) (by omega) ?_
      refine lv_iconst (v := nI 0) hx hb dX0_begin_42 (by decide) ?_
      refine lv_istore (lv' := [(4, .int (nI 0)), (3, .int (nI i)), (0, .ref (ad 2)), (1, .int (nI a)), (2, .int (nI b))]) hx hb dX0_begin_43 hl (by decide) rfl (fun ls hl => ?_)
      have lp45 : ∀ (Q : State → Prop) (n j : Nat) (Y : Nat → Nat → Int64) (H : Heap) (locs : List Loc) (ls : Array Slot), j + n = a + 1 → va_P D vc (wT cs ad (up1 (up1 (up1 I 2 a) 3 b) 4 0) AN AI Y) H → va_D A (wT cs ad (up1 (up1 (up1 I 2 a) 3 b) 4 0) AN AI Y) → va_S A s.heap H locs → lv_has ls 5 [(4, .int (nI j)), (3, .int (nI i)), (0, .ref (ad 2)), (1, .int (nI a)), (2, .int (nI b))] → (∀ (H : Heap) (locs : List Loc) (ls : Array Slot), va_P D vc (wT cs ad (up1 (up1 (up1 I 2 a) 3 b) 4 0) AN AI (fo (fun j X => up2 X (i + 11) j 0) n j Y)) H → va_D A (wT cs ad (up1 (up1 (up1 I 2 a) 3 b) 4 0) AN AI (fo (fun j X => up2 X (i + 11) j 0) n j Y)) → va_S A s.heap H locs → lv_has ls 5 [(4, .int (nI (a + 1))), (3, .int (nI i)), (0, .ref (ad 2)), (1, .int (nI a)), (2, .int (nI b))] → W p l e rmX0_begin s m args below meth c H locs 0 0 Q (F0 m 70 ls [])) → W p l e rmX0_begin s m args below meth c H locs 0 0 Q (F0 m 45 ls []) := by
        intro Q n
        induction n with
        | zero =>
          intro j Y H locs ls hn hP hD hS hl kx
          have hi : j = a + 1 := by omega
          refine lv_iload hx hb dX0_begin_45 (lv_at hl 0 rfl) ?_
          refine lv_aload_n hx hb dX0_begin_47 rfl (lv_at hl 2 rfl) ?_
          refine b_get (own := RX0) (C := RX0) (T := TX0) (N := 5) (ci := 0) (v := .int (nI a)) hx hb hts usX0 hown hK hP 2 (by decide) rfl rfl 2 (by decide) (hts _ gw_91) rfl dX0_begin_48 ?_
          refine b_gt_t (tgt := 70) hx hb dX0_begin_51 (by decide) (by show _ < _; omega) (by omega) ?_
          rw [hi] at hl
          exact kx H locs ls hP hD hS (lv_sub hl [0, 1, 2, 3, 4] rfl)
        | succ n ih =>
          intro j Y H locs ls hn hP hD hS hl kx
          have hi : j < a + 1 := by omega
          refine lv_iload hx hb dX0_begin_45 (lv_at hl 0 rfl) ?_
          refine lv_aload_n hx hb dX0_begin_47 rfl (lv_at hl 2 rfl) ?_
          refine b_get (own := RX0) (C := RX0) (T := TX0) (N := 5) (ci := 0) (v := .int (nI a)) hx hb hts usX0 hown hK hP 2 (by decide) rfl rfl 2 (by decide) (hts _ gw_91) rfl dX0_begin_48 ?_
          refine b_gt_f (tgt := 70) hx hb dX0_begin_51 (by decide) (by show _ ≤ _; omega) (by omega) ?_
          refine lv_aload_n hx hb dX0_begin_54 rfl (lv_at hl 2 rfl) ?_
          refine b_get (own := RX0) (C := RX0) (T := TX0) (N := 5) (ci := 0) (v := .ref (ad 4)) hx hb hts usX0 hown hK hP 2 (by decide) rfl rfl 0 (by decide) (hts _ gw_88) rfl dX0_begin_55 ?_
          refine lv_iload_n hx hb dX0_begin_58 rfl (lv_at hl 1 rfl) ?_
          refine tE_r hx hb hK hP (by omega) dX0_begin_59 ?_
          refine lv_iload hx hb dX0_begin_60 (lv_at hl 0 rfl) ?_
          refine lv_lconst (v := 0) hx hb dX0_begin_62 (by decide) ?_
          refine tE_st (i := i) hx hb hK hP hD hS (by omega) (by omega) dX0_begin_63 (fun H locs hP hD hS => ?_)
          refine b_iinc (lv' := [(4, .int (nI (j + 1))), (3, .int (nI i)), (0, .ref (ad 2)), (1, .int (nI a)), (2, .int (nI b))]) hx hb dX0_begin_64 hl (k := 0) rfl (by decide) rfl (fun ls hl => ?_)
          refine lv_goto (tgt := 45) hx hb dX0_begin_67 (by decide) ?_
          exact ih (j + 1) _ H locs ls (by omega) hP hD hS (lv_sub hl [0, 1, 2, 3, 4] rfl) kx
      refine lp45 _ ((a + 1) - 0) 0 X _ _ ls (by omega) hP hD hS (lv_sub hl [0, 1, 2, 3, 4] rfl) (fun H locs ls hP hD hS hl => ?_)
      refine b_iinc (lv' := [(3, .int (nI (i + 1))), (4, .int (nI (a + 1))), (0, .ref (ad 2)), (1, .int (nI a)), (2, .int (nI b))]) hx hb dX0_begin_70 hl (k := 1) rfl (by decide) rfl (fun ls hl => ?_)
      refine lv_goto (tgt := 34) hx hb dX0_begin_73 (by decide) ?_
      exact ih (i + 1) _ H locs ls (by omega) hP hD hS (lv_sub hl [0, 2, 3, 4] rfl) kx
  refine lp34 _ (b - 0) 0 AL _ _ ls (by omega) hP hD hS (lv_sub hl [0, 1, 2, 3] rfl) (fun H locs ls hP hD hS hl => ?_)
  exact g_vret hx hb hr hlocks (up1 (up1 (up1 I 2 a) 3 b) 4 0, AN, AI, fo (fun i X => fo (fun j X => up2 X (i + 11) j 0) (a + 1 - 0) 0 X) (b - 0) 0 AL) (rfl) hK hP hD hS dX0_begin_76
