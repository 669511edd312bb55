def smS (n : Nat) (AI : Nat → Int32) (g : Nat) (x y z : Int64) : Int64 :=
  if 2 < n then Int32.toInt64 (AI (4 * g)) * x + Int32.toInt64 (AI (4 * g + 1)) * y + Int32.toInt64 (AI (4 * g + 2)) * z
  else if 1 < n then Int32.toInt64 (AI (4 * g)) * x + Int32.toInt64 (AI (4 * g + 1)) * y
  else Int32.toInt64 (AI (4 * g)) * x
def isS (n m : Nat) (AI : Nat → Int32) (x y z : Int64) : Bool := (fnd (fun g => ¬ smS n AI g x y z = Int32.toInt64 (AI (4 * g + 3))) m 0).isNone

abbrev rmX3_isSolution : Room := { frames := 0, cells := 0, slots := 0, locals := 0 }
set_option maxHeartbeats 4000000 in
set_option maxRecDepth 100000 in
theorem ctX3_isSolution (l : Launch) (D : va_G) (cs : Nat → ClassId) (ad : Nat → Nat) (I : Nat → Nat) (G : Nat → Int64) (AN : Nat → Nat → Nat) (AI : Nat → Int32) (AL : Nat → Nat → Int64) (sz : Nat) (x y z : Int64) (h1 : I 1 ≤ 3) (h2 : I 2 ≤ 3) : Met l yX3_isSolution (Cond.code yX3_isSolution cX3_isSolution 10 (some FieldType.boolean) :: GW) rmX3_isSolution (va_Pc [.ref (ad 0), .long x, .long y, .long z] (gP D cs (wM cs ad I G AN AI AL) sz)) (va_Qi (fun (r : Int32) (u : MS) => u = (I, G, AN, AI, AL) ∧ r = bz (isS (I 1) (I 2) AI x y z)) (gB D cs (va_A (wM cs ad I G AN AI AL) sz) (wMs cs ad)) (va_A (wM cs ad I G AN AI AL) sz)) 0 0 (va_A (wM cs ad I G AN AI AL) sz) := by
  refine Met.ofW (cc := cX3_isSolution) (maxL := 10) (ret := (some FieldType.boolean)) (by decide) rfl ?_
  intro p e s m args below meth c s₁ B hml hv
  obtain ⟨rfl, hsz, hP, hK, hD0, hN⟩ := hv
  have hx := B.exec
  have hb := B.bytes
  have hr := B.returns
  have hts : ∀ w ∈ GW, w.before _ s = true := fun w h => atoms_spec (ws := Cond.code yX3_isSolution cX3_isSolution 10 (some FieldType.boolean) :: GW) B.pre w (List.mem_cons_of_mem _ h)
  have hown : s.vm.findClass RX3 = some m.cls := findClass_of_methodNamed B.named
  have hlocks := B.notSynchronized
  subst hsz
  have hD := hD0.self (sz := s.heap.size)
  generalize hAe : va_A (wM cs ad I G AN AI AL) s.heap.size = A at hD ⊢
  have hA : ∀ q : Nat, s.heap.size ≤ q → A q := fun q h => by rw [← hAe]; exact Or.inr h
  have hS : va_S A s.heap s.heap [] := va_S.rf
  have hl := lv_entry [.ref (ad 0), .long x, .long y, .long z] (n := 10) (Nat.le_of_ble_eq_true rfl)
  rw [lg_entry_eq]
  generalize (lg_sl [.ref (ad 0), .long x, .long y, .long z] ++ List.replicate (10 - (lg_sl [.ref (ad 0), .long x, .long y, .long z]).length) Slot.unset).toArray = ls at hl ⊢
  have hl : lv_has ls 10 [(0, .ref (ad 0)), (1, .long x), (3, .long y), (5, .long z)] := hl
  generalize hargs : ([.ref (ad 0), .long x, .long y, .long z] : List Value).toArray = args at *
  show W p l e rmX3_isSolution s m args below meth c s.heap [] 0 0 _ (F0 m 0 ls [])
  refine lv_iconst (v := nI 0) hx hb dX3_isSolution_0 (by decide) ?_
  refine lv_istore (lv' := [(7, .int (nI 0)), (0, .ref (ad 0)), (1, .long x), (3, .long y), (5, .long z)]) hx hb dX3_isSolution_1 hl (by decide) rfl (fun ls hl => ?_)
  have lp3 : ∀ (n g : Nat) (H : Heap) (locs : List Loc) (ls : Array Slot), g + n = I 2 → va_P D vc (wM cs ad I G AN AI AL) H → va_D A (wM cs ad I G AN AI AL) → va_S A s.heap H locs → lv_has ls 10 [(7, .int (nI g)), (0, .ref (ad 0)), (1, .long x), (3, .long y), (5, .long z)] → W p l e rmX3_isSolution s m args below meth c H locs 0 0 (MQ below (va_Qi (fun (r : Int32) (u : MS) => u = (I, G, AN, AI, AL) ∧ r = bz (fnd (fun g => ¬ smS (I 1) AI g x y z = Int32.toInt64 (AI (4 * g + 3))) n g).isNone) (gB D cs A (wMs cs ad)) A) args s 0 0 A) (F0 m 3 ls []) := by
    intro n
    induction n with
    | zero =>
      intro g H locs ls hn hP hD hS hl
      have hi : g = I 2 := by omega
      refine lv_iload hx hb dX3_isSolution_3 (lv_at hl 0 rfl) ?_
      refine lv_aload_n hx hb dX3_isSolution_5 rfl (lv_at hl 1 rfl) ?_
      refine b_get (own := RX3) (C := RX3) (T := TX3) (N := 23) (ci := 3) (v := .int (nI (I 2))) hx hb hts usX3 hown hK hP 0 (by decide) rfl rfl 2 (by decide) (hts _ gw_506) rfl dX3_isSolution_6 ?_
      refine b_ge_t (tgt := 107) hx hb dX3_isSolution_9 (by decide) (by omega) (by omega) ?_
      refine lv_iconst (v := nI 1) hx hb dX3_isSolution_107 (by decide) ?_
      exact g_zret hx hb hr hlocks rfl (I, G, AN, AI, AL) (⟨rfl, rfl⟩) hK hP hD hS dX3_isSolution_108
    | succ n ih =>
      intro g H locs ls hn hP hD hS hl
      have hi : g < I 2 := by omega
      refine lv_iload hx hb dX3_isSolution_3 (lv_at hl 0 rfl) ?_
      refine lv_aload_n hx hb dX3_isSolution_5 rfl (lv_at hl 1 rfl) ?_
      refine b_get (own := RX3) (C := RX3) (T := TX3) (N := 23) (ci := 3) (v := .int (nI (I 2))) hx hb hts usX3 hown hK hP 0 (by decide) rfl rfl 2 (by decide) (hts _ gw_506) rfl dX3_isSolution_6 ?_
      refine b_ge_f (tgt := 107) hx hb dX3_isSolution_9 (by decide) (by omega) (by omega) ?_
      refine lv_aload_n hx hb dX3_isSolution_12 rfl (lv_at hl 1 rfl) ?_
      refine b_get (own := RX3) (C := RX3) (T := TX3) (N := 23) (ci := 3) (v := .ref (ad 1)) hx hb hts usX3 hown hK hP 0 (by decide) rfl rfl 3 (by decide) (hts _ gw_507) rfl dX3_isSolution_13 ?_
      refine lv_iconst (v := nI 4) hx hb dX3_isSolution_16 (by decide) ?_
      refine lv_iload hx hb dX3_isSolution_17 (lv_at hl 0 rfl) ?_
      refine b_muln hx hb dX3_isSolution_19 ?_
      refine b_iald hx hb hK hP 1 0 (by decide) rfl rfl (by omega) (by decide) dX3_isSolution_20 ?_
      refine lv_i2l (v := Int32.toInt64 (AI (4 * g))) hx hb dX3_isSolution_21 rfl ?_
      refine lv_lload_n hx hb dX3_isSolution_22 rfl (lv_at hl 2 rfl) ?_
      refine lv_lmul hx hb dX3_isSolution_23 ?_
      refine lv_lstore (lv' := [(8, .long ((Int32.toInt64 (AI (4 * g))) * x)), (7, .int (nI g)), (0, .ref (ad 0)), (1, .long x), (3, .long y), (5, .long z)]) hx hb dX3_isSolution_24 hl (by decide) rfl (fun ls hl => ?_)
      refine lv_aload_n hx hb dX3_isSolution_26 rfl (lv_at hl 2 rfl) ?_
      refine b_get (own := RX3) (C := RX3) (T := TX3) (N := 23) (ci := 3) (v := .int (nI (I 1))) hx hb hts usX3 hown hK hP 0 (by decide) rfl rfl 1 (by decide) (hts _ gw_505) rfl dX3_isSolution_27 ?_
      refine lv_iconst (v := nI 1) hx hb dX3_isSolution_30 (by decide) ?_
      by_cases hn1 : 1 < I 1
      · refine lv_icmp_le (tgt := 53) hx hb dX3_isSolution_31 (by decide) (fun q => absurd q (nI_ge hn1 (by omega))) (fun _ => ?_)
        refine lv_lload hx hb dX3_isSolution_34 (lv_at hl 0 rfl) ?_
        refine lv_aload_n hx hb dX3_isSolution_36 rfl (lv_at hl 2 rfl) ?_
        refine b_get (own := RX3) (C := RX3) (T := TX3) (N := 23) (ci := 3) (v := .ref (ad 1)) hx hb hts usX3 hown hK hP 0 (by decide) rfl rfl 3 (by decide) (hts _ gw_507) rfl dX3_isSolution_37 ?_
        refine lv_iconst (v := nI 4) hx hb dX3_isSolution_40 (by decide) ?_
        refine lv_iload hx hb dX3_isSolution_41 (lv_at hl 1 rfl) ?_
        refine b_muln hx hb dX3_isSolution_43 ?_
        refine lv_iconst (v := nI 1) hx hb dX3_isSolution_44 (by decide) ?_
        refine b_addn hx hb dX3_isSolution_45 ?_
        refine b_iald hx hb hK hP 1 0 (by decide) rfl rfl (by omega) (by decide) dX3_isSolution_46 ?_
        refine lv_i2l (v := Int32.toInt64 (AI ((4 * g) + 1))) hx hb dX3_isSolution_47 rfl ?_
        refine lv_lload_n hx hb dX3_isSolution_48 rfl (lv_at hl 4 rfl) ?_
        refine lv_lmul hx hb dX3_isSolution_49 ?_
        refine lv_ladd hx hb dX3_isSolution_50 ?_
        refine lv_lstore (lv' := [(8, .long (((Int32.toInt64 (AI (4 * g))) * x) + ((Int32.toInt64 (AI ((4 * g) + 1))) * y))), (7, .int (nI g)), (0, .ref (ad 0)), (1, .long x), (3, .long y), (5, .long z)]) hx hb dX3_isSolution_51 hl (by decide) rfl (fun ls hl => ?_)
        refine lv_aload_n hx hb dX3_isSolution_53 rfl (lv_at hl 2 rfl) ?_
        refine b_get (own := RX3) (C := RX3) (T := TX3) (N := 23) (ci := 3) (v := .int (nI (I 1))) hx hb hts usX3 hown hK hP 0 (by decide) rfl rfl 1 (by decide) (hts _ gw_505) rfl dX3_isSolution_54 ?_
        refine lv_iconst (v := nI 2) hx hb dX3_isSolution_57 (by decide) ?_
        by_cases hn2 : 2 < I 1
        · refine lv_icmp_le (tgt := 81) hx hb dX3_isSolution_58 (by decide) (fun q => absurd q (nI_ge hn2 (by omega))) (fun _ => ?_)
          refine lv_lload hx hb dX3_isSolution_61 (lv_at hl 0 rfl) ?_
          refine lv_aload_n hx hb dX3_isSolution_63 rfl (lv_at hl 2 rfl) ?_
          refine b_get (own := RX3) (C := RX3) (T := TX3) (N := 23) (ci := 3) (v := .ref (ad 1)) hx hb hts usX3 hown hK hP 0 (by decide) rfl rfl 3 (by decide) (hts _ gw_507) rfl dX3_isSolution_64 ?_
          refine lv_iconst (v := nI 4) hx hb dX3_isSolution_67 (by decide) ?_
          refine lv_iload hx hb dX3_isSolution_68 (lv_at hl 1 rfl) ?_
          refine b_muln hx hb dX3_isSolution_70 ?_
          refine lv_iconst (v := nI 2) hx hb dX3_isSolution_71 (by decide) ?_
          refine b_addn hx hb dX3_isSolution_72 ?_
          refine b_iald hx hb hK hP 1 0 (by decide) rfl rfl (by omega) (by decide) dX3_isSolution_73 ?_
          refine lv_i2l (v := Int32.toInt64 (AI ((4 * g) + 2))) hx hb dX3_isSolution_74 rfl ?_
          refine lv_lload hx hb dX3_isSolution_75 (lv_at hl 5 rfl) ?_
          refine lv_lmul hx hb dX3_isSolution_77 ?_
          refine lv_ladd hx hb dX3_isSolution_78 ?_
          refine lv_lstore (lv' := [(8, .long ((((Int32.toInt64 (AI (4 * g))) * x) + ((Int32.toInt64 (AI ((4 * g) + 1))) * y)) + ((Int32.toInt64 (AI ((4 * g) + 2))) * z))), (7, .int (nI g)), (0, .ref (ad 0)), (1, .long x), (3, .long y), (5, .long z)]) hx hb dX3_isSolution_79 hl (by decide) rfl (fun ls hl => ?_)
          refine lv_lload hx hb dX3_isSolution_81 (lv_at hl 0 rfl) ?_
          have es : smS (I 1) AI g x y z = (((Int32.toInt64 (AI (4 * g))) * x) + ((Int32.toInt64 (AI ((4 * g) + 1))) * y)) + ((Int32.toInt64 (AI ((4 * g) + 2))) * z) := by unfold smS; rw [if_pos hn2]
          refine lv_aload_n hx hb dX3_isSolution_83 rfl (lv_at hl 2 rfl) ?_
          refine b_get (own := RX3) (C := RX3) (T := TX3) (N := 23) (ci := 3) (v := .ref (ad 1)) hx hb hts usX3 hown hK hP 0 (by decide) rfl rfl 3 (by decide) (hts _ gw_507) rfl dX3_isSolution_84 ?_
          refine lv_iconst (v := nI 4) hx hb dX3_isSolution_87 (by decide) ?_
          refine lv_iload hx hb dX3_isSolution_88 (lv_at hl 1 rfl) ?_
          refine b_muln hx hb dX3_isSolution_90 ?_
          refine lv_iconst (v := nI 3) hx hb dX3_isSolution_91 (by decide) ?_
          refine b_addn hx hb dX3_isSolution_92 ?_
          refine b_iald hx hb hK hP 1 0 (by decide) rfl rfl (by omega) (by decide) dX3_isSolution_93 ?_
          refine lv_i2l (v := Int32.toInt64 (AI ((4 * g) + 3))) hx hb dX3_isSolution_94 rfl ?_
          refine b_lceq (tgt := 101) hx hb dX3_isSolution_95 dX3_isSolution_96 (by decide) (fun h => ?_) (fun h => ?_)
          · refine b_iinc (lv' := [(7, .int (nI (g + 1))), (8, .long ((((Int32.toInt64 (AI (4 * g))) * x) + ((Int32.toInt64 (AI ((4 * g) + 1))) * y)) + ((Int32.toInt64 (AI ((4 * g) + 2))) * z))), (0, .ref (ad 0)), (1, .long x), (3, .long y), (5, .long z)]) hx hb dX3_isSolution_101 hl (k := 1) rfl (by decide) rfl (fun ls hl => ?_)
            refine lv_goto (tgt := 3) hx hb dX3_isSolution_104 (by decide) ?_
            rw [fnd_f (f := fun g => ¬ smS (I 1) AI g x y z = Int32.toInt64 (AI (4 * g + 3))) (fun q => q (es.trans h))]
            exact ih (g + 1) H locs ls (by omega) hP hD hS (lv_sub hl [0, 2, 3, 4, 5] rfl)
          · refine lv_iconst (v := nI 0) hx hb dX3_isSolution_99 (by decide) ?_
            exact g_zret hx hb hr hlocks rfl (I, G, AN, AI, AL) (⟨rfl, by rw [fnd_t (f := fun g => ¬ smS (I 1) AI g x y z = Int32.toInt64 (AI (4 * g + 3))) (fun q => h (es.symm.trans q))]; rfl⟩) hK hP hD hS dX3_isSolution_100
        · refine lv_icmp_le (tgt := 81) hx hb dX3_isSolution_58 (by decide) (fun _ => ?_) (fun q => absurd (nI_le (by omega) (by omega)) q)
          refine lv_lload hx hb dX3_isSolution_81 (lv_at hl 0 rfl) ?_
          have es : smS (I 1) AI g x y z = ((Int32.toInt64 (AI (4 * g))) * x) + ((Int32.toInt64 (AI ((4 * g) + 1))) * y) := by unfold smS; rw [if_neg hn2, if_pos hn1]
          refine lv_aload_n hx hb dX3_isSolution_83 rfl (lv_at hl 2 rfl) ?_
          refine b_get (own := RX3) (C := RX3) (T := TX3) (N := 23) (ci := 3) (v := .ref (ad 1)) hx hb hts usX3 hown hK hP 0 (by decide) rfl rfl 3 (by decide) (hts _ gw_507) rfl dX3_isSolution_84 ?_
          refine lv_iconst (v := nI 4) hx hb dX3_isSolution_87 (by decide) ?_
          refine lv_iload hx hb dX3_isSolution_88 (lv_at hl 1 rfl) ?_
          refine b_muln hx hb dX3_isSolution_90 ?_
          refine lv_iconst (v := nI 3) hx hb dX3_isSolution_91 (by decide) ?_
          refine b_addn hx hb dX3_isSolution_92 ?_
          refine b_iald hx hb hK hP 1 0 (by decide) rfl rfl (by omega) (by decide) dX3_isSolution_93 ?_
          refine lv_i2l (v := Int32.toInt64 (AI ((4 * g) + 3))) hx hb dX3_isSolution_94 rfl ?_
          refine b_lceq (tgt := 101) hx hb dX3_isSolution_95 dX3_isSolution_96 (by decide) (fun h => ?_) (fun h => ?_)
          · refine b_iinc (lv' := [(7, .int (nI (g + 1))), (8, .long (((Int32.toInt64 (AI (4 * g))) * x) + ((Int32.toInt64 (AI ((4 * g) + 1))) * y))), (0, .ref (ad 0)), (1, .long x), (3, .long y), (5, .long z)]) hx hb dX3_isSolution_101 hl (k := 1) rfl (by decide) rfl (fun ls hl => ?_)
            refine lv_goto (tgt := 3) hx hb dX3_isSolution_104 (by decide) ?_
            rw [fnd_f (f := fun g => ¬ smS (I 1) AI g x y z = Int32.toInt64 (AI (4 * g + 3))) (fun q => q (es.trans h))]
            exact ih (g + 1) H locs ls (by omega) hP hD hS (lv_sub hl [0, 2, 3, 4, 5] rfl)
          · refine lv_iconst (v := nI 0) hx hb dX3_isSolution_99 (by decide) ?_
            exact g_zret hx hb hr hlocks rfl (I, G, AN, AI, AL) (⟨rfl, by rw [fnd_t (f := fun g => ¬ smS (I 1) AI g x y z = Int32.toInt64 (AI (4 * g + 3))) (fun q => h (es.symm.trans q))]; rfl⟩) hK hP hD hS dX3_isSolution_100
      · refine lv_icmp_le (tgt := 53) hx hb dX3_isSolution_31 (by decide) (fun _ => ?_) (fun q => absurd (nI_le (by omega) (by omega)) q)
        refine lv_aload_n hx hb dX3_isSolution_53 rfl (lv_at hl 2 rfl) ?_
        refine b_get (own := RX3) (C := RX3) (T := TX3) (N := 23) (ci := 3) (v := .int (nI (I 1))) hx hb hts usX3 hown hK hP 0 (by decide) rfl rfl 1 (by decide) (hts _ gw_505) rfl dX3_isSolution_54 ?_
        refine lv_iconst (v := nI 2) hx hb dX3_isSolution_57 (by decide) ?_
        refine lv_icmp_le (tgt := 81) hx hb dX3_isSolution_58 (by decide) (fun _ => ?_) (fun q => absurd (nI_le (by omega) (by omega)) q)
        refine lv_lload hx hb dX3_isSolution_81 (lv_at hl 0 rfl) ?_
        have es : smS (I 1) AI g x y z = (Int32.toInt64 (AI (4 * g))) * x := by unfold smS; rw [if_neg (by omega), if_neg hn1]
        refine lv_aload_n hx hb dX3_isSolution_83 rfl (lv_at hl 2 rfl) ?_
        refine b_get (own := RX3) (C := RX3) (T := TX3) (N := 23) (ci := 3) (v := .ref (ad 1)) hx hb hts usX3 hown hK hP 0 (by decide) rfl rfl 3 (by decide) (hts _ gw_507) rfl dX3_isSolution_84 ?_
        refine lv_iconst (v := nI 4) hx hb dX3_isSolution_87 (by decide) ?_
        refine lv_iload hx hb dX3_isSolution_88 (lv_at hl 1 rfl) ?_
        refine b_muln hx hb dX3_isSolution_90 ?_
        refine lv_iconst (v := nI 3) hx hb dX3_isSolution_91 (by decide) ?_
        refine b_addn hx hb dX3_isSolution_92 ?_
        refine b_iald hx hb hK hP 1 0 (by decide) rfl rfl (by omega) (by decide) dX3_isSolution_93 ?_
        refine lv_i2l (v := Int32.toInt64 (AI ((4 * g) + 3))) hx hb dX3_isSolution_94 rfl ?_
        refine b_lceq (tgt := 101) hx hb dX3_isSolution_95 dX3_isSolution_96 (by decide) (fun h => ?_) (fun h => ?_)
        · refine b_iinc (lv' := [(7, .int (nI (g + 1))), (8, .long ((Int32.toInt64 (AI (4 * g))) * x)), (0, .ref (ad 0)), (1, .long x), (3, .long y), (5, .long z)]) hx hb dX3_isSolution_101 hl (k := 1) rfl (by decide) rfl (fun ls hl => ?_)
          refine lv_goto (tgt := 3) hx hb dX3_isSolution_104 (by decide) ?_
          rw [fnd_f (f := fun g => ¬ smS (I 1) AI g x y z = Int32.toInt64 (AI (4 * g + 3))) (fun q => q (es.trans h))]
          exact ih (g + 1) H locs ls (by omega) hP hD hS (lv_sub hl [0, 2, 3, 4, 5] rfl)
        · refine lv_iconst (v := nI 0) hx hb dX3_isSolution_99 (by decide) ?_
          exact g_zret hx hb hr hlocks rfl (I, G, AN, AI, AL) (⟨rfl, by rw [fnd_t (f := fun g => ¬ smS (I 1) AI g x y z = Int32.toInt64 (AI (4 * g + 3))) (fun q => h (es.symm.trans q))]; rfl⟩) hK hP hD hS dX3_isSolution_100
  exact lp3 ((I 2) - 0) 0 _ _ ls (by omega) hP hD hS (lv_sub hl [0, 1, 2, 3, 4] rfl)

abbrev rmX3_solves : Room := { frames := 1, cells := 0, slots := 0, locals := 29 }
set_option maxHeartbeats 4000000 in
set_option maxRecDepth 100000 in
theorem ctX3_solves (l : Launch) (D : va_G) (cs : Nat → ClassId) (ad : Nat → Nat) (I : Nat → Nat) (G : Nat → Int64) (AN : Nat → Nat → Nat) (AI : Nat → Int32) (AL : Nat → Nat → Int64) (sz : Nat) (x y z : Int32) (h1 : I 1 ≤ 3) (h2 : I 2 ≤ 3) : Met l yX3_solves (Cond.code yX3_solves cX3_solves 4 (some FieldType.boolean) :: GW) rmX3_solves (va_Pc [.ref (ad 0), .int x, .int y, .int z] (gP D cs (wM cs ad I G AN AI AL) sz)) (va_Qi (fun (r : Int32) (u : MS) => u = (up1 I 0 0, G, AN, AI, AL) ∧ r = bz (isS (I 1) (I 2) AI (Int32.toInt64 x) (Int32.toInt64 y) (Int32.toInt64 z))) (gB D cs (va_A (wM cs ad I G AN AI AL) sz) (wMs cs ad)) (va_A (wM cs ad I G AN AI AL) sz)) 0 0 (va_A (wM cs ad I G AN AI AL) sz) := by
  refine Met.ofW (cc := cX3_solves) (maxL := 4) (ret := (some FieldType.boolean)) (by decide) rfl ?_
  intro p e s m args below meth c s₁ B hml hv
  obtain ⟨rfl, hsz, hP, hK, hD0, hN⟩ := hv
  have hx := B.exec
  have hb := B.bytes
  have hr := B.returns
  have hts : ∀ w ∈ GW, w.before _ s = true := fun w h => atoms_spec (ws := Cond.code yX3_solves cX3_solves 4 (some FieldType.boolean) :: GW) B.pre w (List.mem_cons_of_mem _ h)
  have hown : s.vm.findClass RX3 = some m.cls := findClass_of_methodNamed B.named
  have hlocks := B.notSynchronized
  subst hsz
  have hD := hD0.self (sz := s.heap.size)
  generalize hAe : va_A (wM cs ad I G AN AI AL) s.heap.size = A at hD ⊢
  have hA : ∀ q : Nat, s.heap.size ≤ q → A q := fun q h => by rw [← hAe]; exact Or.inr h
  have hS : va_S A s.heap s.heap [] := va_S.rf
  have hl := lv_entry [.ref (ad 0), .int x, .int y, .int z] (n := 4) (Nat.le_of_ble_eq_true rfl)
  rw [lg_entry_eq]
  generalize (lg_sl [.ref (ad 0), .int x, .int y, .int z] ++ List.replicate (4 - (lg_sl [.ref (ad 0), .int x, .int y, .int z]).length) Slot.unset).toArray = ls at hl ⊢
  have hl : lv_has ls 4 [(0, .ref (ad 0)), (1, .int x), (2, .int y), (3, .int z)] := hl
  generalize hargs : ([.ref (ad 0), .int x, .int y, .int z] : List Value).toArray = args at *
  show W p l e rmX3_solves s m args below meth c s.heap [] 0 0 _ (F0 m 0 ls [])
  refine lv_aload_n hx hb dX3_solves_0 rfl (lv_at hl 0 rfl) ?_
  refine lv_iconst (v := nI 0) hx hb dX3_solves_1 (by decide) ?_
  refine b_put (own := RX3) (C := RX3) (T := TX3) (N := 23) (ci := 3) (v := .int (nI 0)) hx hb hts usX3 tyX3 tyX3_ok nmX3 hown hK hP hD hS 0 (by decide) rfl rfl 0 (by decide) (hts _ gw_504) rfl rfl rfl (Nat.le_of_ble_eq_true rfl) dX3_solves_2 sM_I0 (fun H locs hP hD hS => ?_)
  refine lv_aload_n hx hb dX3_solves_5 rfl (lv_at hl 0 rfl) ?_
  refine lv_iload_n hx hb dX3_solves_6 rfl (lv_at hl 1 rfl) ?_
  refine lv_i2l (v := Int32.toInt64 x) hx hb dX3_solves_7 rfl ?_
  refine lv_iload_n hx hb dX3_solves_8 rfl (lv_at hl 2 rfl) ?_
  refine lv_i2l (v := Int32.toInt64 y) hx hb dX3_solves_9 rfl ?_
  refine lv_iload_n hx hb dX3_solves_10 rfl (lv_at hl 3 rfl) ?_
  refine lv_i2l (v := Int32.toInt64 z) hx hb dX3_solves_11 rfl ?_
  refine g_calli (va_runV (As := [.long (Int32.toInt64 x), .long (Int32.toInt64 y), .long (Int32.toInt64 z)]) (rest := []) ⟨hx, hb, hml, hown, hts⟩ (ctX3_isSolution l D cs ad (up1 I 0 0) G AN AI AL _ (Int32.toInt64 x) (Int32.toInt64 y) (Int32.toInt64 z) (show I 1 ≤ 3 from h1) (show I 2 ≤ 3 from h2)) (cwV 3 hts (gi_V gw_744 gw_746 gw_51 gw_57 gw_747) rfl rfl rfl (by decide +kernel) ⟨Nat.le_of_ble_eq_true rfl, Nat.le_of_ble_eq_true rfl⟩) ⟨g_blind, va_recv hK hP (ci := 3) (q0 := 0) rfl (wm_at (by decide) rfl), g_pre hP hK hD hN⟩ rfl rfl hl.1 rfl (lv_room (Nat.le_of_ble_eq_true rfl)) dX3_solves_12 ⟨Nat.zero_le _, Nat.zero_le _⟩) hD hS hA (fun r u H locs hw hP hD hS => ?_)
  obtain ⟨rfl, hw2⟩ := hw
  have hP : va_P D vc (wM cs ad (up1 I 0 0) G AN AI AL) H := hP
  have hD : va_D A (wM cs ad (up1 I 0 0) G AN AI AL) := hD
  have hw2 : r = bz (isS (I 1) (I 2) AI (Int32.toInt64 x) (Int32.toInt64 y) (Int32.toInt64 z)) := hw2
  subst hw2
  exact g_zret hx hb hr hlocks (bz_n _) (up1 I 0 0, G, AN, AI, AL) (⟨rfl, rfl⟩) hK hP hD hS dX3_solves_15

def memb (k : Nat) (x y z : Int64) (AL : Nat → Nat → Int64) : Nat → Nat → Int64 := up2 (up2 (up2 AL 9 (3 * k) x) 9 (3 * k + 1) y) 9 (3 * k + 2) z

abbrev rmX3_member : Room := { frames := 0, cells := 0, slots := 0, locals := 0 }
set_option maxHeartbeats 4000000 in
set_option maxRecDepth 100000 in
theorem ctX3_member (l : Launch) (D : va_G) (cs : Nat → ClassId) (ad : Nat → Nat) (I : Nat → Nat) (G : Nat → Int64) (AN : Nat → Nat → Nat) (AI : Nat → Int32) (AL : Nat → Nat → Int64) (sz : Nat) (x y z : Int64) (h4 : I 4 < 3) : Met l yX3_member (Cond.code yX3_member cX3_member 7 none :: GW) rmX3_member (va_Pc [.ref (ad 0), .long x, .long y, .long z] (gP D cs (wM cs ad I G AN AI AL) sz)) (va_Qv (fun u : MS => u = (up1 I 4 (I 4 + 1), G, AN, AI, memb (I 4) x y z AL)) (gB D cs (va_A (wM cs ad I G AN AI AL) sz) (wMs cs ad)) (va_A (wM cs ad I G AN AI AL) sz)) 0 0 (va_A (wM cs ad I G AN AI AL) sz) := by
  refine Met.ofW (cc := cX3_member) (maxL := 7) (ret := none) (by decide) rfl ?_
  intro p e s m args below meth c s₁ B hml hv
  obtain ⟨rfl, hsz, hP, hK, hD0, hN⟩ := hv
  have hx := B.exec
  have hb := B.bytes
  have hr := B.returns
  have hts : ∀ w ∈ GW, w.before _ s = true := fun w h => atoms_spec (ws := Cond.code yX3_member cX3_member 7 none :: GW) B.pre w (List.mem_cons_of_mem _ h)
  have hown : s.vm.findClass RX3 = some m.cls := findClass_of_methodNamed B.named
  have hlocks := B.notSynchronized
  subst hsz
  have hD := hD0.self (sz := s.heap.size)
  generalize hAe : va_A (wM cs ad I G AN AI AL) s.heap.size = A at hD ⊢
  have hA : ∀ q : Nat, s.heap.size ≤ q → A q := fun q h => by rw [← hAe]; exact Or.inr h
  have hS : va_S A s.heap s.heap [] := va_S.rf
  have hl := lv_entry [.ref (ad 0), .long x, .long y, .long z] (n := 7) (Nat.le_of_ble_eq_true rfl)
  rw [lg_entry_eq]
  generalize (lg_sl [.ref (ad 0), .long x, .long y, .long z] ++ List.replicate (7 - (lg_sl [.ref (ad 0), .long x, .long y, .long z]).length) Slot.unset).toArray = ls at hl ⊢
  have hl : lv_has ls 7 [(0, .ref (ad 0)), (1, .long x), (3, .long y), (5, .long z)] := hl
  generalize hargs : ([.ref (ad 0), .long x, .long y, .long z] : List Value).toArray = args at *
  show W p l e rmX3_member s m args below meth c s.heap [] 0 0 _ (F0 m 0 ls [])
  refine lv_aload_n hx hb dX3_member_0 rfl (lv_at hl 0 rfl) ?_
  refine b_get (own := RX3) (C := RX3) (T := TX3) (N := 23) (ci := 3) (v := .ref (ad 9)) hx hb hts usX3 hown hK hP 0 (by decide) rfl rfl 16 (by decide) (hts _ gw_520) rfl dX3_member_1 ?_
  refine lv_iconst (v := nI 3) hx hb dX3_member_4 (by decide) ?_
  refine lv_aload_n hx hb dX3_member_5 rfl (lv_at hl 0 rfl) ?_
  refine b_get (own := RX3) (C := RX3) (T := TX3) (N := 23) (ci := 3) (v := .int (nI (I 4))) hx hb hts usX3 hown hK hP 0 (by decide) rfl rfl 15 (by decide) (hts _ gw_519) rfl dX3_member_6 ?_
  refine b_muln hx hb dX3_member_9 ?_
  refine lv_lload_n hx hb dX3_member_10 rfl (lv_at hl 1 rfl) ?_
  refine b_last hx hb hK hP hD hS 9 1 (by decide) rfl rfl (by omega) (by decide) dX3_member_11 sM_L9 (fun H locs hP hD hS => ?_)
  refine lv_aload_n hx hb dX3_member_12 rfl (lv_at hl 0 rfl) ?_
  refine b_get (own := RX3) (C := RX3) (T := TX3) (N := 23) (ci := 3) (v := .ref (ad 9)) hx hb hts usX3 hown hK hP 0 (by decide) rfl rfl 16 (by decide) (hts _ gw_520) rfl dX3_member_13 ?_
  refine lv_iconst (v := nI 3) hx hb dX3_member_16 (by decide) ?_
  refine lv_aload_n hx hb dX3_member_17 rfl (lv_at hl 0 rfl) ?_
  refine b_get (own := RX3) (C := RX3) (T := TX3) (N := 23) (ci := 3) (v := .int (nI (I 4))) hx hb hts usX3 hown hK hP 0 (by decide) rfl rfl 15 (by decide) (hts _ gw_519) rfl dX3_member_18 ?_
  refine b_muln hx hb dX3_member_21 ?_
  refine lv_iconst (v := nI 1) hx hb dX3_member_22 (by decide) ?_
  refine b_addn hx hb dX3_member_23 ?_
  refine lv_lload_n hx hb dX3_member_24 rfl (lv_at hl 2 rfl) ?_
  refine b_last hx hb hK hP hD hS 9 1 (by decide) rfl rfl (by omega) (by decide) dX3_member_25 sM_L9 (fun H locs hP hD hS => ?_)
  refine lv_aload_n hx hb dX3_member_26 rfl (lv_at hl 0 rfl) ?_
  refine b_get (own := RX3) (C := RX3) (T := TX3) (N := 23) (ci := 3) (v := .ref (ad 9)) hx hb hts usX3 hown hK hP 0 (by decide) rfl rfl 16 (by decide) (hts _ gw_520) rfl dX3_member_27 ?_
  refine lv_iconst (v := nI 3) hx hb dX3_member_30 (by decide) ?_
  refine lv_aload_n hx hb dX3_member_31 rfl (lv_at hl 0 rfl) ?_
  refine b_get (own := RX3) (C := RX3) (T := TX3) (N := 23) (ci := 3) (v := .int (nI (I 4))) hx hb hts usX3 hown hK hP 0 (by decide) rfl rfl 15 (by decide) (hts _ gw_519) rfl dX3_member_32 ?_
  refine b_muln hx hb dX3_member_35 ?_
  refine lv_iconst (v := nI 2) hx hb dX3_member_36 (by decide) ?_
  refine b_addn hx hb dX3_member_37 ?_
  refine lv_lload hx hb dX3_member_38 (lv_at hl 3 rfl) ?_
  refine b_last hx hb hK hP hD hS 9 1 (by decide) rfl rfl (by omega) (by decide) dX3_member_40 sM_L9 (fun H locs hP hD hS => ?_)
  refine lv_aload_n hx hb dX3_member_41 rfl (lv_at hl 0 rfl) ?_
  refine lv_dup hx hb dX3_member_42 rfl ?_
  refine b_get (own := RX3) (C := RX3) (T := TX3) (N := 23) (ci := 3) (v := .int (nI (I 4))) hx hb hts usX3 hown hK hP 0 (by decide) rfl rfl 15 (by decide) (hts _ gw_519) rfl dX3_member_43 ?_
  refine lv_iconst (v := nI 1) hx hb dX3_member_46 (by decide) ?_
  refine b_addn hx hb dX3_member_47 ?_
  refine b_put (own := RX3) (C := RX3) (T := TX3) (N := 23) (ci := 3) (v := .int (nI ((I 4) + 1))) hx hb hts usX3 tyX3 tyX3_ok nmX3 hown hK hP hD hS 0 (by decide) rfl rfl 15 (by decide) (hts _ gw_519) rfl rfl rfl (Nat.le_of_ble_eq_true rfl) dX3_member_48 sM_I4 (fun H locs hP hD hS => ?_)
  exact g_vret hx hb hr hlocks (up1 I 4 ((I 4) + 1), G, AN, AI, up2 (up2 (up2 AL 9 (3 * (I 4)) x) 9 ((3 * (I 4)) + 1) y) 9 ((3 * (I 4)) + 2) z) (rfl) hK hP hD hS dX3_member_51

def lnG (x y z : Int64) : Int64 := dv64 x (dv64 y z)
def lnS (x y z : Int64) : Int64 := if ¬ x = 0 then x else if ¬ y = 0 then y else z
def lnH (x y z : Int64) : Int64 := if lnS x y z < 0 then -lnG x y z else lnG x y z
def okLn (x y z : Int64) : Prop := okD y z ∧ okD x (dv64 y z) ∧ ¬ lnH x y z = 0

abbrev rmX3_lineOf : Room := { frames := 1, cells := 0, slots := 0, locals := 29 }
set_option maxHeartbeats 4000000 in
set_option maxRecDepth 100000 in
theorem ctX3_lineOf (l : Launch) (D : va_G) (cs : Nat → ClassId) (ad : Nat → Nat) (I : Nat → Nat) (G : Nat → Int64) (AN : Nat → Nat → Nat) (AI : Nat → Int32) (AL : Nat → Nat → Int64) (sz : Nat) (x y z : Int64) (h4 : I 4 < 3) (hok : okLn x y z) : Met l yX3_lineOf (Cond.code yX3_lineOf cX3_lineOf 11 none :: GW) rmX3_lineOf (va_Pc [.ref (ad 0), .long x, .long y, .long z] (gP D cs (wM cs ad I G AN AI AL) sz)) (va_Qv (fun u : MS => u = (up1 I 4 (I 4 + 1), G, AN, AI, memb (I 4) (x / lnH x y z) (y / lnH x y z) (z / lnH x y z) AL)) (gB D cs (va_A (wM cs ad I G AN AI AL) sz) (wMs cs ad)) (va_A (wM cs ad I G AN AI AL) sz)) 0 0 (va_A (wM cs ad I G AN AI AL) sz) := by
  refine Met.ofW (cc := cX3_lineOf) (maxL := 11) (ret := none) (by decide) rfl ?_
  intro p e s m args below meth c s₁ B hml hv
  obtain ⟨rfl, hsz, hP, hK, hD0, hN⟩ := hv
  have hx := B.exec
  have hb := B.bytes
  have hr := B.returns
  have hts : ∀ w ∈ GW, w.before _ s = true := fun w h => atoms_spec (ws := Cond.code yX3_lineOf cX3_lineOf 11 none :: GW) B.pre w (List.mem_cons_of_mem _ h)
  have hown : s.vm.findClass RX3 = some m.cls := findClass_of_methodNamed B.named
  have hlocks := B.notSynchronized
  subst hsz
  have hD := hD0.self (sz := s.heap.size)
  generalize hAe : va_A (wM cs ad I G AN AI AL) s.heap.size = A at hD ⊢
  have hA : ∀ q : Nat, s.heap.size ≤ q → A q := fun q h => by rw [← hAe]; exact Or.inr h
  have hS : va_S A s.heap s.heap [] := va_S.rf
  have hl := lv_entry [.ref (ad 0), .long x, .long y, .long z] (n := 11) (Nat.le_of_ble_eq_true rfl)
  rw [lg_entry_eq]
  generalize (lg_sl [.ref (ad 0), .long x, .long y, .long z] ++ List.replicate (11 - (lg_sl [.ref (ad 0), .long x, .long y, .long z]).length) Slot.unset).toArray = ls at hl ⊢
  have hl : lv_has ls 11 [(0, .ref (ad 0)), (1, .long x), (3, .long y), (5, .long z)] := hl
  generalize hargs : ([.ref (ad 0), .long x, .long y, .long z] : List Value).toArray = args at *
  show W p l e rmX3_lineOf s m args below meth c s.heap [] 0 0 _ (F0 m 0 ls [])
  refine lv_lload_n hx hb dX3_lineOf_0 rfl (lv_at hl 1 rfl) ?_
  refine lv_lload_n hx hb dX3_lineOf_1 rfl (lv_at hl 2 rfl) ?_
  refine lv_lload hx hb dX3_lineOf_2 (lv_at hl 3 rfl) ?_
  refine g_calll (va_runS (As := [.long y, .long z]) (rest := [.long x]) ⟨hx, hb, hml, hown, hts⟩ (ctX3_divisor l D cs ad I G AN AI AL _ y z hok.1) (va_cwS 2 hts (gi_S gw_672 gw_673 gw_57 gw_674) rfl rfl rfl (by decide +kernel) ⟨Nat.le_of_ble_eq_true rfl, Nat.le_of_ble_eq_true rfl⟩) ⟨g_blind, g_pre hP hK hD hN⟩ rfl rfl hl.1 rfl (lv_room (Nat.le_of_ble_eq_true rfl)) dX3_lineOf_4 ⟨Nat.zero_le _, Nat.zero_le _⟩) hD hS hA (fun r u H locs hw hP hD hS => ?_)
  obtain ⟨rfl, rfl⟩ := hw
  have hP : va_P D vc (wM cs ad I G AN AI AL) H := hP
  have hD : va_D A (wM cs ad I G AN AI AL) := hD
  refine g_calll (va_runS (As := [.long x, .long (dv64 y z)]) (rest := []) ⟨hx, hb, hml, hown, hts⟩ (ctX3_divisor l D cs ad I G AN AI AL _ x (dv64 y z) hok.2.1) (va_cwS 2 hts (gi_S gw_672 gw_673 gw_57 gw_674) rfl rfl rfl (by decide +kernel) ⟨Nat.le_of_ble_eq_true rfl, Nat.le_of_ble_eq_true rfl⟩) ⟨g_blind, g_pre hP hK hD hN⟩ rfl rfl hl.1 rfl (lv_room (Nat.le_of_ble_eq_true rfl)) dX3_lineOf_7 ⟨Nat.zero_le _, Nat.zero_le _⟩) hD hS hA (fun r u H locs hw hP hD hS => ?_)
  obtain ⟨rfl, rfl⟩ := hw
  have hP : va_P D vc (wM cs ad I G AN AI AL) H := hP
  have hD : va_D A (wM cs ad I G AN AI AL) := hD
  refine lv_lstore (lv' := [(7, .long (dv64 x (dv64 y z))), (0, .ref (ad 0)), (1, .long x), (3, .long y), (5, .long z)]) hx hb dX3_lineOf_10 hl (by decide) rfl (fun ls hl => ?_)
  refine lv_lload_n hx hb dX3_lineOf_12 rfl (lv_at hl 2 rfl) ?_
  refine lv_lconst (v := 0) hx hb dX3_lineOf_13 (by decide) ?_
  refine b_lceq (tgt := 22) hx hb dX3_lineOf_14 dX3_lineOf_15 (by decide) (fun h1 => ?_) (fun h1 => ?_)
  · refine lv_lload_n hx hb dX3_lineOf_22 rfl (lv_at hl 3 rfl) ?_
    refine lv_lconst (v := 0) hx hb dX3_lineOf_23 (by decide) ?_
    refine b_lceq (tgt := 32) hx hb dX3_lineOf_24 dX3_lineOf_25 (by decide) (fun h2 => ?_) (fun h2 => ?_)
    · refine lv_lload hx hb dX3_lineOf_32 (lv_at hl 4 rfl) ?_
      refine lv_topl (fun y9 e9 => ?_)
      have e9 : y9 = lnS x y z := e9.trans (show lnS x y z = _ from (if_neg (fun q => q h1)).trans (if_neg (fun q => q h2))).symm
      subst e9
      refine lv_lstore (lv' := [(9, .long (lnS x y z)), (7, .long (dv64 x (dv64 y z))), (0, .ref (ad 0)), (1, .long x), (3, .long y), (5, .long z)]) hx hb dX3_lineOf_34 hl (by decide) rfl (fun ls hl => ?_)
      refine lv_lload hx hb dX3_lineOf_36 (lv_at hl 0 rfl) ?_
      refine lv_lconst (v := 0) hx hb dX3_lineOf_38 (by decide) ?_
      refine b_lcge (tgt := 49) hx hb dX3_lineOf_39 dX3_lineOf_40 (by decide) (fun h9 => ?_) (fun h9 => ?_)
      · refine lv_lload hx hb dX3_lineOf_49 (lv_at hl 1 rfl) ?_
        refine lv_topl (fun y9 e9 => ?_)
        have e9 : y9 = lnH x y z := e9.trans (show lnH x y z = _ from if_neg h9).symm
        subst e9
        refine lv_lstore (lv' := [(7, .long (lnH x y z)), (9, .long (lnS x y z)), (0, .ref (ad 0)), (1, .long x), (3, .long y), (5, .long z)]) hx hb dX3_lineOf_51 hl (by decide) rfl (fun ls hl => ?_)
        refine lv_aload_n hx hb dX3_lineOf_53 rfl (lv_at hl 2 rfl) ?_
        refine lv_lload_n hx hb dX3_lineOf_54 rfl (lv_at hl 3 rfl) ?_
        refine lv_lload hx hb dX3_lineOf_55 (lv_at hl 0 rfl) ?_
        refine lv_ldiv hx hb dX3_lineOf_57 (hok.2.2) ?_
        refine lv_lload_n hx hb dX3_lineOf_58 rfl (lv_at hl 4 rfl) ?_
        refine lv_lload hx hb dX3_lineOf_59 (lv_at hl 0 rfl) ?_
        refine lv_ldiv hx hb dX3_lineOf_61 (hok.2.2) ?_
        refine lv_lload hx hb dX3_lineOf_62 (lv_at hl 5 rfl) ?_
        refine lv_lload hx hb dX3_lineOf_64 (lv_at hl 0 rfl) ?_
        refine lv_ldiv hx hb dX3_lineOf_66 (hok.2.2) ?_
        refine g_callv (va_runV (As := [.long (x / (lnH x y z)), .long (y / (lnH x y z)), .long (z / (lnH x y z))]) (rest := []) ⟨hx, hb, hml, hown, hts⟩ (ctX3_member l D cs ad I G AN AI AL _ (x / lnH x y z) (y / lnH x y z) (z / lnH x y z) h4) (cwV 3 hts (gi_V gw_691 gw_693 gw_43 gw_57 gw_694) rfl rfl rfl (by decide +kernel) ⟨Nat.le_of_ble_eq_true rfl, Nat.le_of_ble_eq_true rfl⟩) ⟨g_blind, va_recv hK hP (ci := 3) (q0 := 0) rfl (wm_at (by decide) rfl), g_pre hP hK hD hN⟩ rfl rfl hl.1 rfl (lv_room (Nat.le_of_ble_eq_true rfl)) dX3_lineOf_67 ⟨Nat.zero_le _, Nat.zero_le _⟩) hD hS hA (fun u H locs hw hP hD hS => ?_)
        obtain rfl := hw
        have hP : va_P D vc (wM cs ad (up1 I 4 (I 4 + 1)) G AN AI (memb (I 4) (x / lnH x y z) (y / lnH x y z) (z / lnH x y z) AL)) H := hP
        have hD : va_D A (wM cs ad (up1 I 4 (I 4 + 1)) G AN AI (memb (I 4) (x / lnH x y z) (y / lnH x y z) (z / lnH x y z) AL)) := hD
        exact g_vret hx hb hr hlocks (up1 I 4 (I 4 + 1), G, AN, AI, memb (I 4) (x / lnH x y z) (y / lnH x y z) (z / lnH x y z) AL) (rfl) hK hP hD hS dX3_lineOf_70
      · refine lv_lload hx hb dX3_lineOf_43 (lv_at hl 1 rfl) ?_
        refine lv_lneg hx hb dX3_lineOf_45 ?_
        refine lv_goto (tgt := 51) hx hb dX3_lineOf_46 (by decide) ?_
        refine lv_topl (fun y9 e9 => ?_)
        have e9 : y9 = lnH x y z := e9.trans (show lnH x y z = _ from if_pos h9).symm
        subst e9
        refine lv_lstore (lv' := [(7, .long (lnH x y z)), (9, .long (lnS x y z)), (0, .ref (ad 0)), (1, .long x), (3, .long y), (5, .long z)]) hx hb dX3_lineOf_51 hl (by decide) rfl (fun ls hl => ?_)
        refine lv_aload_n hx hb dX3_lineOf_53 rfl (lv_at hl 2 rfl) ?_
        refine lv_lload_n hx hb dX3_lineOf_54 rfl (lv_at hl 3 rfl) ?_
        refine lv_lload hx hb dX3_lineOf_55 (lv_at hl 0 rfl) ?_
        refine lv_ldiv hx hb dX3_lineOf_57 (hok.2.2) ?_
        refine lv_lload_n hx hb dX3_lineOf_58 rfl (lv_at hl 4 rfl) ?_
        refine lv_lload hx hb dX3_lineOf_59 (lv_at hl 0 rfl) ?_
        refine lv_ldiv hx hb dX3_lineOf_61 (hok.2.2) ?_
        refine lv_lload hx hb dX3_lineOf_62 (lv_at hl 5 rfl) ?_
        refine lv_lload hx hb dX3_lineOf_64 (lv_at hl 0 rfl) ?_
        refine lv_ldiv hx hb dX3_lineOf_66 (hok.2.2) ?_
        refine g_callv (va_runV (As := [.long (x / (lnH x y z)), .long (y / (lnH x y z)), .long (z / (lnH x y z))]) (rest := []) ⟨hx, hb, hml, hown, hts⟩ (ctX3_member l D cs ad I G AN AI AL _ (x / lnH x y z) (y / lnH x y z) (z / lnH x y z) h4) (cwV 3 hts (gi_V gw_691 gw_693 gw_43 gw_57 gw_694) rfl rfl rfl (by decide +kernel) ⟨Nat.le_of_ble_eq_true rfl, Nat.le_of_ble_eq_true rfl⟩) ⟨g_blind, va_recv hK hP (ci := 3) (q0 := 0) rfl (wm_at (by decide) rfl), g_pre hP hK hD hN⟩ rfl rfl hl.1 rfl (lv_room (Nat.le_of_ble_eq_true rfl)) dX3_lineOf_67 ⟨Nat.zero_le _, Nat.zero_le _⟩) hD hS hA (fun u H locs hw hP hD hS => ?_)
        obtain rfl := hw
        have hP : va_P D vc (wM cs ad (up1 I 4 (I 4 + 1)) G AN AI (memb (I 4) (x / lnH x y z) (y / lnH x y z) (z / lnH x y z) AL)) H := hP
        have hD : va_D A (wM cs ad (up1 I 4 (I 4 + 1)) G AN AI (memb (I 4) (x / lnH x y z) (y / lnH x y z) (z / lnH x y z) AL)) := hD
        exact g_vret hx hb hr hlocks (up1 I 4 (I 4 + 1), G, AN, AI, memb (I 4) (x / lnH x y z) (y / lnH x y z) (z / lnH x y z) AL) (rfl) hK hP hD hS dX3_lineOf_70
    · refine lv_lload_n hx hb dX3_lineOf_28 rfl (lv_at hl 3 rfl) ?_
      refine lv_goto (tgt := 34) hx hb dX3_lineOf_29 (by decide) ?_
      refine lv_topl (fun y9 e9 => ?_)
      have e9 : y9 = lnS x y z := e9.trans (show lnS x y z = _ from (if_neg (fun q => q h1)).trans (if_pos h2)).symm
      subst e9
      refine lv_lstore (lv' := [(9, .long (lnS x y z)), (7, .long (dv64 x (dv64 y z))), (0, .ref (ad 0)), (1, .long x), (3, .long y), (5, .long z)]) hx hb dX3_lineOf_34 hl (by decide) rfl (fun ls hl => ?_)
      refine lv_lload hx hb dX3_lineOf_36 (lv_at hl 0 rfl) ?_
      refine lv_lconst (v := 0) hx hb dX3_lineOf_38 (by decide) ?_
      refine b_lcge (tgt := 49) hx hb dX3_lineOf_39 dX3_lineOf_40 (by decide) (fun h9 => ?_) (fun h9 => ?_)
      · refine lv_lload hx hb dX3_lineOf_49 (lv_at hl 1 rfl) ?_
        refine lv_topl (fun y9 e9 => ?_)
        have e9 : y9 = lnH x y z := e9.trans (show lnH x y z = _ from if_neg h9).symm
        subst e9
        refine lv_lstore (lv' := [(7, .long (lnH x y z)), (9, .long (lnS x y z)), (0, .ref (ad 0)), (1, .long x), (3, .long y), (5, .long z)]) hx hb dX3_lineOf_51 hl (by decide) rfl (fun ls hl => ?_)
        refine lv_aload_n hx hb dX3_lineOf_53 rfl (lv_at hl 2 rfl) ?_
        refine lv_lload_n hx hb dX3_lineOf_54 rfl (lv_at hl 3 rfl) ?_
        refine lv_lload hx hb dX3_lineOf_55 (lv_at hl 0 rfl) ?_
        refine lv_ldiv hx hb dX3_lineOf_57 (hok.2.2) ?_
        refine lv_lload_n hx hb dX3_lineOf_58 rfl (lv_at hl 4 rfl) ?_
        refine lv_lload hx hb dX3_lineOf_59 (lv_at hl 0 rfl) ?_
        refine lv_ldiv hx hb dX3_lineOf_61 (hok.2.2) ?_
        refine lv_lload hx hb dX3_lineOf_62 (lv_at hl 5 rfl) ?_
        refine lv_lload hx hb dX3_lineOf_64 (lv_at hl 0 rfl) ?_
        refine lv_ldiv hx hb dX3_lineOf_66 (hok.2.2) ?_
        refine g_callv (va_runV (As := [.long (x / (lnH x y z)), .long (y / (lnH x y z)), .long (z / (lnH x y z))]) (rest := []) ⟨hx, hb, hml, hown, hts⟩ (ctX3_member l D cs ad I G AN AI AL _ (x / lnH x y z) (y / lnH x y z) (z / lnH x y z) h4) (cwV 3 hts (gi_V gw_691 gw_693 gw_43 gw_57 gw_694) rfl rfl rfl (by decide +kernel) ⟨Nat.le_of_ble_eq_true rfl, Nat.le_of_ble_eq_true rfl⟩) ⟨g_blind, va_recv hK hP (ci := 3) (q0 := 0) rfl (wm_at (by decide) rfl), g_pre hP hK hD hN⟩ rfl rfl hl.1 rfl (lv_room (Nat.le_of_ble_eq_true rfl)) dX3_lineOf_67 ⟨Nat.zero_le _, Nat.zero_le _⟩) hD hS hA (fun u H locs hw hP hD hS => ?_)
        obtain rfl := hw
        have hP : va_P D vc (wM cs ad (up1 I 4 (I 4 + 1)) G AN AI (memb (I 4) (x / lnH x y z) (y / lnH x y z) (z / lnH x y z) AL)) H := hP
        have hD : va_D A (wM cs ad (up1 I 4 (I 4 + 1)) G AN AI (memb (I 4) (x / lnH x y z) (y / lnH x y z) (z / lnH x y z) AL)) := hD
        exact g_vret hx hb hr hlocks (up1 I 4 (I 4 + 1), G, AN, AI, memb (I 4) (x / lnH x y z) (y / lnH x y z) (z / lnH x y z) AL) (rfl) hK hP hD hS dX3_lineOf_70
      · refine lv_lload hx hb dX3_lineOf_43 (lv_at hl 1 rfl) ?_
        refine lv_lneg hx hb dX3_lineOf_45 ?_
        refine lv_goto (tgt := 51) hx hb dX3_lineOf_46 (by decide) ?_
        refine lv_topl (fun y9 e9 => ?_)
        have e9 : y9 = lnH x y z := e9.trans (show lnH x y z = _ from if_pos h9).symm
        subst e9
        refine lv_lstore (lv' := [(7, .long (lnH x y z)), (9, .long (lnS x y z)), (0, .ref (ad 0)), (1, .long x), (3, .long y), (5, .long z)]) hx hb dX3_lineOf_51 hl (by decide) rfl (fun ls hl => ?_)
        refine lv_aload_n hx hb dX3_lineOf_53 rfl (lv_at hl 2 rfl) ?_
        refine lv_lload_n hx hb dX3_lineOf_54 rfl (lv_at hl 3 rfl) ?_
        refine lv_lload hx hb dX3_lineOf_55 (lv_at hl 0 rfl) ?_
        refine lv_ldiv hx hb dX3_lineOf_57 (hok.2.2) ?_
        refine lv_lload_n hx hb dX3_lineOf_58 rfl (lv_at hl 4 rfl) ?_
        refine lv_lload hx hb dX3_lineOf_59 (lv_at hl 0 rfl) ?_
        refine lv_ldiv hx hb dX3_lineOf_61 (hok.2.2) ?_
        refine lv_lload hx hb dX3_lineOf_62 (lv_at hl 5 rfl) ?_
        refine lv_lload hx hb dX3_lineOf_64 (lv_at hl 0 rfl) ?_
        refine lv_ldiv hx hb dX3_lineOf_66 (hok.2.2) ?_
        refine g_callv (va_runV (As := [.long (x / (lnH x y z)), .long (y / (lnH x y z)), .long (z / (lnH x y z))]) (rest := []) ⟨hx, hb, hml, hown, hts⟩ (ctX3_member l D cs ad I G AN AI AL _ (x / lnH x y z) (y / lnH x y z) (z / lnH x y z) h4) (cwV 3 hts (gi_V gw_691 gw_693 gw_43 gw_57 gw_694) rfl rfl rfl (by decide +kernel) ⟨Nat.le_of_ble_eq_true rfl, Nat.le_of_ble_eq_true rfl⟩) ⟨g_blind, va_recv hK hP (ci := 3) (q0 := 0) rfl (wm_at (by decide) rfl), g_pre hP hK hD hN⟩ rfl rfl hl.1 rfl (lv_room (Nat.le_of_ble_eq_true rfl)) dX3_lineOf_67 ⟨Nat.zero_le _, Nat.zero_le _⟩) hD hS hA (fun u H locs hw hP hD hS => ?_)
        obtain rfl := hw
        have hP : va_P D vc (wM cs ad (up1 I 4 (I 4 + 1)) G AN AI (memb (I 4) (x / lnH x y z) (y / lnH x y z) (z / lnH x y z) AL)) H := hP
        have hD : va_D A (wM cs ad (up1 I 4 (I 4 + 1)) G AN AI (memb (I 4) (x / lnH x y z) (y / lnH x y z) (z / lnH x y z) AL)) := hD
        exact g_vret hx hb hr hlocks (up1 I 4 (I 4 + 1), G, AN, AI, memb (I 4) (x / lnH x y z) (y / lnH x y z) (z / lnH x y z) AL) (rfl) hK hP hD hS dX3_lineOf_70
  · refine lv_lload_n hx hb dX3_lineOf_18 rfl (lv_at hl 2 rfl) ?_
    refine lv_goto (tgt := 34) hx hb dX3_lineOf_19 (by decide) ?_
    refine lv_topl (fun y9 e9 => ?_)
    have e9 : y9 = lnS x y z := e9.trans (show lnS x y z = _ from if_pos h1).symm
    subst e9
    refine lv_lstore (lv' := [(9, .long (lnS x y z)), (7, .long (dv64 x (dv64 y z))), (0, .ref (ad 0)), (1, .long x), (3, .long y), (5, .long z)]) hx hb dX3_lineOf_34 hl (by decide) rfl (fun ls hl => ?_)
    refine lv_lload hx hb dX3_lineOf_36 (lv_at hl 0 rfl) ?_
    refine lv_lconst (v := 0) hx hb dX3_lineOf_38 (by decide) ?_
    refine b_lcge (tgt := 49) hx hb dX3_lineOf_39 dX3_lineOf_40 (by decide) (fun h9 => ?_) (fun h9 => ?_)
    · refine lv_lload hx hb dX3_lineOf_49 (lv_at hl 1 rfl) ?_
      refine lv_topl (fun y9 e9 => ?_)
      have e9 : y9 = lnH x y z := e9.trans (show lnH x y z = _ from if_neg h9).symm
      subst e9
      refine lv_lstore (lv' := [(7, .long (lnH x y z)), (9, .long (lnS x y z)), (0, .ref (ad 0)), (1, .long x), (3, .long y), (5, .long z)]) hx hb dX3_lineOf_51 hl (by decide) rfl (fun ls hl => ?_)
      refine lv_aload_n hx hb dX3_lineOf_53 rfl (lv_at hl 2 rfl) ?_
      refine lv_lload_n hx hb dX3_lineOf_54 rfl (lv_at hl 3 rfl) ?_
      refine lv_lload hx hb dX3_lineOf_55 (lv_at hl 0 rfl) ?_
      refine lv_ldiv hx hb dX3_lineOf_57 (hok.2.2) ?_
      refine lv_lload_n hx hb dX3_lineOf_58 rfl (lv_at hl 4 rfl) ?_
      refine lv_lload hx hb dX3_lineOf_59 (lv_at hl 0 rfl) ?_
      refine lv_ldiv hx hb dX3_lineOf_61 (hok.2.2) ?_
      refine lv_lload hx hb dX3_lineOf_62 (lv_at hl 5 rfl) ?_
      refine lv_lload hx hb dX3_lineOf_64 (lv_at hl 0 rfl) ?_
      refine lv_ldiv hx hb dX3_lineOf_66 (hok.2.2) ?_
      refine g_callv (va_runV (As := [.long (x / (lnH x y z)), .long (y / (lnH x y z)), .long (z / (lnH x y z))]) (rest := []) ⟨hx, hb, hml, hown, hts⟩ (ctX3_member l D cs ad I G AN AI AL _ (x / lnH x y z) (y / lnH x y z) (z / lnH x y z) h4) (cwV 3 hts (gi_V gw_691 gw_693 gw_43 gw_57 gw_694) rfl rfl rfl (by decide +kernel) ⟨Nat.le_of_ble_eq_true rfl, Nat.le_of_ble_eq_true rfl⟩) ⟨g_blind, va_recv hK hP (ci := 3) (q0 := 0) rfl (wm_at (by decide) rfl), g_pre hP hK hD hN⟩ rfl rfl hl.1 rfl (lv_room (Nat.le_of_ble_eq_true rfl)) dX3_lineOf_67 ⟨Nat.zero_le _, Nat.zero_le _⟩) hD hS hA (fun u H locs hw hP hD hS => ?_)
      obtain rfl := hw
      have hP : va_P D vc (wM cs ad (up1 I 4 (I 4 + 1)) G AN AI (memb (I 4) (x / lnH x y z) (y / lnH x y z) (z / lnH x y z) AL)) H := hP
      have hD : va_D A (wM cs ad (up1 I 4 (I 4 + 1)) G AN AI (memb (I 4) (x / lnH x y z) (y / lnH x y z) (z / lnH x y z) AL)) := hD
      exact g_vret hx hb hr hlocks (up1 I 4 (I 4 + 1), G, AN, AI, memb (I 4) (x / lnH x y z) (y / lnH x y z) (z / lnH x y z) AL) (rfl) hK hP hD hS dX3_lineOf_70
    · refine lv_lload hx hb dX3_lineOf_43 (lv_at hl 1 rfl) ?_
      refine lv_lneg hx hb dX3_lineOf_45 ?_
      refine lv_goto (tgt := 51) hx hb dX3_lineOf_46 (by decide) ?_
      refine lv_topl (fun y9 e9 => ?_)
      have e9 : y9 = lnH x y z := e9.trans (show lnH x y z = _ from if_pos h9).symm
      subst e9
      refine lv_lstore (lv' := [(7, .long (lnH x y z)), (9, .long (lnS x y z)), (0, .ref (ad 0)), (1, .long x), (3, .long y), (5, .long z)]) hx hb dX3_lineOf_51 hl (by decide) rfl (fun ls hl => ?_)
      refine lv_aload_n hx hb dX3_lineOf_53 rfl (lv_at hl 2 rfl) ?_
      refine lv_lload_n hx hb dX3_lineOf_54 rfl (lv_at hl 3 rfl) ?_
      refine lv_lload hx hb dX3_lineOf_55 (lv_at hl 0 rfl) ?_
      refine lv_ldiv hx hb dX3_lineOf_57 (hok.2.2) ?_
      refine lv_lload_n hx hb dX3_lineOf_58 rfl (lv_at hl 4 rfl) ?_
      refine lv_lload hx hb dX3_lineOf_59 (lv_at hl 0 rfl) ?_
      refine lv_ldiv hx hb dX3_lineOf_61 (hok.2.2) ?_
      refine lv_lload hx hb dX3_lineOf_62 (lv_at hl 5 rfl) ?_
      refine lv_lload hx hb dX3_lineOf_64 (lv_at hl 0 rfl) ?_
      refine lv_ldiv hx hb dX3_lineOf_66 (hok.2.2) ?_
      refine g_callv (va_runV (As := [.long (x / (lnH x y z)), .long (y / (lnH x y z)), .long (z / (lnH x y z))]) (rest := []) ⟨hx, hb, hml, hown, hts⟩ (ctX3_member l D cs ad I G AN AI AL _ (x / lnH x y z) (y / lnH x y z) (z / lnH x y z) h4) (cwV 3 hts (gi_V gw_691 gw_693 gw_43 gw_57 gw_694) rfl rfl rfl (by decide +kernel) ⟨Nat.le_of_ble_eq_true rfl, Nat.le_of_ble_eq_true rfl⟩) ⟨g_blind, va_recv hK hP (ci := 3) (q0 := 0) rfl (wm_at (by decide) rfl), g_pre hP hK hD hN⟩ rfl rfl hl.1 rfl (lv_room (Nat.le_of_ble_eq_true rfl)) dX3_lineOf_67 ⟨Nat.zero_le _, Nat.zero_le _⟩) hD hS hA (fun u H locs hw hP hD hS => ?_)
      obtain rfl := hw
      have hP : va_P D vc (wM cs ad (up1 I 4 (I 4 + 1)) G AN AI (memb (I 4) (x / lnH x y z) (y / lnH x y z) (z / lnH x y z) AL)) H := hP
      have hD : va_D A (wM cs ad (up1 I 4 (I 4 + 1)) G AN AI (memb (I 4) (x / lnH x y z) (y / lnH x y z) (z / lnH x y z) AL)) := hD
      exact g_vret hx hb hr hlocks (up1 I 4 (I 4 + 1), G, AN, AI, memb (I 4) (x / lnH x y z) (y / lnH x y z) (z / lnH x y z) AL) (rfl) hK hP hD hS dX3_lineOf_70

/-- the first y from there on -/
def pY (a p q : Int64) : Nat → Int64 → Int64
  | 0, y => y
  | n + 1, y => if ¬ q = 0 ∧ ¬ (-a - p * y) - (-a - p * y) / q * q = 0 then pY a p q n (y + 1) else y
def pYT (a p q : Int64) : Nat → Int64 → Prop
  | 0, y => ¬ (¬ q = 0 ∧ ¬ (-a - p * y) - (-a - p * y) / q * q = 0)
  | n + 1, y => (¬ q = 0 ∧ ¬ (-a - p * y) - (-a - p * y) / q * q = 0) → pYT a p q n (y + 1)
def pQ (b c : Int64) : Int64 := c / dv64 b c
def pP (b c : Int64) : Int64 := b / dv64 b c
def pY0 (a b c : Int64) : Int64 := if pQ b c = 0 then -a / pP b c else 0
def pYf (a b c : Int64) : Int64 := pY a (pP b c) (pQ b c) 20 (pY0 a b c)
def pM (b c : Int64) : Int64 := if pQ b c < 0 then -pQ b c else pQ b c
def okPl (a b c : Int64) : Prop := ¬ (b = 0 ∧ c = 0) → okD b c ∧ ¬ dv64 b c = 0 ∧ (pQ b c = 0 → ¬ pP b c = 0) ∧ pYT a (pP b c) (pQ b c) 20 (pY0 a b c)
def pl1 (k : Nat) (a b c : Int64) (AL : Nat → Nat → Int64) : Nat → Nat → Int64 := memb k (dv64 b c) (pYf a b c) (if pQ b c = 0 then 0 else (-a - pP b c * pYf a b c) / pQ b c) AL
def plnA (k : Nat) (a b c : Int64) (AL : Nat → Nat → Int64) : Nat → Nat → Int64 :=
  if b = 0 ∧ c = 0 then memb (k + 1) 0 0 1 (memb k 0 1 0 AL)
  else if pQ b c = 0 then memb (k + 1) 0 0 1 (pl1 k a b c AL)
  else memb (k + 1) 0 (pM b c) (if pQ b c < 0 then pP b c else -pP b c) (pl1 k a b c AL)

abbrev rmX3_planeOf : Room := { frames := 1, cells := 0, slots := 0, locals := 29 }
set_option maxHeartbeats 4000000 in
set_option maxRecDepth 100000 in
theorem ctX3_planeOf (l : Launch) (D : va_G) (cs : Nat → ClassId) (ad : Nat → Nat) (I : Nat → Nat) (G : Nat → Int64) (AN : Nat → Nat → Nat) (AI : Nat → Int32) (AL : Nat → Nat → Int64) (sz : Nat) (x y z : Int64) (h4 : I 4 < 2) (hok : okPl x y z) : Met l yX3_planeOf (Cond.code yX3_planeOf cX3_planeOf 17 none :: GW) rmX3_planeOf (va_Pc [.ref (ad 0), .long x, .long y, .long z] (gP D cs (wM cs ad I G AN AI AL) sz)) (va_Qv (fun u : MS => u = (up1 I 4 (I 4 + 2), G, AN, AI, plnA (I 4) x y z AL)) (gB D cs (va_A (wM cs ad I G AN AI AL) sz) (wMs cs ad)) (va_A (wM cs ad I G AN AI AL) sz)) 0 0 (va_A (wM cs ad I G AN AI AL) sz) := by
  refine Met.ofW (cc := cX3_planeOf) (maxL := 17) (ret := none) (by decide) rfl ?_
  intro p e s m args below meth c s₁ B hml hv
  obtain ⟨rfl, hsz, hP, hK, hD0, hN⟩ := hv
  have hx := B.exec
  have hb := B.bytes
  have hr := B.returns
  have hts : ∀ w ∈ GW, w.before _ s = true := fun w h => atoms_spec (ws := Cond.code yX3_planeOf cX3_planeOf 17 none :: GW) B.pre w (List.mem_cons_of_mem _ h)
  have hown : s.vm.findClass RX3 = some m.cls := findClass_of_methodNamed B.named
  have hlocks := B.notSynchronized
  subst hsz
  have hD := hD0.self (sz := s.heap.size)
  generalize hAe : va_A (wM cs ad I G AN AI AL) s.heap.size = A at hD ⊢
  have hA : ∀ q : Nat, s.heap.size ≤ q → A q := fun q h => by rw [← hAe]; exact Or.inr h
  have hS : va_S A s.heap s.heap [] := va_S.rf
  have hl := lv_entry [.ref (ad 0), .long x, .long y, .long z] (n := 17) (Nat.le_of_ble_eq_true rfl)
  rw [lg_entry_eq]
  generalize (lg_sl [.ref (ad 0), .long x, .long y, .long z] ++ List.replicate (17 - (lg_sl [.ref (ad 0), .long x, .long y, .long z]).length) Slot.unset).toArray = ls at hl ⊢
  have hl : lv_has ls 17 [(0, .ref (ad 0)), (1, .long x), (3, .long y), (5, .long z)] := hl
  generalize hargs : ([.ref (ad 0), .long x, .long y, .long z] : List Value).toArray = args at *
  show W p l e rmX3_planeOf s m args below meth c s.heap [] 0 0 _ (F0 m 0 ls [])
  have lp84 : ∀ (Q : State → Prop) (n : Nat) (yy : Int64) (H : Heap) (locs : List Loc) (ls : Array Slot), pYT x (pP y z) (pQ y z) n yy → va_P D vc (wM cs ad I G AN AI AL) H → va_D A (wM cs ad I G AN AI AL) → va_S A s.heap H locs → lv_has ls 17 [(15, .long yy), (13, .long (pM y z)), (11, .long (pQ y z)), (9, .long (pP y z)), (7, .long (dv64 y z)), (0, .ref (ad 0)), (1, .long x), (3, .long y), (5, .long z)] → (∀ (H : Heap) (locs : List Loc) (ls : Array Slot), va_P D vc (wM cs ad I G AN AI AL) H → va_D A (wM cs ad I G AN AI AL) → va_S A s.heap H locs → lv_has ls 17 [(15, .long (pY x (pP y z) (pQ y z) n yy)), (13, .long (pM y z)), (11, .long (pQ y z)), (9, .long (pP y z)), (7, .long (dv64 y z)), (0, .ref (ad 0)), (1, .long x), (3, .long y), (5, .long z)] → W p l e rmX3_planeOf s m args below meth c H locs 0 0 Q (F0 m 116 ls [])) → W p l e rmX3_planeOf s m args below meth c H locs 0 0 Q (F0 m 84 ls []) := by
    intro Q n
    induction n with
    | zero =>
      intro yy H locs ls hT hP hD hS hl kx
      refine lv_lload hx hb dX3_planeOf_84 (lv_at hl 2 rfl) ?_
      refine lv_lconst (v := 0) hx hb dX3_planeOf_86 (by decide) ?_
      refine b_lceq (tgt := 116) hx hb dX3_planeOf_87 dX3_planeOf_88 (by decide) (fun hq => ?_) (fun hq => ?_)
      · exact kx H locs ls hP hD hS (lv_sub hl [0, 1, 2, 3, 4, 5, 6, 7, 8] rfl)
      · refine lv_lload_n hx hb dX3_planeOf_91 rfl (lv_at hl 6 rfl) ?_
        refine lv_lneg hx hb dX3_planeOf_92 ?_
        refine lv_lload hx hb dX3_planeOf_93 (lv_at hl 3 rfl) ?_
        refine lv_lload hx hb dX3_planeOf_95 (lv_at hl 0 rfl) ?_
        refine lv_lmul hx hb dX3_planeOf_97 ?_
        refine lv_lsub hx hb dX3_planeOf_98 ?_
        refine lv_lload hx hb dX3_planeOf_99 (lv_at hl 2 rfl) ?_
        refine lv_lrem hx hb dX3_planeOf_101 (hq) ?_
        refine lv_lconst (v := 0) hx hb dX3_planeOf_102 (by decide) ?_
        refine b_lceq (tgt := 116) hx hb dX3_planeOf_103 dX3_planeOf_104 (by decide) (fun hr9 => ?_) (fun hr9 => ?_)
        · exact kx H locs ls hP hD hS (lv_sub hl [0, 1, 2, 3, 4, 5, 6, 7, 8] rfl)
        · exact absurd ⟨hq, hr9⟩ hT
    | succ n ih =>
      intro yy H locs ls hT hP hD hS hl kx
      refine lv_lload hx hb dX3_planeOf_84 (lv_at hl 2 rfl) ?_
      refine lv_lconst (v := 0) hx hb dX3_planeOf_86 (by decide) ?_
      refine b_lceq (tgt := 116) hx hb dX3_planeOf_87 dX3_planeOf_88 (by decide) (fun hq => ?_) (fun hq => ?_)
      · rw [show pY x (pP y z) (pQ y z) (n + 1) yy = yy from if_neg (fun z9 => z9.1 hq)] at kx
        exact kx H locs ls hP hD hS (lv_sub hl [0, 1, 2, 3, 4, 5, 6, 7, 8] rfl)
      · refine lv_lload_n hx hb dX3_planeOf_91 rfl (lv_at hl 6 rfl) ?_
        refine lv_lneg hx hb dX3_planeOf_92 ?_
        refine lv_lload hx hb dX3_planeOf_93 (lv_at hl 3 rfl) ?_
        refine lv_lload hx hb dX3_planeOf_95 (lv_at hl 0 rfl) ?_
        refine lv_lmul hx hb dX3_planeOf_97 ?_
        refine lv_lsub hx hb dX3_planeOf_98 ?_
        refine lv_lload hx hb dX3_planeOf_99 (lv_at hl 2 rfl) ?_
        refine lv_lrem hx hb dX3_planeOf_101 (hq) ?_
        refine lv_lconst (v := 0) hx hb dX3_planeOf_102 (by decide) ?_
        refine b_lceq (tgt := 116) hx hb dX3_planeOf_103 dX3_planeOf_104 (by decide) (fun hr9 => ?_) (fun hr9 => ?_)
        · rw [show pY x (pP y z) (pQ y z) (n + 1) yy = yy from if_neg (fun z9 => z9.2 hr9)] at kx
          exact kx H locs ls hP hD hS (lv_sub hl [0, 1, 2, 3, 4, 5, 6, 7, 8] rfl)
        · refine lv_lload hx hb dX3_planeOf_107 (lv_at hl 0 rfl) ?_
          refine lv_lconst (v := 1) hx hb dX3_planeOf_109 (by decide) ?_
          refine lv_ladd hx hb dX3_planeOf_110 ?_
          refine lv_lstore (lv' := [(15, .long (yy + 1)), (13, .long (pM y z)), (11, .long (pQ y z)), (9, .long (pP y z)), (7, .long (dv64 y z)), (0, .ref (ad 0)), (1, .long x), (3, .long y), (5, .long z)]) hx hb dX3_planeOf_111 hl (by decide) rfl (fun ls hl => ?_)
          refine lv_goto (tgt := 84) hx hb dX3_planeOf_113 (by decide) ?_
          rw [show pY x (pP y z) (pQ y z) (n + 1) yy = pY x (pP y z) (pQ y z) n (yy + 1) from if_pos ⟨hq, hr9⟩] at kx
          exact ih (yy + 1) H locs ls (hT ⟨hq, hr9⟩) hP hD hS (lv_sub hl [0, 1, 2, 3, 4, 5, 6, 7, 8] rfl) kx
  refine lv_lload_n hx hb dX3_planeOf_0 rfl (lv_at hl 2 rfl) ?_
  refine lv_lconst (v := 0) hx hb dX3_planeOf_1 (by decide) ?_
  refine b_lcne (tgt := 28) hx hb dX3_planeOf_2 dX3_planeOf_3 (by decide) (fun hy => ?_) (fun hy => ?_)
  · have hbc : ¬ (y = 0 ∧ z = 0) := fun q => hy q.1
    obtain ⟨k1, k2, k3, k4⟩ := hok hbc
    refine lv_lload_n hx hb dX3_planeOf_28 rfl (lv_at hl 2 rfl) ?_
    refine lv_lload hx hb dX3_planeOf_29 (lv_at hl 3 rfl) ?_
    refine g_calll (va_runS (As := [.long y, .long z]) (rest := []) ⟨hx, hb, hml, hown, hts⟩ (ctX3_divisor l D cs ad I G AN AI AL _ y z k1) (va_cwS 2 hts (gi_S gw_672 gw_673 gw_57 gw_674) rfl rfl rfl (by decide +kernel) ⟨Nat.le_of_ble_eq_true rfl, Nat.le_of_ble_eq_true rfl⟩) ⟨g_blind, g_pre hP hK hD hN⟩ rfl rfl hl.1 rfl (lv_room (Nat.le_of_ble_eq_true rfl)) dX3_planeOf_31 ⟨Nat.zero_le _, Nat.zero_le _⟩) hD hS hA (fun r u H locs hw hP hD hS => ?_)
    obtain ⟨rfl, rfl⟩ := hw
    have hP : va_P D vc (wM cs ad I G AN AI AL) H := hP
    have hD : va_D A (wM cs ad I G AN AI AL) := hD
    refine lv_lstore (lv' := [(7, .long (dv64 y z)), (0, .ref (ad 0)), (1, .long x), (3, .long y), (5, .long z)]) hx hb dX3_planeOf_34 hl (by decide) rfl (fun ls hl => ?_)
    refine lv_lload_n hx hb dX3_planeOf_36 rfl (lv_at hl 3 rfl) ?_
    refine lv_lload hx hb dX3_planeOf_37 (lv_at hl 0 rfl) ?_
    refine lv_ldiv hx hb dX3_planeOf_39 (k2) ?_
    refine lv_lstore (lv' := [(9, .long (y / (dv64 y z))), (7, .long (dv64 y z)), (0, .ref (ad 0)), (1, .long x), (3, .long y), (5, .long z)]) hx hb dX3_planeOf_40 hl (by decide) rfl (fun ls hl => ?_)
    refine lv_lload hx hb dX3_planeOf_42 (lv_at hl 5 rfl) ?_
    refine lv_lload hx hb dX3_planeOf_44 (lv_at hl 1 rfl) ?_
    refine lv_ldiv hx hb dX3_planeOf_46 (k2) ?_
    refine lv_lstore (lv' := [(11, .long (z / (dv64 y z))), (9, .long (y / (dv64 y z))), (7, .long (dv64 y z)), (0, .ref (ad 0)), (1, .long x), (3, .long y), (5, .long z)]) hx hb dX3_planeOf_47 hl (by decide) rfl (fun ls hl => ?_)
    refine lv_lload hx hb dX3_planeOf_49 (lv_at hl 0 rfl) ?_
    refine lv_lconst (v := 0) hx hb dX3_planeOf_51 (by decide) ?_
    have hl : lv_has ls 17 [(11, .long (pQ y z)), (9, .long (pP y z)), (7, .long (dv64 y z)), (0, .ref (ad 0)), (1, .long x), (3, .long y), (5, .long z)] := hl
    show W p l e rmX3_planeOf s m args below meth c _ _ 0 0 _ (F0 m 52 ls [.long 0, .long (pQ y z)])
    refine b_lcge (tgt := 62) hx hb dX3_planeOf_52 dX3_planeOf_53 (by decide) (fun hq => ?_) (fun hq => ?_)
    · refine lv_lload hx hb dX3_planeOf_62 (lv_at hl 0 rfl) ?_
      refine lv_topl (fun y9 e9 => ?_)
      have e9 : y9 = pM y z := e9.trans (show pM y z = _ from if_neg hq).symm
      subst e9
      refine lv_lstore (lv' := [(13, .long (pM y z)), (11, .long (pQ y z)), (9, .long (pP y z)), (7, .long (dv64 y z)), (0, .ref (ad 0)), (1, .long x), (3, .long y), (5, .long z)]) hx hb dX3_planeOf_64 hl (by decide) rfl (fun ls hl => ?_)
      refine lv_lload hx hb dX3_planeOf_66 (lv_at hl 1 rfl) ?_
      refine lv_lconst (v := 0) hx hb dX3_planeOf_68 (by decide) ?_
      refine b_lcne (tgt := 81) hx hb dX3_planeOf_69 dX3_planeOf_70 (by decide) (fun hz => ?_) (fun hz => ?_)
      · refine lv_lconst (v := 0) hx hb dX3_planeOf_81 (by decide) ?_
        refine lv_topl (fun y9 e9 => ?_)
        have e9 : y9 = pY0 x y z := e9.trans (show pY0 x y z = _ from if_neg hz).symm
        subst e9
        refine lv_lstore (lv' := [(15, .long (pY0 x y z)), (13, .long (pM y z)), (11, .long (pQ y z)), (9, .long (pP y z)), (7, .long (dv64 y z)), (0, .ref (ad 0)), (1, .long x), (3, .long y), (5, .long z)]) hx hb dX3_planeOf_82 hl (by decide) rfl (fun ls hl => ?_)
        refine lp84 _ 20 (pY0 x y z) _ _ ls k4 hP hD hS (lv_sub hl [0, 1, 2, 3, 4, 5, 6, 7, 8] rfl) (fun H locs ls hP hD hS hl => ?_)
        have hl : lv_has ls 17 [(15, .long (pYf x y z)), (13, .long (pM y z)), (11, .long (pQ y z)), (9, .long (pP y z)), (7, .long (dv64 y z)), (0, .ref (ad 0)), (1, .long x), (3, .long y), (5, .long z)] := hl
        refine lv_aload_n hx hb dX3_planeOf_116 rfl (lv_at hl 5 rfl) ?_
        refine lv_lload hx hb dX3_planeOf_117 (lv_at hl 4 rfl) ?_
        refine lv_lload hx hb dX3_planeOf_119 (lv_at hl 0 rfl) ?_
        refine lv_lload hx hb dX3_planeOf_121 (lv_at hl 2 rfl) ?_
        refine lv_lconst (v := 0) hx hb dX3_planeOf_123 (by decide) ?_
        refine b_lcne (tgt := 132) hx hb dX3_planeOf_124 dX3_planeOf_125 (by decide) (fun hz2 => ?_) (fun hz2 => ?_)
        · refine lv_lload_n hx hb dX3_planeOf_132 rfl (lv_at hl 6 rfl) ?_
          refine lv_lneg hx hb dX3_planeOf_133 ?_
          refine lv_lload hx hb dX3_planeOf_134 (lv_at hl 3 rfl) ?_
          refine lv_lload hx hb dX3_planeOf_136 (lv_at hl 0 rfl) ?_
          refine lv_lmul hx hb dX3_planeOf_138 ?_
          refine lv_lsub hx hb dX3_planeOf_139 ?_
          refine lv_lload hx hb dX3_planeOf_140 (lv_at hl 2 rfl) ?_
          refine lv_ldiv hx hb dX3_planeOf_142 (hz2) ?_
          refine lv_topl (fun y9 e9 => ?_)
          have e9 : y9 = if pQ y z = 0 then 0 else (-x - pP y z * pYf x y z) / pQ y z := e9.trans (if_neg hz2).symm
          subst e9
          refine g_callv (va_runV (As := [.long (dv64 y z), .long (pYf x y z), .long (if pQ y z = 0 then 0 else (-x - pP y z * pYf x y z) / pQ y z)]) (rest := []) ⟨hx, hb, hml, hown, hts⟩ (ctX3_member l D cs ad I G AN AI AL _ (dv64 y z) (pYf x y z) (if pQ y z = 0 then 0 else (-x - pP y z * pYf x y z) / pQ y z) (by omega)) (cwV 3 hts (gi_V gw_691 gw_693 gw_43 gw_57 gw_694) rfl rfl rfl (by decide +kernel) ⟨Nat.le_of_ble_eq_true rfl, Nat.le_of_ble_eq_true rfl⟩) ⟨g_blind, va_recv hK hP (ci := 3) (q0 := 0) rfl (wm_at (by decide) rfl), g_pre hP hK hD hN⟩ rfl rfl hl.1 rfl (lv_room (Nat.le_of_ble_eq_true rfl)) dX3_planeOf_143 ⟨Nat.zero_le _, Nat.zero_le _⟩) hD hS hA (fun u H locs hw hP hD hS => ?_)
          obtain rfl := hw
          have hP : va_P D vc (wM cs ad (up1 I 4 (I 4 + 1)) G AN AI (pl1 (I 4) x y z AL)) H := hP
          have hD : va_D A (wM cs ad (up1 I 4 (I 4 + 1)) G AN AI (pl1 (I 4) x y z AL)) := hD
          refine lv_lload hx hb dX3_planeOf_146 (lv_at hl 2 rfl) ?_
          refine lv_lconst (v := 0) hx hb dX3_planeOf_148 (by decide) ?_
          refine b_lcne (tgt := 163) hx hb dX3_planeOf_149 dX3_planeOf_150 (by decide) (fun hz3 => ?_) (fun hz3 => ?_)
          · refine lv_aload_n hx hb dX3_planeOf_163 rfl (lv_at hl 5 rfl) ?_
            refine lv_lconst (v := 0) hx hb dX3_planeOf_164 (by decide) ?_
            refine lv_lload hx hb dX3_planeOf_165 (lv_at hl 1 rfl) ?_
            refine lv_lload hx hb dX3_planeOf_167 (lv_at hl 2 rfl) ?_
            refine lv_lconst (v := 0) hx hb dX3_planeOf_169 (by decide) ?_
            refine b_lcge (tgt := 179) hx hb dX3_planeOf_170 dX3_planeOf_171 (by decide) (fun hq5 => ?_) (fun hq5 => ?_)
            · refine lv_lload hx hb dX3_planeOf_179 (lv_at hl 3 rfl) ?_
              refine lv_lneg hx hb dX3_planeOf_181 ?_
              refine lv_topl (fun y9 e9 => ?_)
              have e9 : y9 = if pQ y z < 0 then pP y z else -pP y z := e9.trans (if_neg hq5).symm
              subst e9
              refine g_callv (va_runV (As := [.long 0, .long (pM y z), .long (if pQ y z < 0 then pP y z else -pP y z)]) (rest := []) ⟨hx, hb, hml, hown, hts⟩ (ctX3_member l D cs ad (up1 I 4 (I 4 + 1)) G AN AI (pl1 (I 4) x y z AL) _ 0 (pM y z) (if pQ y z < 0 then pP y z else -pP y z) (show I 4 + 1 < 3 by omega)) (cwV 3 hts (gi_V gw_691 gw_693 gw_43 gw_57 gw_694) rfl rfl rfl (by decide +kernel) ⟨Nat.le_of_ble_eq_true rfl, Nat.le_of_ble_eq_true rfl⟩) ⟨g_blind, va_recv hK hP (ci := 3) (q0 := 0) rfl (wm_at (by decide) rfl), g_pre hP hK hD hN⟩ rfl rfl hl.1 rfl (lv_room (Nat.le_of_ble_eq_true rfl)) dX3_planeOf_182 ⟨Nat.zero_le _, Nat.zero_le _⟩) hD hS hA (fun u H locs hw hP hD hS => ?_)
              obtain rfl := hw
              have hP : va_P D vc (wM cs ad (up1 (up1 I 4 (I 4 + 1)) 4 (I 4 + 2)) G AN AI (memb (I 4 + 1) 0 (pM y z) (if pQ y z < 0 then pP y z else -pP y z) (pl1 (I 4) x y z AL))) H := hP
              have hD : va_D A (wM cs ad (up1 (up1 I 4 (I 4 + 1)) 4 (I 4 + 2)) G AN AI (memb (I 4 + 1) 0 (pM y z) (if pQ y z < 0 then pP y z else -pP y z) (pl1 (I 4) x y z AL))) := hD
              rw [up1_1] at hP hD
              exact g_vret hx hb hr hlocks (up1 I 4 (I 4 + 2), G, AN, AI, memb (I 4 + 1) 0 (pM y z) (if pQ y z < 0 then pP y z else -pP y z) (pl1 (I 4) x y z AL)) (by unfold plnA; rw [if_neg hbc, if_neg hz2]) hK hP hD hS dX3_planeOf_185
            · refine lv_lload hx hb dX3_planeOf_174 (lv_at hl 3 rfl) ?_
              refine lv_goto (tgt := 182) hx hb dX3_planeOf_176 (by decide) ?_
              refine lv_topl (fun y9 e9 => ?_)
              have e9 : y9 = if pQ y z < 0 then pP y z else -pP y z := e9.trans (if_pos hq5).symm
              subst e9
              refine g_callv (va_runV (As := [.long 0, .long (pM y z), .long (if pQ y z < 0 then pP y z else -pP y z)]) (rest := []) ⟨hx, hb, hml, hown, hts⟩ (ctX3_member l D cs ad (up1 I 4 (I 4 + 1)) G AN AI (pl1 (I 4) x y z AL) _ 0 (pM y z) (if pQ y z < 0 then pP y z else -pP y z) (show I 4 + 1 < 3 by omega)) (cwV 3 hts (gi_V gw_691 gw_693 gw_43 gw_57 gw_694) rfl rfl rfl (by decide +kernel) ⟨Nat.le_of_ble_eq_true rfl, Nat.le_of_ble_eq_true rfl⟩) ⟨g_blind, va_recv hK hP (ci := 3) (q0 := 0) rfl (wm_at (by decide) rfl), g_pre hP hK hD hN⟩ rfl rfl hl.1 rfl (lv_room (Nat.le_of_ble_eq_true rfl)) dX3_planeOf_182 ⟨Nat.zero_le _, Nat.zero_le _⟩) hD hS hA (fun u H locs hw hP hD hS => ?_)
              obtain rfl := hw
              have hP : va_P D vc (wM cs ad (up1 (up1 I 4 (I 4 + 1)) 4 (I 4 + 2)) G AN AI (memb (I 4 + 1) 0 (pM y z) (if pQ y z < 0 then pP y z else -pP y z) (pl1 (I 4) x y z AL))) H := hP
              have hD : va_D A (wM cs ad (up1 (up1 I 4 (I 4 + 1)) 4 (I 4 + 2)) G AN AI (memb (I 4 + 1) 0 (pM y z) (if pQ y z < 0 then pP y z else -pP y z) (pl1 (I 4) x y z AL))) := hD
              rw [up1_1] at hP hD
              exact g_vret hx hb hr hlocks (up1 I 4 (I 4 + 2), G, AN, AI, memb (I 4 + 1) 0 (pM y z) (if pQ y z < 0 then pP y z else -pP y z) (pl1 (I 4) x y z AL)) (by unfold plnA; rw [if_neg hbc, if_neg hz2]) hK hP hD hS dX3_planeOf_185
          · exact absurd hz3 hz2
        · exact absurd hz2 hz
      · refine lv_lload_n hx hb dX3_planeOf_73 rfl (lv_at hl 5 rfl) ?_
        refine lv_lneg hx hb dX3_planeOf_74 ?_
        refine lv_lload hx hb dX3_planeOf_75 (lv_at hl 2 rfl) ?_
        refine lv_ldiv hx hb dX3_planeOf_77 (k3 hz) ?_
        refine lv_goto (tgt := 82) hx hb dX3_planeOf_78 (by decide) ?_
        refine lv_topl (fun y9 e9 => ?_)
        have e9 : y9 = pY0 x y z := e9.trans (show pY0 x y z = _ from if_pos hz).symm
        subst e9
        refine lv_lstore (lv' := [(15, .long (pY0 x y z)), (13, .long (pM y z)), (11, .long (pQ y z)), (9, .long (pP y z)), (7, .long (dv64 y z)), (0, .ref (ad 0)), (1, .long x), (3, .long y), (5, .long z)]) hx hb dX3_planeOf_82 hl (by decide) rfl (fun ls hl => ?_)
        refine lp84 _ 20 (pY0 x y z) _ _ ls k4 hP hD hS (lv_sub hl [0, 1, 2, 3, 4, 5, 6, 7, 8] rfl) (fun H locs ls hP hD hS hl => ?_)
        have hl : lv_has ls 17 [(15, .long (pYf x y z)), (13, .long (pM y z)), (11, .long (pQ y z)), (9, .long (pP y z)), (7, .long (dv64 y z)), (0, .ref (ad 0)), (1, .long x), (3, .long y), (5, .long z)] := hl
        refine lv_aload_n hx hb dX3_planeOf_116 rfl (lv_at hl 5 rfl) ?_
        refine lv_lload hx hb dX3_planeOf_117 (lv_at hl 4 rfl) ?_
        refine lv_lload hx hb dX3_planeOf_119 (lv_at hl 0 rfl) ?_
        refine lv_lload hx hb dX3_planeOf_121 (lv_at hl 2 rfl) ?_
        refine lv_lconst (v := 0) hx hb dX3_planeOf_123 (by decide) ?_
        refine b_lcne (tgt := 132) hx hb dX3_planeOf_124 dX3_planeOf_125 (by decide) (fun hz2 => ?_) (fun hz2 => ?_)
        · exact absurd hz hz2
        · refine lv_lconst (v := 0) hx hb dX3_planeOf_128 (by decide) ?_
          refine lv_goto (tgt := 143) hx hb dX3_planeOf_129 (by decide) ?_
          refine lv_topl (fun y9 e9 => ?_)
          have e9 : y9 = if pQ y z = 0 then 0 else (-x - pP y z * pYf x y z) / pQ y z := e9.trans (if_pos hz2).symm
          subst e9
          refine g_callv (va_runV (As := [.long (dv64 y z), .long (pYf x y z), .long (if pQ y z = 0 then 0 else (-x - pP y z * pYf x y z) / pQ y z)]) (rest := []) ⟨hx, hb, hml, hown, hts⟩ (ctX3_member l D cs ad I G AN AI AL _ (dv64 y z) (pYf x y z) (if pQ y z = 0 then 0 else (-x - pP y z * pYf x y z) / pQ y z) (by omega)) (cwV 3 hts (gi_V gw_691 gw_693 gw_43 gw_57 gw_694) rfl rfl rfl (by decide +kernel) ⟨Nat.le_of_ble_eq_true rfl, Nat.le_of_ble_eq_true rfl⟩) ⟨g_blind, va_recv hK hP (ci := 3) (q0 := 0) rfl (wm_at (by decide) rfl), g_pre hP hK hD hN⟩ rfl rfl hl.1 rfl (lv_room (Nat.le_of_ble_eq_true rfl)) dX3_planeOf_143 ⟨Nat.zero_le _, Nat.zero_le _⟩) hD hS hA (fun u H locs hw hP hD hS => ?_)
          obtain rfl := hw
          have hP : va_P D vc (wM cs ad (up1 I 4 (I 4 + 1)) G AN AI (pl1 (I 4) x y z AL)) H := hP
          have hD : va_D A (wM cs ad (up1 I 4 (I 4 + 1)) G AN AI (pl1 (I 4) x y z AL)) := hD
          refine lv_lload hx hb dX3_planeOf_146 (lv_at hl 2 rfl) ?_
          refine lv_lconst (v := 0) hx hb dX3_planeOf_148 (by decide) ?_
          refine b_lcne (tgt := 163) hx hb dX3_planeOf_149 dX3_planeOf_150 (by decide) (fun hz3 => ?_) (fun hz3 => ?_)
          · exact absurd hz2 hz3
          · refine lv_aload_n hx hb dX3_planeOf_153 rfl (lv_at hl 5 rfl) ?_
            refine lv_lconst (v := 0) hx hb dX3_planeOf_154 (by decide) ?_
            refine lv_lconst (v := 0) hx hb dX3_planeOf_155 (by decide) ?_
            refine lv_lconst (v := 1) hx hb dX3_planeOf_156 (by decide) ?_
            refine g_callv (va_runV (As := [.long 0, .long 0, .long 1]) (rest := []) ⟨hx, hb, hml, hown, hts⟩ (ctX3_member l D cs ad (up1 I 4 (I 4 + 1)) G AN AI (pl1 (I 4) x y z AL) _ 0 0 1 (show I 4 + 1 < 3 by omega)) (cwV 3 hts (gi_V gw_691 gw_693 gw_43 gw_57 gw_694) rfl rfl rfl (by decide +kernel) ⟨Nat.le_of_ble_eq_true rfl, Nat.le_of_ble_eq_true rfl⟩) ⟨g_blind, va_recv hK hP (ci := 3) (q0 := 0) rfl (wm_at (by decide) rfl), g_pre hP hK hD hN⟩ rfl rfl hl.1 rfl (lv_room (Nat.le_of_ble_eq_true rfl)) dX3_planeOf_157 ⟨Nat.zero_le _, Nat.zero_le _⟩) hD hS hA (fun u H locs hw hP hD hS => ?_)
            obtain rfl := hw
            have hP : va_P D vc (wM cs ad (up1 (up1 I 4 (I 4 + 1)) 4 (I 4 + 2)) G AN AI (memb (I 4 + 1) 0 0 1 (pl1 (I 4) x y z AL))) H := hP
            have hD : va_D A (wM cs ad (up1 (up1 I 4 (I 4 + 1)) 4 (I 4 + 2)) G AN AI (memb (I 4 + 1) 0 0 1 (pl1 (I 4) x y z AL))) := hD
            rw [up1_1] at hP hD
            refine lv_goto (tgt := 185) hx hb dX3_planeOf_160 (by decide) ?_
            exact g_vret hx hb hr hlocks (up1 I 4 (I 4 + 2), G, AN, AI, memb (I 4 + 1) 0 0 1 (pl1 (I 4) x y z AL)) (by unfold plnA; rw [if_neg hbc, if_pos hz2]) hK hP hD hS dX3_planeOf_185
    · refine lv_lload hx hb dX3_planeOf_56 (lv_at hl 0 rfl) ?_
      refine lv_lneg hx hb dX3_planeOf_58 ?_
      refine lv_goto (tgt := 64) hx hb dX3_planeOf_59 (by decide) ?_
      refine lv_topl (fun y9 e9 => ?_)
      have e9 : y9 = pM y z := e9.trans (show pM y z = _ from if_pos hq).symm
      subst e9
      refine lv_lstore (lv' := [(13, .long (pM y z)), (11, .long (pQ y z)), (9, .long (pP y z)), (7, .long (dv64 y z)), (0, .ref (ad 0)), (1, .long x), (3, .long y), (5, .long z)]) hx hb dX3_planeOf_64 hl (by decide) rfl (fun ls hl => ?_)
      refine lv_lload hx hb dX3_planeOf_66 (lv_at hl 1 rfl) ?_
      refine lv_lconst (v := 0) hx hb dX3_planeOf_68 (by decide) ?_
      refine b_lcne (tgt := 81) hx hb dX3_planeOf_69 dX3_planeOf_70 (by decide) (fun hz => ?_) (fun hz => ?_)
      · refine lv_lconst (v := 0) hx hb dX3_planeOf_81 (by decide) ?_
        refine lv_topl (fun y9 e9 => ?_)
        have e9 : y9 = pY0 x y z := e9.trans (show pY0 x y z = _ from if_neg hz).symm
        subst e9
        refine lv_lstore (lv' := [(15, .long (pY0 x y z)), (13, .long (pM y z)), (11, .long (pQ y z)), (9, .long (pP y z)), (7, .long (dv64 y z)), (0, .ref (ad 0)), (1, .long x), (3, .long y), (5, .long z)]) hx hb dX3_planeOf_82 hl (by decide) rfl (fun ls hl => ?_)
        refine lp84 _ 20 (pY0 x y z) _ _ ls k4 hP hD hS (lv_sub hl [0, 1, 2, 3, 4, 5, 6, 7, 8] rfl) (fun H locs ls hP hD hS hl => ?_)
        have hl : lv_has ls 17 [(15, .long (pYf x y z)), (13, .long (pM y z)), (11, .long (pQ y z)), (9, .long (pP y z)), (7, .long (dv64 y z)), (0, .ref (ad 0)), (1, .long x), (3, .long y), (5, .long z)] := hl
        refine lv_aload_n hx hb dX3_planeOf_116 rfl (lv_at hl 5 rfl) ?_
        refine lv_lload hx hb dX3_planeOf_117 (lv_at hl 4 rfl) ?_
        refine lv_lload hx hb dX3_planeOf_119 (lv_at hl 0 rfl) ?_
        refine lv_lload hx hb dX3_planeOf_121 (lv_at hl 2 rfl) ?_
        refine lv_lconst (v := 0) hx hb dX3_planeOf_123 (by decide) ?_
        refine b_lcne (tgt := 132) hx hb dX3_planeOf_124 dX3_planeOf_125 (by decide) (fun hz2 => ?_) (fun hz2 => ?_)
        · refine lv_lload_n hx hb dX3_planeOf_132 rfl (lv_at hl 6 rfl) ?_
          refine lv_lneg hx hb dX3_planeOf_133 ?_
          refine lv_lload hx hb dX3_planeOf_134 (lv_at hl 3 rfl) ?_
          refine lv_lload hx hb dX3_planeOf_136 (lv_at hl 0 rfl) ?_
          refine lv_lmul hx hb dX3_planeOf_138 ?_
          refine lv_lsub hx hb dX3_planeOf_139 ?_
          refine lv_lload hx hb dX3_planeOf_140 (lv_at hl 2 rfl) ?_
          refine lv_ldiv hx hb dX3_planeOf_142 (hz2) ?_
          refine lv_topl (fun y9 e9 => ?_)
          have e9 : y9 = if pQ y z = 0 then 0 else (-x - pP y z * pYf x y z) / pQ y z := e9.trans (if_neg hz2).symm
          subst e9
          refine g_callv (va_runV (As := [.long (dv64 y z), .long (pYf x y z), .long (if pQ y z = 0 then 0 else (-x - pP y z * pYf x y z) / pQ y z)]) (rest := []) ⟨hx, hb, hml, hown, hts⟩ (ctX3_member l D cs ad I G AN AI AL _ (dv64 y z) (pYf x y z) (if pQ y z = 0 then 0 else (-x - pP y z * pYf x y z) / pQ y z) (by omega)) (cwV 3 hts (gi_V gw_691 gw_693 gw_43 gw_57 gw_694) rfl rfl rfl (by decide +kernel) ⟨Nat.le_of_ble_eq_true rfl, Nat.le_of_ble_eq_true rfl⟩) ⟨g_blind, va_recv hK hP (ci := 3) (q0 := 0) rfl (wm_at (by decide) rfl), g_pre hP hK hD hN⟩ rfl rfl hl.1 rfl (lv_room (Nat.le_of_ble_eq_true rfl)) dX3_planeOf_143 ⟨Nat.zero_le _, Nat.zero_le _⟩) hD hS hA (fun u H locs hw hP hD hS => ?_)
          obtain rfl := hw
          have hP : va_P D vc (wM cs ad (up1 I 4 (I 4 + 1)) G AN AI (pl1 (I 4) x y z AL)) H := hP
          have hD : va_D A (wM cs ad (up1 I 4 (I 4 + 1)) G AN AI (pl1 (I 4) x y z AL)) := hD
          refine lv_lload hx hb dX3_planeOf_146 (lv_at hl 2 rfl) ?_
          refine lv_lconst (v := 0) hx hb dX3_planeOf_148 (by decide) ?_
          refine b_lcne (tgt := 163) hx hb dX3_planeOf_149 dX3_planeOf_150 (by decide) (fun hz3 => ?_) (fun hz3 => ?_)
          · refine lv_aload_n hx hb dX3_planeOf_163 rfl (lv_at hl 5 rfl) ?_
            refine lv_lconst (v := 0) hx hb dX3_planeOf_164 (by decide) ?_
            refine lv_lload hx hb dX3_planeOf_165 (lv_at hl 1 rfl) ?_
            refine lv_lload hx hb dX3_planeOf_167 (lv_at hl 2 rfl) ?_
            refine lv_lconst (v := 0) hx hb dX3_planeOf_169 (by decide) ?_
            refine b_lcge (tgt := 179) hx hb dX3_planeOf_170 dX3_planeOf_171 (by decide) (fun hq5 => ?_) (fun hq5 => ?_)
            · refine lv_lload hx hb dX3_planeOf_179 (lv_at hl 3 rfl) ?_
              refine lv_lneg hx hb dX3_planeOf_181 ?_
              refine lv_topl (fun y9 e9 => ?_)
              have e9 : y9 = if pQ y z < 0 then pP y z else -pP y z := e9.trans (if_neg hq5).symm
              subst e9
              refine g_callv (va_runV (As := [.long 0, .long (pM y z), .long (if pQ y z < 0 then pP y z else -pP y z)]) (rest := []) ⟨hx, hb, hml, hown, hts⟩ (ctX3_member l D cs ad (up1 I 4 (I 4 + 1)) G AN AI (pl1 (I 4) x y z AL) _ 0 (pM y z) (if pQ y z < 0 then pP y z else -pP y z) (show I 4 + 1 < 3 by omega)) (cwV 3 hts (gi_V gw_691 gw_693 gw_43 gw_57 gw_694) rfl rfl rfl (by decide +kernel) ⟨Nat.le_of_ble_eq_true rfl, Nat.le_of_ble_eq_true rfl⟩) ⟨g_blind, va_recv hK hP (ci := 3) (q0 := 0) rfl (wm_at (by decide) rfl), g_pre hP hK hD hN⟩ rfl rfl hl.1 rfl (lv_room (Nat.le_of_ble_eq_true rfl)) dX3_planeOf_182 ⟨Nat.zero_le _, Nat.zero_le _⟩) hD hS hA (fun u H locs hw hP hD hS => ?_)
              obtain rfl := hw
              have hP : va_P D vc (wM cs ad (up1 (up1 I 4 (I 4 + 1)) 4 (I 4 + 2)) G AN AI (memb (I 4 + 1) 0 (pM y z) (if pQ y z < 0 then pP y z else -pP y z) (pl1 (I 4) x y z AL))) H := hP
              have hD : va_D A (wM cs ad (up1 (up1 I 4 (I 4 + 1)) 4 (I 4 + 2)) G AN AI (memb (I 4 + 1) 0 (pM y z) (if pQ y z < 0 then pP y z else -pP y z) (pl1 (I 4) x y z AL))) := hD
              rw [up1_1] at hP hD
              exact g_vret hx hb hr hlocks (up1 I 4 (I 4 + 2), G, AN, AI, memb (I 4 + 1) 0 (pM y z) (if pQ y z < 0 then pP y z else -pP y z) (pl1 (I 4) x y z AL)) (by unfold plnA; rw [if_neg hbc, if_neg hz2]) hK hP hD hS dX3_planeOf_185
            · refine lv_lload hx hb dX3_planeOf_174 (lv_at hl 3 rfl) ?_
              refine lv_goto (tgt := 182) hx hb dX3_planeOf_176 (by decide) ?_
              refine lv_topl (fun y9 e9 => ?_)
              have e9 : y9 = if pQ y z < 0 then pP y z else -pP y z := e9.trans (if_pos hq5).symm
              subst e9
              refine g_callv (va_runV (As := [.long 0, .long (pM y z), .long (if pQ y z < 0 then pP y z else -pP y z)]) (rest := []) ⟨hx, hb, hml, hown, hts⟩ (ctX3_member l D cs ad (up1 I 4 (I 4 + 1)) G AN AI (pl1 (I 4) x y z AL) _ 0 (pM y z) (if pQ y z < 0 then pP y z else -pP y z) (show I 4 + 1 < 3 by omega)) (cwV 3 hts (gi_V gw_691 gw_693 gw_43 gw_57 gw_694) rfl rfl rfl (by decide +kernel) ⟨Nat.le_of_ble_eq_true rfl, Nat.le_of_ble_eq_true rfl⟩) ⟨g_blind, va_recv hK hP (ci := 3) (q0 := 0) rfl (wm_at (by decide) rfl), g_pre hP hK hD hN⟩ rfl rfl hl.1 rfl (lv_room (Nat.le_of_ble_eq_true rfl)) dX3_planeOf_182 ⟨Nat.zero_le _, Nat.zero_le _⟩) hD hS hA (fun u H locs hw hP hD hS => ?_)
              obtain rfl := hw
              have hP : va_P D vc (wM cs ad (up1 (up1 I 4 (I 4 + 1)) 4 (I 4 + 2)) G AN AI (memb (I 4 + 1) 0 (pM y z) (if pQ y z < 0 then pP y z else -pP y z) (pl1 (I 4) x y z AL))) H := hP
              have hD : va_D A (wM cs ad (up1 (up1 I 4 (I 4 + 1)) 4 (I 4 + 2)) G AN AI (memb (I 4 + 1) 0 (pM y z) (if pQ y z < 0 then pP y z else -pP y z) (pl1 (I 4) x y z AL))) := hD
              rw [up1_1] at hP hD
              exact g_vret hx hb hr hlocks (up1 I 4 (I 4 + 2), G, AN, AI, memb (I 4 + 1) 0 (pM y z) (if pQ y z < 0 then pP y z else -pP y z) (pl1 (I 4) x y z AL)) (by unfold plnA; rw [if_neg hbc, if_neg hz2]) hK hP hD hS dX3_planeOf_185
          · exact absurd hz3 hz2
        · exact absurd hz2 hz
      · refine lv_lload_n hx hb dX3_planeOf_73 rfl (lv_at hl 5 rfl) ?_
        refine lv_lneg hx hb dX3_planeOf_74 ?_
        refine lv_lload hx hb dX3_planeOf_75 (lv_at hl 2 rfl) ?_
        refine lv_ldiv hx hb dX3_planeOf_77 (k3 hz) ?_
        refine lv_goto (tgt := 82) hx hb dX3_planeOf_78 (by decide) ?_
        refine lv_topl (fun y9 e9 => ?_)
        have e9 : y9 = pY0 x y z := e9.trans (show pY0 x y z = _ from if_pos hz).symm
        subst e9
        refine lv_lstore (lv' := [(15, .long (pY0 x y z)), (13, .long (pM y z)), (11, .long (pQ y z)), (9, .long (pP y z)), (7, .long (dv64 y z)), (0, .ref (ad 0)), (1, .long x), (3, .long y), (5, .long z)]) hx hb dX3_planeOf_82 hl (by decide) rfl (fun ls hl => ?_)
        refine lp84 _ 20 (pY0 x y z) _ _ ls k4 hP hD hS (lv_sub hl [0, 1, 2, 3, 4, 5, 6, 7, 8] rfl) (fun H locs ls hP hD hS hl => ?_)
        have hl : lv_has ls 17 [(15, .long (pYf x y z)), (13, .long (pM y z)), (11, .long (pQ y z)), (9, .long (pP y z)), (7, .long (dv64 y z)), (0, .ref (ad 0)), (1, .long x), (3, .long y), (5, .long z)] := hl
        refine lv_aload_n hx hb dX3_planeOf_116 rfl (lv_at hl 5 rfl) ?_
        refine lv_lload hx hb dX3_planeOf_117 (lv_at hl 4 rfl) ?_
        refine lv_lload hx hb dX3_planeOf_119 (lv_at hl 0 rfl) ?_
        refine lv_lload hx hb dX3_planeOf_121 (lv_at hl 2 rfl) ?_
        refine lv_lconst (v := 0) hx hb dX3_planeOf_123 (by decide) ?_
        refine b_lcne (tgt := 132) hx hb dX3_planeOf_124 dX3_planeOf_125 (by decide) (fun hz2 => ?_) (fun hz2 => ?_)
        · exact absurd hz hz2
        · refine lv_lconst (v := 0) hx hb dX3_planeOf_128 (by decide) ?_
          refine lv_goto (tgt := 143) hx hb dX3_planeOf_129 (by decide) ?_
          refine lv_topl (fun y9 e9 => ?_)
          have e9 : y9 = if pQ y z = 0 then 0 else (-x - pP y z * pYf x y z) / pQ y z := e9.trans (if_pos hz2).symm
          subst e9
          refine g_callv (va_runV (As := [.long (dv64 y z), .long (pYf x y z), .long (if pQ y z = 0 then 0 else (-x - pP y z * pYf x y z) / pQ y z)]) (rest := []) ⟨hx, hb, hml, hown, hts⟩ (ctX3_member l D cs ad I G AN AI AL _ (dv64 y z) (pYf x y z) (if pQ y z = 0 then 0 else (-x - pP y z * pYf x y z) / pQ y z) (by omega)) (cwV 3 hts (gi_V gw_691 gw_693 gw_43 gw_57 gw_694) rfl rfl rfl (by decide +kernel) ⟨Nat.le_of_ble_eq_true rfl, Nat.le_of_ble_eq_true rfl⟩) ⟨g_blind, va_recv hK hP (ci := 3) (q0 := 0) rfl (wm_at (by decide) rfl), g_pre hP hK hD hN⟩ rfl rfl hl.1 rfl (lv_room (Nat.le_of_ble_eq_true rfl)) dX3_planeOf_143 ⟨Nat.zero_le _, Nat.zero_le _⟩) hD hS hA (fun u H locs hw hP hD hS => ?_)
          obtain rfl := hw
          have hP : va_P D vc (wM cs ad (up1 I 4 (I 4 + 1)) G AN AI (pl1 (I 4) x y z AL)) H := hP
          have hD : va_D A (wM cs ad (up1 I 4 (I 4 + 1)) G AN AI (pl1 (I 4) x y z AL)) := hD
          refine lv_lload hx hb dX3_planeOf_146 (lv_at hl 2 rfl) ?_
          refine lv_lconst (v := 0) hx hb dX3_planeOf_148 (by decide) ?_
          refine b_lcne (tgt := 163) hx hb dX3_planeOf_149 dX3_planeOf_150 (by decide) (fun hz3 => ?_) (fun hz3 => ?_)
          · exact absurd hz2 hz3
          · refine lv_aload_n hx hb dX3_planeOf_153 rfl (lv_at hl 5 rfl) ?_
            refine lv_lconst (v := 0) hx hb dX3_planeOf_154 (by decide) ?_
            refine lv_lconst (v := 0) hx hb dX3_planeOf_155 (by decide) ?_
            refine lv_lconst (v := 1) hx hb dX3_planeOf_156 (by decide) ?_
            refine g_callv (va_runV (As := [.long 0, .long 0, .long 1]) (rest := []) ⟨hx, hb, hml, hown, hts⟩ (ctX3_member l D cs ad (up1 I 4 (I 4 + 1)) G AN AI (pl1 (I 4) x y z AL) _ 0 0 1 (show I 4 + 1 < 3 by omega)) (cwV 3 hts (gi_V gw_691 gw_693 gw_43 gw_57 gw_694) rfl rfl rfl (by decide +kernel) ⟨Nat.le_of_ble_eq_true rfl, Nat.le_of_ble_eq_true rfl⟩) ⟨g_blind, va_recv hK hP (ci := 3) (q0 := 0) rfl (wm_at (by decide) rfl), g_pre hP hK hD hN⟩ rfl rfl hl.1 rfl (lv_room (Nat.le_of_ble_eq_true rfl)) dX3_planeOf_157 ⟨Nat.zero_le _, Nat.zero_le _⟩) hD hS hA (fun u H locs hw hP hD hS => ?_)
            obtain rfl := hw
            have hP : va_P D vc (wM cs ad (up1 (up1 I 4 (I 4 + 1)) 4 (I 4 + 2)) G AN AI (memb (I 4 + 1) 0 0 1 (pl1 (I 4) x y z AL))) H := hP
            have hD : va_D A (wM cs ad (up1 (up1 I 4 (I 4 + 1)) 4 (I 4 + 2)) G AN AI (memb (I 4 + 1) 0 0 1 (pl1 (I 4) x y z AL))) := hD
            rw [up1_1] at hP hD
            refine lv_goto (tgt := 185) hx hb dX3_planeOf_160 (by decide) ?_
            exact g_vret hx hb hr hlocks (up1 I 4 (I 4 + 2), G, AN, AI, memb (I 4 + 1) 0 0 1 (pl1 (I 4) x y z AL)) (by unfold plnA; rw [if_neg hbc, if_pos hz2]) hK hP hD hS dX3_planeOf_185
  · refine lv_lload hx hb dX3_planeOf_6 (lv_at hl 3 rfl) ?_
    refine lv_lconst (v := 0) hx hb dX3_planeOf_8 (by decide) ?_
    refine b_lcne (tgt := 28) hx hb dX3_planeOf_9 dX3_planeOf_10 (by decide) (fun hz0 => ?_) (fun hz0 => ?_)
    · have hbc : ¬ (y = 0 ∧ z = 0) := fun q => hz0 q.2
      obtain ⟨k1, k2, k3, k4⟩ := hok hbc
      refine lv_lload_n hx hb dX3_planeOf_28 rfl (lv_at hl 2 rfl) ?_
      refine lv_lload hx hb dX3_planeOf_29 (lv_at hl 3 rfl) ?_
      refine g_calll (va_runS (As := [.long y, .long z]) (rest := []) ⟨hx, hb, hml, hown, hts⟩ (ctX3_divisor l D cs ad I G AN AI AL _ y z k1) (va_cwS 2 hts (gi_S gw_672 gw_673 gw_57 gw_674) rfl rfl rfl (by decide +kernel) ⟨Nat.le_of_ble_eq_true rfl, Nat.le_of_ble_eq_true rfl⟩) ⟨g_blind, g_pre hP hK hD hN⟩ rfl rfl hl.1 rfl (lv_room (Nat.le_of_ble_eq_true rfl)) dX3_planeOf_31 ⟨Nat.zero_le _, Nat.zero_le _⟩) hD hS hA (fun r u H locs hw hP hD hS => ?_)
      obtain ⟨rfl, rfl⟩ := hw
      have hP : va_P D vc (wM cs ad I G AN AI AL) H := hP
      have hD : va_D A (wM cs ad I G AN AI AL) := hD
      refine lv_lstore (lv' := [(7, .long (dv64 y z)), (0, .ref (ad 0)), (1, .long x), (3, .long y), (5, .long z)]) hx hb dX3_planeOf_34 hl (by decide) rfl (fun ls hl => ?_)
      refine lv_lload_n hx hb dX3_planeOf_36 rfl (lv_at hl 3 rfl) ?_
      refine lv_lload hx hb dX3_planeOf_37 (lv_at hl 0 rfl) ?_
      refine lv_ldiv hx hb dX3_planeOf_39 (k2) ?_
      refine lv_lstore (lv' := [(9, .long (y / (dv64 y z))), (7, .long (dv64 y z)), (0, .ref (ad 0)), (1, .long x), (3, .long y), (5, .long z)]) hx hb dX3_planeOf_40 hl (by decide) rfl (fun ls hl => ?_)
      refine lv_lload hx hb dX3_planeOf_42 (lv_at hl 5 rfl) ?_
      refine lv_lload hx hb dX3_planeOf_44 (lv_at hl 1 rfl) ?_
      refine lv_ldiv hx hb dX3_planeOf_46 (k2) ?_
      refine lv_lstore (lv' := [(11, .long (z / (dv64 y z))), (9, .long (y / (dv64 y z))), (7, .long (dv64 y z)), (0, .ref (ad 0)), (1, .long x), (3, .long y), (5, .long z)]) hx hb dX3_planeOf_47 hl (by decide) rfl (fun ls hl => ?_)
      refine lv_lload hx hb dX3_planeOf_49 (lv_at hl 0 rfl) ?_
      refine lv_lconst (v := 0) hx hb dX3_planeOf_51 (by decide) ?_
      have hl : lv_has ls 17 [(11, .long (pQ y z)), (9, .long (pP y z)), (7, .long (dv64 y z)), (0, .ref (ad 0)), (1, .long x), (3, .long y), (5, .long z)] := hl
      show W p l e rmX3_planeOf s m args below meth c _ _ 0 0 _ (F0 m 52 ls [.long 0, .long (pQ y z)])
      refine b_lcge (tgt := 62) hx hb dX3_planeOf_52 dX3_planeOf_53 (by decide) (fun hq => ?_) (fun hq => ?_)
      · refine lv_lload hx hb dX3_planeOf_62 (lv_at hl 0 rfl) ?_
        refine lv_topl (fun y9 e9 => ?_)
        have e9 : y9 = pM y z := e9.trans (show pM y z = _ from if_neg hq).symm
        subst e9
        refine lv_lstore (lv' := [(13, .long (pM y z)), (11, .long (pQ y z)), (9, .long (pP y z)), (7, .long (dv64 y z)), (0, .ref (ad 0)), (1, .long x), (3, .long y), (5, .long z)]) hx hb dX3_planeOf_64 hl (by decide) rfl (fun ls hl => ?_)
        refine lv_lload hx hb dX3_planeOf_66 (lv_at hl 1 rfl) ?_
        refine lv_lconst (v := 0) hx hb dX3_planeOf_68 (by decide) ?_
        refine b_lcne (tgt := 81) hx hb dX3_planeOf_69 dX3_planeOf_70 (by decide) (fun hz => ?_) (fun hz => ?_)
        · refine lv_lconst (v := 0) hx hb dX3_planeOf_81 (by decide) ?_
          refine lv_topl (fun y9 e9 => ?_)
          have e9 : y9 = pY0 x y z := e9.trans (show pY0 x y z = _ from if_neg hz).symm
          subst e9
          refine lv_lstore (lv' := [(15, .long (pY0 x y z)), (13, .long (pM y z)), (11, .long (pQ y z)), (9, .long (pP y z)), (7, .long (dv64 y z)), (0, .ref (ad 0)), (1, .long x), (3, .long y), (5, .long z)]) hx hb dX3_planeOf_82 hl (by decide) rfl (fun ls hl => ?_)
          refine lp84 _ 20 (pY0 x y z) _ _ ls k4 hP hD hS (lv_sub hl [0, 1, 2, 3, 4, 5, 6, 7, 8] rfl) (fun H locs ls hP hD hS hl => ?_)
          have hl : lv_has ls 17 [(15, .long (pYf x y z)), (13, .long (pM y z)), (11, .long (pQ y z)), (9, .long (pP y z)), (7, .long (dv64 y z)), (0, .ref (ad 0)), (1, .long x), (3, .long y), (5, .long z)] := hl
          refine lv_aload_n hx hb dX3_planeOf_116 rfl (lv_at hl 5 rfl) ?_
          refine lv_lload hx hb dX3_planeOf_117 (lv_at hl 4 rfl) ?_
          refine lv_lload hx hb dX3_planeOf_119 (lv_at hl 0 rfl) ?_
          refine lv_lload hx hb dX3_planeOf_121 (lv_at hl 2 rfl) ?_
          refine lv_lconst (v := 0) hx hb dX3_planeOf_123 (by decide) ?_
          refine b_lcne (tgt := 132) hx hb dX3_planeOf_124 dX3_planeOf_125 (by decide) (fun hz2 => ?_) (fun hz2 => ?_)
          · refine lv_lload_n hx hb dX3_planeOf_132 rfl (lv_at hl 6 rfl) ?_
            refine lv_lneg hx hb dX3_planeOf_133 ?_
            refine lv_lload hx hb dX3_planeOf_134 (lv_at hl 3 rfl) ?_
            refine lv_lload hx hb dX3_planeOf_136 (lv_at hl 0 rfl) ?_
            refine lv_lmul hx hb dX3_planeOf_138 ?_
            refine lv_lsub hx hb dX3_planeOf_139 ?_
            refine lv_lload hx hb dX3_planeOf_140 (lv_at hl 2 rfl) ?_
            refine lv_ldiv hx hb dX3_planeOf_142 (hz2) ?_
            refine lv_topl (fun y9 e9 => ?_)
            have e9 : y9 = if pQ y z = 0 then 0 else (-x - pP y z * pYf x y z) / pQ y z := e9.trans (if_neg hz2).symm
            subst e9
            refine g_callv (va_runV (As := [.long (dv64 y z), .long (pYf x y z), .long (if pQ y z = 0 then 0 else (-x - pP y z * pYf x y z) / pQ y z)]) (rest := []) ⟨hx, hb, hml, hown, hts⟩ (ctX3_member l D cs ad I G AN AI AL _ (dv64 y z) (pYf x y z) (if pQ y z = 0 then 0 else (-x - pP y z * pYf x y z) / pQ y z) (by omega)) (cwV 3 hts (gi_V gw_691 gw_693 gw_43 gw_57 gw_694) rfl rfl rfl (by decide +kernel) ⟨Nat.le_of_ble_eq_true rfl, Nat.le_of_ble_eq_true rfl⟩) ⟨g_blind, va_recv hK hP (ci := 3) (q0 := 0) rfl (wm_at (by decide) rfl), g_pre hP hK hD hN⟩ rfl rfl hl.1 rfl (lv_room (Nat.le_of_ble_eq_true rfl)) dX3_planeOf_143 ⟨Nat.zero_le _, Nat.zero_le _⟩) hD hS hA (fun u H locs hw hP hD hS => ?_)
            obtain rfl := hw
            have hP : va_P D vc (wM cs ad (up1 I 4 (I 4 + 1)) G AN AI (pl1 (I 4) x y z AL)) H := hP
            have hD : va_D A (wM cs ad (up1 I 4 (I 4 + 1)) G AN AI (pl1 (I 4) x y z AL)) := hD
            refine lv_lload hx hb dX3_planeOf_146 (lv_at hl 2 rfl) ?_
            refine lv_lconst (v := 0) hx hb dX3_planeOf_148 (by decide) ?_
            refine b_lcne (tgt := 163) hx hb dX3_planeOf_149 dX3_planeOf_150 (by decide) (fun hz3 => ?_) (fun hz3 => ?_)
            · refine lv_aload_n hx hb dX3_planeOf_163 rfl (lv_at hl 5 rfl) ?_
              refine lv_lconst (v := 0) hx hb dX3_planeOf_164 (by decide) ?_
              refine lv_lload hx hb dX3_planeOf_165 (lv_at hl 1 rfl) ?_
              refine lv_lload hx hb dX3_planeOf_167 (lv_at hl 2 rfl) ?_
              refine lv_lconst (v := 0) hx hb dX3_planeOf_169 (by decide) ?_
              refine b_lcge (tgt := 179) hx hb dX3_planeOf_170 dX3_planeOf_171 (by decide) (fun hq5 => ?_) (fun hq5 => ?_)
              · refine lv_lload hx hb dX3_planeOf_179 (lv_at hl 3 rfl) ?_
                refine lv_lneg hx hb dX3_planeOf_181 ?_
                refine lv_topl (fun y9 e9 => ?_)
                have e9 : y9 = if pQ y z < 0 then pP y z else -pP y z := e9.trans (if_neg hq5).symm
                subst e9
                refine g_callv (va_runV (As := [.long 0, .long (pM y z), .long (if pQ y z < 0 then pP y z else -pP y z)]) (rest := []) ⟨hx, hb, hml, hown, hts⟩ (ctX3_member l D cs ad (up1 I 4 (I 4 + 1)) G AN AI (pl1 (I 4) x y z AL) _ 0 (pM y z) (if pQ y z < 0 then pP y z else -pP y z) (show I 4 + 1 < 3 by omega)) (cwV 3 hts (gi_V gw_691 gw_693 gw_43 gw_57 gw_694) rfl rfl rfl (by decide +kernel) ⟨Nat.le_of_ble_eq_true rfl, Nat.le_of_ble_eq_true rfl⟩) ⟨g_blind, va_recv hK hP (ci := 3) (q0 := 0) rfl (wm_at (by decide) rfl), g_pre hP hK hD hN⟩ rfl rfl hl.1 rfl (lv_room (Nat.le_of_ble_eq_true rfl)) dX3_planeOf_182 ⟨Nat.zero_le _, Nat.zero_le _⟩) hD hS hA (fun u H locs hw hP hD hS => ?_)
                obtain rfl := hw
                have hP : va_P D vc (wM cs ad (up1 (up1 I 4 (I 4 + 1)) 4 (I 4 + 2)) G AN AI (memb (I 4 + 1) 0 (pM y z) (if pQ y z < 0 then pP y z else -pP y z) (pl1 (I 4) x y z AL))) H := hP
                have hD : va_D A (wM cs ad (up1 (up1 I 4 (I 4 + 1)) 4 (I 4 + 2)) G AN AI (memb (I 4 + 1) 0 (pM y z) (if pQ y z < 0 then pP y z else -pP y z) (pl1 (I 4) x y z AL))) := hD
                rw [up1_1] at hP hD
                exact g_vret hx hb hr hlocks (up1 I 4 (I 4 + 2), G, AN, AI, memb (I 4 + 1) 0 (pM y z) (if pQ y z < 0 then pP y z else -pP y z) (pl1 (I 4) x y z AL)) (by unfold plnA; rw [if_neg hbc, if_neg hz2]) hK hP hD hS dX3_planeOf_185
              · refine lv_lload hx hb dX3_planeOf_174 (lv_at hl 3 rfl) ?_
                refine lv_goto (tgt := 182) hx hb dX3_planeOf_176 (by decide) ?_
                refine lv_topl (fun y9 e9 => ?_)
                have e9 : y9 = if pQ y z < 0 then pP y z else -pP y z := e9.trans (if_pos hq5).symm
                subst e9
                refine g_callv (va_runV (As := [.long 0, .long (pM y z), .long (if pQ y z < 0 then pP y z else -pP y z)]) (rest := []) ⟨hx, hb, hml, hown, hts⟩ (ctX3_member l D cs ad (up1 I 4 (I 4 + 1)) G AN AI (pl1 (I 4) x y z AL) _ 0 (pM y z) (if pQ y z < 0 then pP y z else -pP y z) (show I 4 + 1 < 3 by omega)) (cwV 3 hts (gi_V gw_691 gw_693 gw_43 gw_57 gw_694) rfl rfl rfl (by decide +kernel) ⟨Nat.le_of_ble_eq_true rfl, Nat.le_of_ble_eq_true rfl⟩) ⟨g_blind, va_recv hK hP (ci := 3) (q0 := 0) rfl (wm_at (by decide) rfl), g_pre hP hK hD hN⟩ rfl rfl hl.1 rfl (lv_room (Nat.le_of_ble_eq_true rfl)) dX3_planeOf_182 ⟨Nat.zero_le _, Nat.zero_le _⟩) hD hS hA (fun u H locs hw hP hD hS => ?_)
                obtain rfl := hw
                have hP : va_P D vc (wM cs ad (up1 (up1 I 4 (I 4 + 1)) 4 (I 4 + 2)) G AN AI (memb (I 4 + 1) 0 (pM y z) (if pQ y z < 0 then pP y z else -pP y z) (pl1 (I 4) x y z AL))) H := hP
                have hD : va_D A (wM cs ad (up1 (up1 I 4 (I 4 + 1)) 4 (I 4 + 2)) G AN AI (memb (I 4 + 1) 0 (pM y z) (if pQ y z < 0 then pP y z else -pP y z) (pl1 (I 4) x y z AL))) := hD
                rw [up1_1] at hP hD
                exact g_vret hx hb hr hlocks (up1 I 4 (I 4 + 2), G, AN, AI, memb (I 4 + 1) 0 (pM y z) (if pQ y z < 0 then pP y z else -pP y z) (pl1 (I 4) x y z AL)) (by unfold plnA; rw [if_neg hbc, if_neg hz2]) hK hP hD hS dX3_planeOf_185
            · exact absurd hz3 hz2
          · exact absurd hz2 hz
        · refine lv_lload_n hx hb dX3_planeOf_73 rfl (lv_at hl 5 rfl) ?_
          refine lv_lneg hx hb dX3_planeOf_74 ?_
          refine lv_lload hx hb dX3_planeOf_75 (lv_at hl 2 rfl) ?_
          refine lv_ldiv hx hb dX3_planeOf_77 (k3 hz) ?_
          refine lv_goto (tgt := 82) hx hb dX3_planeOf_78 (by decide) ?_
          refine lv_topl (fun y9 e9 => ?_)
          have e9 : y9 = pY0 x y z := e9.trans (show pY0 x y z = _ from if_pos hz).symm
          subst e9
          refine lv_lstore (lv' := [(15, .long (pY0 x y z)), (13, .long (pM y z)), (11, .long (pQ y z)), (9, .long (pP y z)), (7, .long (dv64 y z)), (0, .ref (ad 0)), (1, .long x), (3, .long y), (5, .long z)]) hx hb dX3_planeOf_82 hl (by decide) rfl (fun ls hl => ?_)
          refine lp84 _ 20 (pY0 x y z) _ _ ls k4 hP hD hS (lv_sub hl [0, 1, 2, 3, 4, 5, 6, 7, 8] rfl) (fun H locs ls hP hD hS hl => ?_)
          have hl : lv_has ls 17 [(15, .long (pYf x y z)), (13, .long (pM y z)), (11, .long (pQ y z)), (9, .long (pP y z)), (7, .long (dv64 y z)), (0, .ref (ad 0)), (1, .long x), (3, .long y), (5, .long z)] := hl
          refine lv_aload_n hx hb dX3_planeOf_116 rfl (lv_at hl 5 rfl) ?_
          refine lv_lload hx hb dX3_planeOf_117 (lv_at hl 4 rfl) ?_
          refine lv_lload hx hb dX3_planeOf_119 (lv_at hl 0 rfl) ?_
          refine lv_lload hx hb dX3_planeOf_121 (lv_at hl 2 rfl) ?_
          refine lv_lconst (v := 0) hx hb dX3_planeOf_123 (by decide) ?_
          refine b_lcne (tgt := 132) hx hb dX3_planeOf_124 dX3_planeOf_125 (by decide) (fun hz2 => ?_) (fun hz2 => ?_)
          · exact absurd hz hz2
          · refine lv_lconst (v := 0) hx hb dX3_planeOf_128 (by decide) ?_
            refine lv_goto (tgt := 143) hx hb dX3_planeOf_129 (by decide) ?_
            refine lv_topl (fun y9 e9 => ?_)
            have e9 : y9 = if pQ y z = 0 then 0 else (-x - pP y z * pYf x y z) / pQ y z := e9.trans (if_pos hz2).symm
            subst e9
            refine g_callv (va_runV (As := [.long (dv64 y z), .long (pYf x y z), .long (if pQ y z = 0 then 0 else (-x - pP y z * pYf x y z) / pQ y z)]) (rest := []) ⟨hx, hb, hml, hown, hts⟩ (ctX3_member l D cs ad I G AN AI AL _ (dv64 y z) (pYf x y z) (if pQ y z = 0 then 0 else (-x - pP y z * pYf x y z) / pQ y z) (by omega)) (cwV 3 hts (gi_V gw_691 gw_693 gw_43 gw_57 gw_694) rfl rfl rfl (by decide +kernel) ⟨Nat.le_of_ble_eq_true rfl, Nat.le_of_ble_eq_true rfl⟩) ⟨g_blind, va_recv hK hP (ci := 3) (q0 := 0) rfl (wm_at (by decide) rfl), g_pre hP hK hD hN⟩ rfl rfl hl.1 rfl (lv_room (Nat.le_of_ble_eq_true rfl)) dX3_planeOf_143 ⟨Nat.zero_le _, Nat.zero_le _⟩) hD hS hA (fun u H locs hw hP hD hS => ?_)
            obtain rfl := hw
            have hP : va_P D vc (wM cs ad (up1 I 4 (I 4 + 1)) G AN AI (pl1 (I 4) x y z AL)) H := hP
            have hD : va_D A (wM cs ad (up1 I 4 (I 4 + 1)) G AN AI (pl1 (I 4) x y z AL)) := hD
            refine lv_lload hx hb dX3_planeOf_146 (lv_at hl 2 rfl) ?_
            refine lv_lconst (v := 0) hx hb dX3_planeOf_148 (by decide) ?_
            refine b_lcne (tgt := 163) hx hb dX3_planeOf_149 dX3_planeOf_150 (by decide) (fun hz3 => ?_) (fun hz3 => ?_)
            · exact absurd hz2 hz3
            · refine lv_aload_n hx hb dX3_planeOf_153 rfl (lv_at hl 5 rfl) ?_
              refine lv_lconst (v := 0) hx hb dX3_planeOf_154 (by decide) ?_
              refine lv_lconst (v := 0) hx hb dX3_planeOf_155 (by decide) ?_
              refine lv_lconst (v := 1) hx hb dX3_planeOf_156 (by decide) ?_
              refine g_callv (va_runV (As := [.long 0, .long 0, .long 1]) (rest := []) ⟨hx, hb, hml, hown, hts⟩ (ctX3_member l D cs ad (up1 I 4 (I 4 + 1)) G AN AI (pl1 (I 4) x y z AL) _ 0 0 1 (show I 4 + 1 < 3 by omega)) (cwV 3 hts (gi_V gw_691 gw_693 gw_43 gw_57 gw_694) rfl rfl rfl (by decide +kernel) ⟨Nat.le_of_ble_eq_true rfl, Nat.le_of_ble_eq_true rfl⟩) ⟨g_blind, va_recv hK hP (ci := 3) (q0 := 0) rfl (wm_at (by decide) rfl), g_pre hP hK hD hN⟩ rfl rfl hl.1 rfl (lv_room (Nat.le_of_ble_eq_true rfl)) dX3_planeOf_157 ⟨Nat.zero_le _, Nat.zero_le _⟩) hD hS hA (fun u H locs hw hP hD hS => ?_)
              obtain rfl := hw
              have hP : va_P D vc (wM cs ad (up1 (up1 I 4 (I 4 + 1)) 4 (I 4 + 2)) G AN AI (memb (I 4 + 1) 0 0 1 (pl1 (I 4) x y z AL))) H := hP
              have hD : va_D A (wM cs ad (up1 (up1 I 4 (I 4 + 1)) 4 (I 4 + 2)) G AN AI (memb (I 4 + 1) 0 0 1 (pl1 (I 4) x y z AL))) := hD
              rw [up1_1] at hP hD
              refine lv_goto (tgt := 185) hx hb dX3_planeOf_160 (by decide) ?_
              exact g_vret hx hb hr hlocks (up1 I 4 (I 4 + 2), G, AN, AI, memb (I 4 + 1) 0 0 1 (pl1 (I 4) x y z AL)) (by unfold plnA; rw [if_neg hbc, if_pos hz2]) hK hP hD hS dX3_planeOf_185
      · refine lv_lload hx hb dX3_planeOf_56 (lv_at hl 0 rfl) ?_
        refine lv_lneg hx hb dX3_planeOf_58 ?_
        refine lv_goto (tgt := 64) hx hb dX3_planeOf_59 (by decide) ?_
        refine lv_topl (fun y9 e9 => ?_)
        have e9 : y9 = pM y z := e9.trans (show pM y z = _ from if_pos hq).symm
        subst e9
        refine lv_lstore (lv' := [(13, .long (pM y z)), (11, .long (pQ y z)), (9, .long (pP y z)), (7, .long (dv64 y z)), (0, .ref (ad 0)), (1, .long x), (3, .long y), (5, .long z)]) hx hb dX3_planeOf_64 hl (by decide) rfl (fun ls hl => ?_)
        refine lv_lload hx hb dX3_planeOf_66 (lv_at hl 1 rfl) ?_
        refine lv_lconst (v := 0) hx hb dX3_planeOf_68 (by decide) ?_
        refine b_lcne (tgt := 81) hx hb dX3_planeOf_69 dX3_planeOf_70 (by decide) (fun hz => ?_) (fun hz => ?_)
        · refine lv_lconst (v := 0) hx hb dX3_planeOf_81 (by decide) ?_
          refine lv_topl (fun y9 e9 => ?_)
          have e9 : y9 = pY0 x y z := e9.trans (show pY0 x y z = _ from if_neg hz).symm
          subst e9
          refine lv_lstore (lv' := [(15, .long (pY0 x y z)), (13, .long (pM y z)), (11, .long (pQ y z)), (9, .long (pP y z)), (7, .long (dv64 y z)), (0, .ref (ad 0)), (1, .long x), (3, .long y), (5, .long z)]) hx hb dX3_planeOf_82 hl (by decide) rfl (fun ls hl => ?_)
          refine lp84 _ 20 (pY0 x y z) _ _ ls k4 hP hD hS (lv_sub hl [0, 1, 2, 3, 4, 5, 6, 7, 8] rfl) (fun H locs ls hP hD hS hl => ?_)
          have hl : lv_has ls 17 [(15, .long (pYf x y z)), (13, .long (pM y z)), (11, .long (pQ y z)), (9, .long (pP y z)), (7, .long (dv64 y z)), (0, .ref (ad 0)), (1, .long x), (3, .long y), (5, .long z)] := hl
          refine lv_aload_n hx hb dX3_planeOf_116 rfl (lv_at hl 5 rfl) ?_
          refine lv_lload hx hb dX3_planeOf_117 (lv_at hl 4 rfl) ?_
          refine lv_lload hx hb dX3_planeOf_119 (lv_at hl 0 rfl) ?_
          refine lv_lload hx hb dX3_planeOf_121 (lv_at hl 2 rfl) ?_
          refine lv_lconst (v := 0) hx hb dX3_planeOf_123 (by decide) ?_
          refine b_lcne (tgt := 132) hx hb dX3_planeOf_124 dX3_planeOf_125 (by decide) (fun hz2 => ?_) (fun hz2 => ?_)
          · refine lv_lload_n hx hb dX3_planeOf_132 rfl (lv_at hl 6 rfl) ?_
            refine lv_lneg hx hb dX3_planeOf_133 ?_
            refine lv_lload hx hb dX3_planeOf_134 (lv_at hl 3 rfl) ?_
            refine lv_lload hx hb dX3_planeOf_136 (lv_at hl 0 rfl) ?_
            refine lv_lmul hx hb dX3_planeOf_138 ?_
            refine lv_lsub hx hb dX3_planeOf_139 ?_
            refine lv_lload hx hb dX3_planeOf_140 (lv_at hl 2 rfl) ?_
            refine lv_ldiv hx hb dX3_planeOf_142 (hz2) ?_
            refine lv_topl (fun y9 e9 => ?_)
            have e9 : y9 = if pQ y z = 0 then 0 else (-x - pP y z * pYf x y z) / pQ y z := e9.trans (if_neg hz2).symm
            subst e9
            refine g_callv (va_runV (As := [.long (dv64 y z), .long (pYf x y z), .long (if pQ y z = 0 then 0 else (-x - pP y z * pYf x y z) / pQ y z)]) (rest := []) ⟨hx, hb, hml, hown, hts⟩ (ctX3_member l D cs ad I G AN AI AL _ (dv64 y z) (pYf x y z) (if pQ y z = 0 then 0 else (-x - pP y z * pYf x y z) / pQ y z) (by omega)) (cwV 3 hts (gi_V gw_691 gw_693 gw_43 gw_57 gw_694) rfl rfl rfl (by decide +kernel) ⟨Nat.le_of_ble_eq_true rfl, Nat.le_of_ble_eq_true rfl⟩) ⟨g_blind, va_recv hK hP (ci := 3) (q0 := 0) rfl (wm_at (by decide) rfl), g_pre hP hK hD hN⟩ rfl rfl hl.1 rfl (lv_room (Nat.le_of_ble_eq_true rfl)) dX3_planeOf_143 ⟨Nat.zero_le _, Nat.zero_le _⟩) hD hS hA (fun u H locs hw hP hD hS => ?_)
            obtain rfl := hw
            have hP : va_P D vc (wM cs ad (up1 I 4 (I 4 + 1)) G AN AI (pl1 (I 4) x y z AL)) H := hP
            have hD : va_D A (wM cs ad (up1 I 4 (I 4 + 1)) G AN AI (pl1 (I 4) x y z AL)) := hD
            refine lv_lload hx hb dX3_planeOf_146 (lv_at hl 2 rfl) ?_
            refine lv_lconst (v := 0) hx hb dX3_planeOf_148 (by decide) ?_
            refine b_lcne (tgt := 163) hx hb dX3_planeOf_149 dX3_planeOf_150 (by decide) (fun hz3 => ?_) (fun hz3 => ?_)
            · refine lv_aload_n hx hb dX3_planeOf_163 rfl (lv_at hl 5 rfl) ?_
              refine lv_lconst (v := 0) hx hb dX3_planeOf_164 (by decide) ?_
              refine lv_lload hx hb dX3_planeOf_165 (lv_at hl 1 rfl) ?_
              refine lv_lload hx hb dX3_planeOf_167 (lv_at hl 2 rfl) ?_
              refine lv_lconst (v := 0) hx hb dX3_planeOf_169 (by decide) ?_
              refine b_lcge (tgt := 179) hx hb dX3_planeOf_170 dX3_planeOf_171 (by decide) (fun hq5 => ?_) (fun hq5 => ?_)
              · refine lv_lload hx hb dX3_planeOf_179 (lv_at hl 3 rfl) ?_
                refine lv_lneg hx hb dX3_planeOf_181 ?_
                refine lv_topl (fun y9 e9 => ?_)
                have e9 : y9 = if pQ y z < 0 then pP y z else -pP y z := e9.trans (if_neg hq5).symm
                subst e9
                refine g_callv (va_runV (As := [.long 0, .long (pM y z), .long (if pQ y z < 0 then pP y z else -pP y z)]) (rest := []) ⟨hx, hb, hml, hown, hts⟩ (ctX3_member l D cs ad (up1 I 4 (I 4 + 1)) G AN AI (pl1 (I 4) x y z AL) _ 0 (pM y z) (if pQ y z < 0 then pP y z else -pP y z) (show I 4 + 1 < 3 by omega)) (cwV 3 hts (gi_V gw_691 gw_693 gw_43 gw_57 gw_694) rfl rfl rfl (by decide +kernel) ⟨Nat.le_of_ble_eq_true rfl, Nat.le_of_ble_eq_true rfl⟩) ⟨g_blind, va_recv hK hP (ci := 3) (q0 := 0) rfl (wm_at (by decide) rfl), g_pre hP hK hD hN⟩ rfl rfl hl.1 rfl (lv_room (Nat.le_of_ble_eq_true rfl)) dX3_planeOf_182 ⟨Nat.zero_le _, Nat.zero_le _⟩) hD hS hA (fun u H locs hw hP hD hS => ?_)
                obtain rfl := hw
                have hP : va_P D vc (wM cs ad (up1 (up1 I 4 (I 4 + 1)) 4 (I 4 + 2)) G AN AI (memb (I 4 + 1) 0 (pM y z) (if pQ y z < 0 then pP y z else -pP y z) (pl1 (I 4) x y z AL))) H := hP
                have hD : va_D A (wM cs ad (up1 (up1 I 4 (I 4 + 1)) 4 (I 4 + 2)) G AN AI (memb (I 4 + 1) 0 (pM y z) (if pQ y z < 0 then pP y z else -pP y z) (pl1 (I 4) x y z AL))) := hD
                rw [up1_1] at hP hD
                exact g_vret hx hb hr hlocks (up1 I 4 (I 4 + 2), G, AN, AI, memb (I 4 + 1) 0 (pM y z) (if pQ y z < 0 then pP y z else -pP y z) (pl1 (I 4) x y z AL)) (by unfold plnA; rw [if_neg hbc, if_neg hz2]) hK hP hD hS dX3_planeOf_185
              · refine lv_lload hx hb dX3_planeOf_174 (lv_at hl 3 rfl) ?_
                refine lv_goto (tgt := 182) hx hb dX3_planeOf_176 (by decide) ?_
                refine lv_topl (fun y9 e9 => ?_)
                have e9 : y9 = if pQ y z < 0 then pP y z else -pP y z := e9.trans (if_pos hq5).symm
                subst e9
                refine g_callv (va_runV (As := [.long 0, .long (pM y z), .long (if pQ y z < 0 then pP y z else -pP y z)]) (rest := []) ⟨hx, hb, hml, hown, hts⟩ (ctX3_member l D cs ad (up1 I 4 (I 4 + 1)) G AN AI (pl1 (I 4) x y z AL) _ 0 (pM y z) (if pQ y z < 0 then pP y z else -pP y z) (show I 4 + 1 < 3 by omega)) (cwV 3 hts (gi_V gw_691 gw_693 gw_43 gw_57 gw_694) rfl rfl rfl (by decide +kernel) ⟨Nat.le_of_ble_eq_true rfl, Nat.le_of_ble_eq_true rfl⟩) ⟨g_blind, va_recv hK hP (ci := 3) (q0 := 0) rfl (wm_at (by decide) rfl), g_pre hP hK hD hN⟩ rfl rfl hl.1 rfl (lv_room (Nat.le_of_ble_eq_true rfl)) dX3_planeOf_182 ⟨Nat.zero_le _, Nat.zero_le _⟩) hD hS hA (fun u H locs hw hP hD hS => ?_)
                obtain rfl := hw
                have hP : va_P D vc (wM cs ad (up1 (up1 I 4 (I 4 + 1)) 4 (I 4 + 2)) G AN AI (memb (I 4 + 1) 0 (pM y z) (if pQ y z < 0 then pP y z else -pP y z) (pl1 (I 4) x y z AL))) H := hP
                have hD : va_D A (wM cs ad (up1 (up1 I 4 (I 4 + 1)) 4 (I 4 + 2)) G AN AI (memb (I 4 + 1) 0 (pM y z) (if pQ y z < 0 then pP y z else -pP y z) (pl1 (I 4) x y z AL))) := hD
                rw [up1_1] at hP hD
                exact g_vret hx hb hr hlocks (up1 I 4 (I 4 + 2), G, AN, AI, memb (I 4 + 1) 0 (pM y z) (if pQ y z < 0 then pP y z else -pP y z) (pl1 (I 4) x y z AL)) (by unfold plnA; rw [if_neg hbc, if_neg hz2]) hK hP hD hS dX3_planeOf_185
            · exact absurd hz3 hz2
          · exact absurd hz2 hz
        · refine lv_lload_n hx hb dX3_planeOf_73 rfl (lv_at hl 5 rfl) ?_
          refine lv_lneg hx hb dX3_planeOf_74 ?_
          refine lv_lload hx hb dX3_planeOf_75 (lv_at hl 2 rfl) ?_
          refine lv_ldiv hx hb dX3_planeOf_77 (k3 hz) ?_
          refine lv_goto (tgt := 82) hx hb dX3_planeOf_78 (by decide) ?_
          refine lv_topl (fun y9 e9 => ?_)
          have e9 : y9 = pY0 x y z := e9.trans (show pY0 x y z = _ from if_pos hz).symm
          subst e9
          refine lv_lstore (lv' := [(15, .long (pY0 x y z)), (13, .long (pM y z)), (11, .long (pQ y z)), (9, .long (pP y z)), (7, .long (dv64 y z)), (0, .ref (ad 0)), (1, .long x), (3, .long y), (5, .long z)]) hx hb dX3_planeOf_82 hl (by decide) rfl (fun ls hl => ?_)
          refine lp84 _ 20 (pY0 x y z) _ _ ls k4 hP hD hS (lv_sub hl [0, 1, 2, 3, 4, 5, 6, 7, 8] rfl) (fun H locs ls hP hD hS hl => ?_)
          have hl : lv_has ls 17 [(15, .long (pYf x y z)), (13, .long (pM y z)), (11, .long (pQ y z)), (9, .long (pP y z)), (7, .long (dv64 y z)), (0, .ref (ad 0)), (1, .long x), (3, .long y), (5, .long z)] := hl
          refine lv_aload_n hx hb dX3_planeOf_116 rfl (lv_at hl 5 rfl) ?_
          refine lv_lload hx hb dX3_planeOf_117 (lv_at hl 4 rfl) ?_
          refine lv_lload hx hb dX3_planeOf_119 (lv_at hl 0 rfl) ?_
          refine lv_lload hx hb dX3_planeOf_121 (lv_at hl 2 rfl) ?_
          refine lv_lconst (v := 0) hx hb dX3_planeOf_123 (by decide) ?_
          refine b_lcne (tgt := 132) hx hb dX3_planeOf_124 dX3_planeOf_125 (by decide) (fun hz2 => ?_) (fun hz2 => ?_)
          · exact absurd hz hz2
          · refine lv_lconst (v := 0) hx hb dX3_planeOf_128 (by decide) ?_
            refine lv_goto (tgt := 143) hx hb dX3_planeOf_129 (by decide) ?_
            refine lv_topl (fun y9 e9 => ?_)
            have e9 : y9 = if pQ y z = 0 then 0 else (-x - pP y z * pYf x y z) / pQ y z := e9.trans (if_pos hz2).symm
            subst e9
            refine g_callv (va_runV (As := [.long (dv64 y z), .long (pYf x y z), .long (if pQ y z = 0 then 0 else (-x - pP y z * pYf x y z) / pQ y z)]) (rest := []) ⟨hx, hb, hml, hown, hts⟩ (ctX3_member l D cs ad I G AN AI AL _ (dv64 y z) (pYf x y z) (if pQ y z = 0 then 0 else (-x - pP y z * pYf x y z) / pQ y z) (by omega)) (cwV 3 hts (gi_V gw_691 gw_693 gw_43 gw_57 gw_694) rfl rfl rfl (by decide +kernel) ⟨Nat.le_of_ble_eq_true rfl, Nat.le_of_ble_eq_true rfl⟩) ⟨g_blind, va_recv hK hP (ci := 3) (q0 := 0) rfl (wm_at (by decide) rfl), g_pre hP hK hD hN⟩ rfl rfl hl.1 rfl (lv_room (Nat.le_of_ble_eq_true rfl)) dX3_planeOf_143 ⟨Nat.zero_le _, Nat.zero_le _⟩) hD hS hA (fun u H locs hw hP hD hS => ?_)
            obtain rfl := hw
            have hP : va_P D vc (wM cs ad (up1 I 4 (I 4 + 1)) G AN AI (pl1 (I 4) x y z AL)) H := hP
            have hD : va_D A (wM cs ad (up1 I 4 (I 4 + 1)) G AN AI (pl1 (I 4) x y z AL)) := hD
            refine lv_lload hx hb dX3_planeOf_146 (lv_at hl 2 rfl) ?_
            refine lv_lconst (v := 0) hx hb dX3_planeOf_148 (by decide) ?_
            refine b_lcne (tgt := 163) hx hb dX3_planeOf_149 dX3_planeOf_150 (by decide) (fun hz3 => ?_) (fun hz3 => ?_)
            · exact absurd hz2 hz3
            · refine lv_aload_n hx hb dX3_planeOf_153 rfl (lv_at hl 5 rfl) ?_
              refine lv_lconst (v := 0) hx hb dX3_planeOf_154 (by decide) ?_
              refine lv_lconst (v := 0) hx hb dX3_planeOf_155 (by decide) ?_
              refine lv_lconst (v := 1) hx hb dX3_planeOf_156 (by decide) ?_
              refine g_callv (va_runV (As := [.long 0, .long 0, .long 1]) (rest := []) ⟨hx, hb, hml, hown, hts⟩ (ctX3_member l D cs ad (up1 I 4 (I 4 + 1)) G AN AI (pl1 (I 4) x y z AL) _ 0 0 1 (show I 4 + 1 < 3 by omega)) (cwV 3 hts (gi_V gw_691 gw_693 gw_43 gw_57 gw_694) rfl rfl rfl (by decide +kernel) ⟨Nat.le_of_ble_eq_true rfl, Nat.le_of_ble_eq_true rfl⟩) ⟨g_blind, va_recv hK hP (ci := 3) (q0 := 0) rfl (wm_at (by decide) rfl), g_pre hP hK hD hN⟩ rfl rfl hl.1 rfl (lv_room (Nat.le_of_ble_eq_true rfl)) dX3_planeOf_157 ⟨Nat.zero_le _, Nat.zero_le _⟩) hD hS hA (fun u H locs hw hP hD hS => ?_)
              obtain rfl := hw
              have hP : va_P D vc (wM cs ad (up1 (up1 I 4 (I 4 + 1)) 4 (I 4 + 2)) G AN AI (memb (I 4 + 1) 0 0 1 (pl1 (I 4) x y z AL))) H := hP
              have hD : va_D A (wM cs ad (up1 (up1 I 4 (I 4 + 1)) 4 (I 4 + 2)) G AN AI (memb (I 4 + 1) 0 0 1 (pl1 (I 4) x y z AL))) := hD
              rw [up1_1] at hP hD
              refine lv_goto (tgt := 185) hx hb dX3_planeOf_160 (by decide) ?_
              exact g_vret hx hb hr hlocks (up1 I 4 (I 4 + 2), G, AN, AI, memb (I 4 + 1) 0 0 1 (pl1 (I 4) x y z AL)) (by unfold plnA; rw [if_neg hbc, if_pos hz2]) hK hP hD hS dX3_planeOf_185
    · refine lv_aload_n hx hb dX3_planeOf_13 rfl (lv_at hl 0 rfl) ?_
      refine lv_lconst (v := 0) hx hb dX3_planeOf_14 (by decide) ?_
      refine lv_lconst (v := 1) hx hb dX3_planeOf_15 (by decide) ?_
      refine lv_lconst (v := 0) hx hb dX3_planeOf_16 (by decide) ?_
      refine g_callv (va_runV (As := [.long 0, .long 1, .long 0]) (rest := []) ⟨hx, hb, hml, hown, hts⟩ (ctX3_member l D cs ad I G AN AI AL _ 0 1 0 (by omega)) (cwV 3 hts (gi_V gw_691 gw_693 gw_43 gw_57 gw_694) rfl rfl rfl (by decide +kernel) ⟨Nat.le_of_ble_eq_true rfl, Nat.le_of_ble_eq_true rfl⟩) ⟨g_blind, va_recv hK hP (ci := 3) (q0 := 0) rfl (wm_at (by decide) rfl), g_pre hP hK hD hN⟩ rfl rfl hl.1 rfl (lv_room (Nat.le_of_ble_eq_true rfl)) dX3_planeOf_17 ⟨Nat.zero_le _, Nat.zero_le _⟩) hD hS hA (fun u H locs hw hP hD hS => ?_)
      obtain rfl := hw
      have hP : va_P D vc (wM cs ad (up1 I 4 (I 4 + 1)) G AN AI (memb (I 4) 0 1 0 AL)) H := hP
      have hD : va_D A (wM cs ad (up1 I 4 (I 4 + 1)) G AN AI (memb (I 4) 0 1 0 AL)) := hD
      refine lv_aload_n hx hb dX3_planeOf_20 rfl (lv_at hl 0 rfl) ?_
      refine lv_lconst (v := 0) hx hb dX3_planeOf_21 (by decide) ?_
      refine lv_lconst (v := 0) hx hb dX3_planeOf_22 (by decide) ?_
      refine lv_lconst (v := 1) hx hb dX3_planeOf_23 (by decide) ?_
      refine g_callv (va_runV (As := [.long 0, .long 0, .long 1]) (rest := []) ⟨hx, hb, hml, hown, hts⟩ (ctX3_member l D cs ad (up1 I 4 (I 4 + 1)) G AN AI (memb (I 4) 0 1 0 AL) _ 0 0 1 (show I 4 + 1 < 3 by omega)) (cwV 3 hts (gi_V gw_691 gw_693 gw_43 gw_57 gw_694) rfl rfl rfl (by decide +kernel) ⟨Nat.le_of_ble_eq_true rfl, Nat.le_of_ble_eq_true rfl⟩) ⟨g_blind, va_recv hK hP (ci := 3) (q0 := 0) rfl (wm_at (by decide) rfl), g_pre hP hK hD hN⟩ rfl rfl hl.1 rfl (lv_room (Nat.le_of_ble_eq_true rfl)) dX3_planeOf_24 ⟨Nat.zero_le _, Nat.zero_le _⟩) hD hS hA (fun u H locs hw hP hD hS => ?_)
      obtain rfl := hw
      have hP : va_P D vc (wM cs ad (up1 (up1 I 4 (I 4 + 1)) 4 (I 4 + 2)) G AN AI (memb (I 4 + 1) 0 0 1 (memb (I 4) 0 1 0 AL))) H := hP
      have hD : va_D A (wM cs ad (up1 (up1 I 4 (I 4 + 1)) 4 (I 4 + 2)) G AN AI (memb (I 4 + 1) 0 0 1 (memb (I 4) 0 1 0 AL))) := hD
      rw [up1_1] at hP hD
      exact g_vret hx hb hr hlocks (up1 I 4 (I 4 + 2), G, AN, AI, memb (I 4 + 1) 0 0 1 (memb (I 4) 0 1 0 AL)) (by unfold plnA; rw [if_pos ⟨hy, hz0⟩]) hK hP hD hS dX3_planeOf_27
