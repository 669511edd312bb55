/-- one place of span: next, beginnings, rows -/
def sstep (h q : Nat) (x : Nat × (Nat → Nat → Nat) × (Nat → Nat → Int64)) : Nat × (Nat → Nat → Nat) × (Nat → Nat → Int64) :=
  if x.1 < h then
    if lgat h x.1 q x.2.2 (x.1 + 18) q = 0 then (x.1, x.2.1, lgat h x.1 q x.2.2)
    else (x.1 + 1, up2 x.2.1 7 x.1 q, fo (fun a X => lles (up2 x.2.1 7 x.1 q) a x.1 X) x.1 0 (lgat h x.1 q x.2.2))
  else x
theorem sstep_out {h q : Nat} {x : Nat × (Nat → Nat → Nat) × (Nat → Nat → Int64)} (hx : ¬ x.1 < h) : sstep h q x = x := if_neg hx
theorem sstep_z {h q : Nat} {x : Nat × (Nat → Nat → Nat) × (Nat → Nat → Int64)} (hx : x.1 < h) (hz : lgat h x.1 q x.2.2 (x.1 + 18) q = 0) : sstep h q x = (x.1, x.2.1, lgat h x.1 q x.2.2) := by
  unfold sstep
  rw [if_pos hx, if_pos hz]
theorem sstep_s {h q : Nat} {x : Nat × (Nat → Nat → Nat) × (Nat → Nat → Int64)} (hx : x.1 < h) (hz : ¬ lgat h x.1 q x.2.2 (x.1 + 18) q = 0) : sstep h q x = (x.1 + 1, up2 x.2.1 7 x.1 q, fo (fun a X => lles (up2 x.2.1 7 x.1 q) a x.1 X) x.1 0 (lgat h x.1 q x.2.2)) := by
  unfold sstep
  rw [if_pos hx, if_neg hz]
def spn (h : Nat) (AN : Nat → Nat → Nat) (AL : Nat → Nat → Int64) : (Nat → Nat → Nat) × (Nat → Nat → Int64) :=
  ((fo (sstep h) 6 0 (0, AN, AL)).2.1, fo (fun r X => lles (fo (sstep h) 6 0 (0, AN, AL)).2.1 3 r X) h 0 (fo (sstep h) 6 0 (0, AN, AL)).2.2)

abbrev rmX1_span : Room := { frames := 3, cells := 0, slots := 0, locals := 70 }
set_option maxHeartbeats 4000000 in
set_option maxRecDepth 100000 in
/-- span -/
theorem ctX1_span (l : Launch) (D : va_G) (cs : Nat → ClassId) (ad : Nat → Nat) (I : Nat → Nat) (AN : Nat → Nat → Nat) (AI : Nat → Nat → Int32) (AL : Nat → Nat → Int64) (sz : Nat)  (h5 : I 5 ≤ 3) (hbg : ∀ r, r < 3 → AN 7 r < 6) : Met l yX1_span (Cond.code yX1_span cX1_span 4 none :: GW) rmX1_span (va_Pc [.ref (ad 3)] (gP D cs (wT cs ad I AN AI AL) sz)) (va_Qv (fun u : TS => u = (I, (spn (I 5) AN AL).1, AI, (spn (I 5) AN AL).2)) (gB D cs (va_A (wT cs ad I AN AI AL) sz) (wTs cs ad)) (va_A (wT cs ad I AN AI AL) sz)) 0 0 (va_A (wT cs ad I AN AI AL) sz) := by
  refine Met.ofW (cc := cX1_span) (maxL := 4) (ret := none) (by decide) rfl ?_
  intro p e s m args below meth c s₁ B hml hv
  obtain ⟨rfl, hsz, hP, hK, hD0, hN⟩ := hv
  have hx := B.exec
  have hb := B.bytes
  have hr := B.returns
  have hts : ∀ w ∈ GW, w.before _ s = true := fun w h => atoms_spec (ws := Cond.code yX1_span cX1_span 4 none :: GW) B.pre w (List.mem_cons_of_mem _ h)
  have hown : s.vm.findClass RX1 = some m.cls := findClass_of_methodNamed B.named
  have hlocks := B.notSynchronized
  subst hsz
  have hD := hD0.self (sz := s.heap.size)
  generalize hAe : va_A (wT cs ad I AN AI AL) s.heap.size = A at hD ⊢
  have hA : ∀ q : Nat, s.heap.size ≤ q → A q := fun q h => by rw [← hAe]; exact Or.inr h
  have hS : va_S A s.heap s.heap [] := va_S.rf
  have hl := lv_entry [.ref (ad 3)] (n := 4) (Nat.le_of_ble_eq_true rfl)
  rw [lg_entry_eq]
  generalize (lg_sl [.ref (ad 3)] ++ List.replicate (4 - (lg_sl [.ref (ad 3)]).length) Slot.unset).toArray = ls at hl ⊢
  have hl : lv_has ls 4 [(0, .ref (ad 3))] := hl
  generalize hargs : ([.ref (ad 3)] : List Value).toArray = args at *
  show W p l e rmX1_span s m args below meth c s.heap [] 0 0 _ (F0 m 0 ls [])
  refine lv_iconst (v := nI 0) hx hb dX1_span_0 (by decide) ?_
  refine lv_istore_n (lv' := [(1, .int (nI 0)), (0, .ref (ad 3))]) hx hb dX1_span_1 rfl hl (by decide) rfl (fun ls hl => ?_)
  refine lv_iconst (v := nI 0) hx hb dX1_span_2 (by decide) ?_
  refine lv_istore_n (lv' := [(2, .int (nI 0)), (1, .int (nI 0)), (0, .ref (ad 3))]) hx hb dX1_span_3 rfl hl (by decide) rfl (fun ls hl => ?_)
  have lp4 : ∀ (Q : State → Prop) (n q x : Nat) (AN : Nat → Nat → Nat) (AL : Nat → Nat → Int64) (H : Heap) (locs : List Loc) (ls : Array Slot), q + n = 6 → x ≤ I 5 → (∀ r, r < 3 → AN 7 r < 6) → va_P D vc (wT cs ad I AN AI AL) H → va_D A (wT cs ad I AN AI AL) → va_S A s.heap H locs → lv_has ls 4 [(2, .int (nI q)), (1, .int (nI x)), (0, .ref (ad 3))] → (∀ (H : Heap) (locs : List Loc) (ls : Array Slot) (x' : Nat) (AN' : Nat → Nat → Nat) (AL' : Nat → Nat → Int64), (x', AN', AL') = fo (sstep (I 5)) n q (x, AN, AL) → (∀ r, r < 3 → AN' 7 r < 6) → va_P D vc (wT cs ad I AN' AI AL') H → va_D A (wT cs ad I AN' AI AL') → va_S A s.heap H locs → lv_has ls 4 [(0, .ref (ad 3))] → W p l e rmX1_span s m args below meth c H locs 0 0 Q (F0 m 77 ls [])) → W p l e rmX1_span s m args below meth c H locs 0 0 Q (F0 m 4 ls []) := by
    intro Q n
    induction n with
    | zero =>
      intro q x AN AL H locs ls hn hxh hbg hP hD hS hl kx
      refine lv_iload_n hx hb dX1_span_4 rfl (lv_at hl 0 rfl) ?_
      refine lv_bipush (v := nI 6) hx hb dX1_span_5 (by decide) ?_
      refine b_ge_t (tgt := 77) hx hb dX1_span_7 (by decide) (by omega) (by omega) ?_
      exact kx H locs ls x AN AL rfl hbg hP hD hS (lv_sub hl [2] rfl)
    | succ n ih =>
      intro q x AN AL H locs ls hn hxh hbg hP hD hS hl kx
      refine lv_iload_n hx hb dX1_span_4 rfl (lv_at hl 0 rfl) ?_
      refine lv_bipush (v := nI 6) hx hb dX1_span_5 (by decide) ?_
      refine b_ge_f (tgt := 77) hx hb dX1_span_7 (by decide) (by omega) (by omega) ?_
      refine lv_iload_n hx hb dX1_span_10 rfl (lv_at hl 1 rfl) ?_
      refine lv_aload_n hx hb dX1_span_11 rfl (lv_at hl 2 rfl) ?_
      refine b_get (own := RX1) (C := RX1) (T := TX1) (N := 4) (ci := 1) (v := .int (nI (I 5))) hx hb hts usX1 hown hK hP 3 (by decide) rfl rfl 3 (by decide) (hts _ gw_120) rfl dX1_span_12 ?_
      by_cases hxl : x < I 5
      · refine b_ge_f (tgt := 77) hx hb dX1_span_15 (by decide) (hxl) (by omega) ?_
        refine lv_aload_n hx hb dX1_span_18 rfl (lv_at hl 2 rfl) ?_
        refine lv_iload_n hx hb dX1_span_19 rfl (lv_at hl 1 rfl) ?_
        refine lv_iload_n hx hb dX1_span_20 rfl (lv_at hl 0 rfl) ?_
        refine g_callv (va_runV (As := [.int (nI x), .int (nI q)]) (rest := []) ⟨hx, hb, hml, hown, hts⟩ (ctX1_gather l D cs ad I AN AI AL _ x q h5 hxl (by omega)) (cwV 2 hts (gi_V gw_228 gw_230 gw_14 gw_56 gw_231) rfl rfl rfl (by decide +kernel) ⟨Nat.le_of_ble_eq_true rfl, Nat.le_of_ble_eq_true rfl⟩) ⟨g_blind, va_recv hK hP (ci := 1) (q0 := 3) rfl (wm_at (by decide) rfl), g_pre hP hK hD hN⟩ rfl rfl hl.1 rfl (lv_room (Nat.le_of_ble_eq_true rfl)) dX1_span_21 ⟨Nat.zero_le _, Nat.zero_le _⟩) hD hS hA (fun u H locs hw hP hD hS => ?_)
        obtain rfl := hw
        have hP : va_P D vc (wT cs ad I AN AI (lgat (I 5) x q AL)) H := hP
        have hD : va_D A (wT cs ad I AN AI (lgat (I 5) x q AL)) := hD
        refine lv_aload_n hx hb dX1_span_24 rfl (lv_at hl 2 rfl) ?_
        refine b_get (own := RX1) (C := RX1) (T := TX1) (N := 4) (ci := 1) (v := .ref (ad 6)) hx hb hts usX1 hown hK hP 3 (by decide) rfl rfl 0 (by decide) (hts _ gw_115) rfl dX1_span_25 ?_
        refine lv_iload_n hx hb dX1_span_28 rfl (lv_at hl 1 rfl) ?_
        refine tL_r hx hb hK hP (by omega) dX1_span_29 ?_
        refine lv_iload_n hx hb dX1_span_30 rfl (lv_at hl 0 rfl) ?_
        refine tL_ld (i := x) hx hb hK hP (by omega) (by omega) dX1_span_31 ?_
        refine lv_lconst (v := 0) hx hb dX1_span_32 (by decide) ?_
        refine b_lceq (tgt := 71) hx hb dX1_span_33 dX1_span_34 (by decide) (fun h => ?_) (fun h => ?_)
        · refine b_iinc (lv' := [(2, .int (nI (q + 1))), (1, .int (nI x)), (0, .ref (ad 3))]) hx hb dX1_span_71 hl (k := 0) rfl (by decide) rfl (fun ls hl => ?_)
          refine lv_goto (tgt := 4) hx hb dX1_span_74 (by decide) ?_
          rw [fo_s, sstep_z (x := (x, AN, AL)) hxl h] at kx
          exact ih (q + 1) x AN _ H locs ls (by omega) hxh hbg hP hD hS (lv_sub hl [0, 1, 2] rfl) kx
        · refine lv_aload_n hx hb dX1_span_37 rfl (lv_at hl 2 rfl) ?_
          refine b_get (own := RX1) (C := RX1) (T := TX1) (N := 4) (ci := 1) (v := .ref (ad 7)) hx hb hts usX1 hown hK hP 3 (by decide) rfl rfl 1 (by decide) (hts _ gw_117) rfl dX1_span_38 ?_
          refine lv_iload_n hx hb dX1_span_41 rfl (lv_at hl 1 rfl) ?_
          refine lv_iload_n hx hb dX1_span_42 rfl (lv_at hl 0 rfl) ?_
          refine tB_st hx hb hK hP hD hS (by omega) dX1_span_43 (fun H locs hP hD hS => ?_)
          refine lv_iconst (v := nI 0) hx hb dX1_span_44 (by decide) ?_
          refine lv_istore_n (lv' := [(3, .int (nI 0)), (2, .int (nI q)), (1, .int (nI x)), (0, .ref (ad 3))]) hx hb dX1_span_45 rfl hl (by decide) rfl (fun ls hl => ?_)
          have hbg2 : ∀ r, r < 3 → (up2 AN 7 x q) 7 r < 6 := fun r hr => by
            by_cases hrx : r = x
            · rw [hrx, up2_s]; omega
            · rw [up2_n (fun z => hrx z.2)]; exact hbg r hr
          generalize hAN2 : up2 AN 7 x q = AN2 at hP hD hbg2
          generalize hAL2 : lgat (I 5) x q AL = AL2 at hP hD
          have lp46 : ∀ (Q : State → Prop) (n g9 : Nat) (X : Nat → Nat → Int64) (H : Heap) (locs : List Loc) (ls : Array Slot), g9 + n = x → va_P D vc (wT cs ad I AN2 AI X) H → va_D A (wT cs ad I AN2 AI X) → va_S A s.heap H locs → lv_has ls 4 [(3, .int (nI g9)), (2, .int (nI q)), (1, .int (nI x)), (0, .ref (ad 3))] → (∀ (H : Heap) (locs : List Loc) (ls : Array Slot), va_P D vc (wT cs ad I AN2 AI (fo (fun a X => lles AN2 a x X) n g9 X)) H → va_D A (wT cs ad I AN2 AI (fo (fun a X => lles AN2 a x X) n g9 X)) → va_S A s.heap H locs → lv_has ls 4 [(3, .int (nI x)), (2, .int (nI q)), (1, .int (nI x)), (0, .ref (ad 3))] → W p l e rmX1_span s m args below meth c H locs 0 0 Q (F0 m 68 ls [])) → W p l e rmX1_span s m args below meth c H locs 0 0 Q (F0 m 46 ls []) := by
            intro Q n
            induction n with
            | zero =>
              intro g9 X H locs ls hn hP hD hS hl kx
              have hi : g9 = x := by omega
              refine lv_iload_n hx hb dX1_span_46 rfl (lv_at hl 0 rfl) ?_
              refine lv_iload_n hx hb dX1_span_47 rfl (lv_at hl 2 rfl) ?_
              refine b_ge_t (tgt := 68) hx hb dX1_span_48 (by decide) (by omega) (by omega) ?_
              rw [hi] at hl
              exact kx H locs ls hP hD hS (lv_sub hl [0, 1, 2, 3] rfl)
            | succ n ih =>
              intro g9 X H locs ls hn hP hD hS hl kx
              have hi : g9 < x := by omega
              refine lv_iload_n hx hb dX1_span_46 rfl (lv_at hl 0 rfl) ?_
              refine lv_iload_n hx hb dX1_span_47 rfl (lv_at hl 2 rfl) ?_
              refine b_ge_f (tgt := 68) hx hb dX1_span_48 (by decide) (by omega) (by omega) ?_
              refine lv_aload_n hx hb dX1_span_51 rfl (lv_at hl 3 rfl) ?_
              refine lv_aload_n hx hb dX1_span_52 rfl (lv_at hl 3 rfl) ?_
              refine b_get (own := RX1) (C := RX1) (T := TX1) (N := 4) (ci := 1) (v := .ref (ad 6)) hx hb hts usX1 hown hK hP 3 (by decide) rfl rfl 0 (by decide) (hts _ gw_115) rfl dX1_span_53 ?_
              refine lv_iload_n hx hb dX1_span_56 rfl (lv_at hl 0 rfl) ?_
              refine tL_r hx hb hK hP (by omega) dX1_span_57 ?_
              refine lv_iload_n hx hb dX1_span_58 rfl (lv_at hl 2 rfl) ?_
              refine g_callv (va_runV (As := [.ref (ad (g9 + 18)), .int (nI x)]) (rest := []) ⟨hx, hb, hml, hown, hts⟩ (ctX1_lessen l D cs ad I AN2 AI X _ g9 x (by omega) (by omega) hbg2) (cwV 2 hts (gi_V gw_244 gw_246 gw_15 gw_56 gw_247) rfl rfl rfl (by decide +kernel) ⟨Nat.le_of_ble_eq_true rfl, Nat.le_of_ble_eq_true rfl⟩) ⟨g_blind, va_recv hK hP (ci := 1) (q0 := 3) rfl (wm_at (by decide) rfl), g_pre hP hK hD hN⟩ rfl rfl hl.1 rfl (lv_room (Nat.le_of_ble_eq_true rfl)) dX1_span_59 ⟨Nat.zero_le _, Nat.zero_le _⟩) hD hS hA (fun u H locs hw hP hD hS => ?_)
              obtain rfl := hw
              have hP : va_P D vc (wT cs ad I AN2 AI (lles AN2 g9 x X)) H := hP
              have hD : va_D A (wT cs ad I AN2 AI (lles AN2 g9 x X)) := hD
              refine b_iinc (lv' := [(3, .int (nI (g9 + 1))), (2, .int (nI q)), (1, .int (nI x)), (0, .ref (ad 3))]) hx hb dX1_span_62 hl (k := 0) rfl (by decide) rfl (fun ls hl => ?_)
              refine lv_goto (tgt := 46) hx hb dX1_span_65 (by decide) ?_
              exact ih (g9 + 1) _ H locs ls (by omega) hP hD hS (lv_sub hl [0, 1, 2, 3] rfl) kx
          refine lp46 _ (x) 0 AL2 _ _ ls (by omega) hP hD hS (lv_sub hl [0, 1, 2, 3] rfl) (fun H locs ls hP hD hS hl => ?_)
          refine b_iinc (lv' := [(1, .int (nI (x + 1))), (3, .int (nI x)), (2, .int (nI q)), (0, .ref (ad 3))]) hx hb dX1_span_68 hl (k := 2) rfl (by decide) rfl (fun ls hl => ?_)
          refine b_iinc (lv' := [(2, .int (nI (q + 1))), (1, .int (nI (x + 1))), (3, .int (nI x)), (0, .ref (ad 3))]) hx hb dX1_span_71 hl (k := 2) rfl (by decide) rfl (fun ls hl => ?_)
          refine lv_goto (tgt := 4) hx hb dX1_span_74 (by decide) ?_
          subst hAN2
          subst hAL2
          rw [fo_s, sstep_s (x := (x, AN, AL)) hxl h] at kx
          exact ih (q + 1) (x + 1) _ _ H locs ls (by omega) (by omega) hbg2 hP hD hS (lv_sub hl [0, 1, 3] rfl) kx
      · refine b_ge_t (tgt := 77) hx hb dX1_span_15 (by decide) (by omega) (by omega) ?_
        refine kx H locs ls x AN AL ?_ hbg hP hD hS (lv_sub hl [2] rfl)
        exact (fo_id (f := sstep (I 5)) (fun q => sstep_out (x := (x, AN, AL)) hxl) (n + 1) q).symm
  refine lp4 _ 6 0 0 AN AL _ _ ls (by omega) (by omega) hbg hP hD hS (lv_sub hl [0, 1, 2] rfl) (fun H locs ls x' AN' AL' he hbg hP hD hS hl => ?_)
  refine lv_iconst (v := nI 0) hx hb dX1_span_77 (by decide) ?_
  refine lv_istore_n (lv' := [(2, .int (nI 0)), (0, .ref (ad 3))]) hx hb dX1_span_78 rfl hl (by decide) rfl (fun ls hl => ?_)
  have lp79 : ∀ (Q : State → Prop) (n g9 : Nat) (X : Nat → Nat → Int64) (H : Heap) (locs : List Loc) (ls : Array Slot), g9 + n = I 5 → va_P D vc (wT cs ad I AN' AI X) H → va_D A (wT cs ad I AN' AI X) → va_S A s.heap H locs → lv_has ls 4 [(2, .int (nI g9)), (0, .ref (ad 3))] → (∀ (H : Heap) (locs : List Loc) (ls : Array Slot), va_P D vc (wT cs ad I AN' AI (fo (fun r X => lles AN' 3 r X) n g9 X)) H → va_D A (wT cs ad I AN' AI (fo (fun r X => lles AN' 3 r X) n g9 X)) → va_S A s.heap H locs → lv_has ls 4 [(2, .int (nI (I 5))), (0, .ref (ad 3))] → W p l e rmX1_span s m args below meth c H locs 0 0 Q (F0 m 102 ls [])) → W p l e rmX1_span s m args below meth c H locs 0 0 Q (F0 m 79 ls []) := by
    intro Q n
    induction n with
    | zero =>
      intro g9 X H locs ls hn hP hD hS hl kx
      have hi : g9 = I 5 := by omega
      refine lv_iload_n hx hb dX1_span_79 rfl (lv_at hl 0 rfl) ?_
      refine lv_aload_n hx hb dX1_span_80 rfl (lv_at hl 1 rfl) ?_
      refine b_get (own := RX1) (C := RX1) (T := TX1) (N := 4) (ci := 1) (v := .int (nI (I 5))) hx hb hts usX1 hown hK hP 3 (by decide) rfl rfl 3 (by decide) (hts _ gw_120) rfl dX1_span_81 ?_
      refine b_ge_t (tgt := 102) hx hb dX1_span_84 (by decide) (by omega) (by omega) ?_
      rw [hi] at hl
      exact kx H locs ls hP hD hS (lv_sub hl [0, 1] rfl)
    | succ n ih =>
      intro g9 X H locs ls hn hP hD hS hl kx
      have hi : g9 < I 5 := by omega
      refine lv_iload_n hx hb dX1_span_79 rfl (lv_at hl 0 rfl) ?_
      refine lv_aload_n hx hb dX1_span_80 rfl (lv_at hl 1 rfl) ?_
      refine b_get (own := RX1) (C := RX1) (T := TX1) (N := 4) (ci := 1) (v := .int (nI (I 5))) hx hb hts usX1 hown hK hP 3 (by decide) rfl rfl 3 (by decide) (hts _ gw_120) rfl dX1_span_81 ?_
      refine b_ge_f (tgt := 102) hx hb dX1_span_84 (by decide) (by omega) (by omega) ?_
      refine lv_aload_n hx hb dX1_span_87 rfl (lv_at hl 1 rfl) ?_
      refine lv_aload_n hx hb dX1_span_88 rfl (lv_at hl 1 rfl) ?_
      refine b_get (own := RX1) (C := RX1) (T := TX1) (N := 4) (ci := 1) (v := .ref (ad 21)) hx hb hts usX1 hown hK hP 3 (by decide) rfl rfl 2 (by decide) (hts _ gw_118) rfl dX1_span_89 ?_
      refine lv_iload_n hx hb dX1_span_92 rfl (lv_at hl 0 rfl) ?_
      refine g_callv (va_runV (As := [.ref (ad 21), .int (nI g9)]) (rest := []) ⟨hx, hb, hml, hown, hts⟩ (ctX1_lessen l D cs ad I AN' AI X _ 3 g9 (by omega) (by omega) hbg) (cwV 2 hts (gi_V gw_244 gw_246 gw_15 gw_56 gw_247) rfl rfl rfl (by decide +kernel) ⟨Nat.le_of_ble_eq_true rfl, Nat.le_of_ble_eq_true rfl⟩) ⟨g_blind, va_recv hK hP (ci := 1) (q0 := 3) rfl (wm_at (by decide) rfl), g_pre hP hK hD hN⟩ rfl rfl hl.1 rfl (lv_room (Nat.le_of_ble_eq_true rfl)) dX1_span_93 ⟨Nat.zero_le _, Nat.zero_le _⟩) hD hS hA (fun u H locs hw hP hD hS => ?_)
      obtain rfl := hw
      have hP : va_P D vc (wT cs ad I AN' AI (lles AN' 3 g9 X)) H := hP
      have hD : va_D A (wT cs ad I AN' AI (lles AN' 3 g9 X)) := hD
      refine b_iinc (lv' := [(2, .int (nI (g9 + 1))), (0, .ref (ad 3))]) hx hb dX1_span_96 hl (k := 0) rfl (by decide) rfl (fun ls hl => ?_)
      refine lv_goto (tgt := 79) hx hb dX1_span_99 (by decide) ?_
      exact ih (g9 + 1) _ H locs ls (by omega) hP hD hS (lv_sub hl [0, 1] rfl) kx
  refine lp79 _ (I 5) 0 AL' _ _ ls (by omega) hP hD hS (lv_sub hl [0, 1] rfl) (fun H locs ls hP hD hS hl => ?_)
  exact g_vret hx hb hr hlocks (I, AN', AI, fo (fun r X => lles AN' 3 r X) (I 5) 0 AL') (by unfold spn; rw [← he]) hK hP hD hS dX1_span_102

abbrev rmX1_isReached : Room := { frames := 0, cells := 0, slots := 0, locals := 0 }
set_option maxHeartbeats 4000000 in
set_option maxRecDepth 100000 in
/-- isReached -/
theorem ctX1_isReached (l : Launch) (D : va_G) (cs : Nat → ClassId) (ad : Nat → Nat) (I : Nat → Nat) (AN : Nat → Nat → Nat) (AI : Nat → Nat → Int32) (AL : Nat → Nat → Int64) (sz : Nat)   : Met l yX1_isReached (Cond.code yX1_isReached cX1_isReached 2 (some FieldType.boolean) :: GW) rmX1_isReached (va_Pc [.ref (ad 3)] (gP D cs (wT cs ad I AN AI AL) sz)) (va_Qi (fun (r : Int32) (u : TS) => u = (I, AN, AI, AL) ∧ r = bz (fnd (fun k => AL 21 k ≠ 0) 3 0).isNone) (gB D cs (va_A (wT cs ad I AN AI AL) sz) (wTs cs ad)) (va_A (wT cs ad I AN AI AL) sz)) 0 0 (va_A (wT cs ad I AN AI AL) sz) := by
  refine Met.ofW (cc := cX1_isReached) (maxL := 2) (ret := (some FieldType.boolean)) (by decide) rfl ?_
  intro p e s m args below meth c s₁ B hml hv
  obtain ⟨rfl, hsz, hP, hK, hD0, hN⟩ := hv
  have hx := B.exec
  have hb := B.bytes
  have hr := B.returns
  have hts : ∀ w ∈ GW, w.before _ s = true := fun w h => atoms_spec (ws := Cond.code yX1_isReached cX1_isReached 2 (some FieldType.boolean) :: GW) B.pre w (List.mem_cons_of_mem _ h)
  have hown : s.vm.findClass RX1 = some m.cls := findClass_of_methodNamed B.named
  have hlocks := B.notSynchronized
  subst hsz
  have hD := hD0.self (sz := s.heap.size)
  generalize hAe : va_A (wT cs ad I AN AI AL) s.heap.size = A at hD ⊢
  have hA : ∀ q : Nat, s.heap.size ≤ q → A q := fun q h => by rw [← hAe]; exact Or.inr h
  have hS : va_S A s.heap s.heap [] := va_S.rf
  have hl := lv_entry [.ref (ad 3)] (n := 2) (Nat.le_of_ble_eq_true rfl)
  rw [lg_entry_eq]
  generalize (lg_sl [.ref (ad 3)] ++ List.replicate (2 - (lg_sl [.ref (ad 3)]).length) Slot.unset).toArray = ls at hl ⊢
  have hl : lv_has ls 2 [(0, .ref (ad 3))] := hl
  generalize hargs : ([.ref (ad 3)] : List Value).toArray = args at *
  show W p l e rmX1_isReached s m args below meth c s.heap [] 0 0 _ (F0 m 0 ls [])
  refine lv_iconst (v := nI 0) hx hb dX1_isReached_0 (by decide) ?_
  refine lv_istore_n (lv' := [(1, .int (nI 0)), (0, .ref (ad 3))]) hx hb dX1_isReached_1 rfl hl (by decide) rfl (fun ls hl => ?_)
  have lp2 : ∀ (n k : Nat) (H : Heap) (locs : List Loc) (ls : Array Slot), k + n = 3 → va_P D vc (wT cs ad I AN AI AL) H → va_D A (wT cs ad I AN AI AL) → va_S A s.heap H locs → lv_has ls 2 [(1, .int (nI k)), (0, .ref (ad 3))] → W p l e rmX1_isReached s m args below meth c H locs 0 0 (MQ below (va_Qi (fun (r : Int32) (u : TS) => u = (I, AN, AI, AL) ∧ r = bz (fnd (fun k => AL 21 k ≠ 0) n k).isNone) (gB D cs A (wTs cs ad)) A) args s 0 0 A) (F0 m 2 ls []) := by
    intro n
    induction n with
    | zero =>
      intro k H locs ls hn hP hD hS hl
      have hi : k = 3 := by omega
      refine lv_iload_n hx hb dX1_isReached_2 rfl (lv_at hl 0 rfl) ?_
      refine lv_iconst (v := nI 3) hx hb dX1_isReached_3 (by decide) ?_
      refine b_ge_t (tgt := 26) hx hb dX1_isReached_4 (by decide) (by omega) (by omega) ?_
      refine lv_iconst (v := nI 1) hx hb dX1_isReached_26 (by decide) ?_
      exact g_zret hx hb hr hlocks rfl (I, AN, AI, AL) (⟨rfl, rfl⟩) hK hP hD hS dX1_isReached_27
    | succ n ih =>
      intro k H locs ls hn hP hD hS hl
      have hi : k < 3 := by omega
      refine lv_iload_n hx hb dX1_isReached_2 rfl (lv_at hl 0 rfl) ?_
      refine lv_iconst (v := nI 3) hx hb dX1_isReached_3 (by decide) ?_
      refine b_ge_f (tgt := 26) hx hb dX1_isReached_4 (by decide) (by omega) (by omega) ?_
      refine lv_aload_n hx hb dX1_isReached_7 rfl (lv_at hl 1 rfl) ?_
      refine b_get (own := RX1) (C := RX1) (T := TX1) (N := 4) (ci := 1) (v := .ref (ad 21)) hx hb hts usX1 hown hK hP 3 (by decide) rfl rfl 2 (by decide) (hts _ gw_118) rfl dX1_isReached_8 ?_
      refine lv_iload_n hx hb dX1_isReached_11 rfl (lv_at hl 0 rfl) ?_
      refine tL_ld (i := 3) hx hb hK hP (by omega) (by omega) dX1_isReached_12 ?_
      refine lv_lconst (v := 0) hx hb dX1_isReached_13 (by decide) ?_
      refine b_lceq (tgt := 20) hx hb dX1_isReached_14 dX1_isReached_15 (by decide) (fun h => ?_) (fun h => ?_)
      · refine b_iinc (lv' := [(1, .int (nI (k + 1))), (0, .ref (ad 3))]) hx hb dX1_isReached_20 hl (k := 0) rfl (by decide) rfl (fun ls hl => ?_)
        refine lv_goto (tgt := 2) hx hb dX1_isReached_23 (by decide) ?_
        rw [fnd_f (f := fun k => AL 21 k ≠ 0) (fun q => q h)]
        exact ih (k + 1) H locs ls (by omega) hP hD hS (lv_sub hl [0, 1] rfl)
      · refine lv_iconst (v := nI 0) hx hb dX1_isReached_18 (by decide) ?_
        exact g_zret hx hb hr hlocks rfl (I, AN, AI, AL) (⟨rfl, by rw [fnd_t (f := fun k => AL 21 k ≠ 0) h]; rfl⟩) hK hP hD hS dX1_isReached_19
  exact lp2 (3 - 0) 0 _ _ ls (by omega) hP hD hS (lv_sub hl [0, 1] rfl)

/-- how many of the lattice's rows are members of the base -/
def mbs (AN : Nat → Nat → Nat) (h : Nat) : Nat := fo (fun r z => if AN 7 r < 3 then z else z + 1) h 0 0
theorem mbs_le {AN : Nat → Nat → Nat} : ∀ (n r z : Nat), fo (fun r z => if AN 7 r < 3 then z else z + 1) n r z ≤ z + n
  | 0, _, z => Nat.le_refl z
  | n + 1, r, z => by
    rw [fo_s]
    have h1 := mbs_le (AN := AN) n (r + 1) (if AN 7 r < 3 then z else z + 1)
    by_cases h : AN 7 r < 3
    · rw [if_pos h] at h1 ⊢
      omega
    · rw [if_neg h] at h1 ⊢
      omega

abbrev rmX1_members : Room := { frames := 0, cells := 0, slots := 0, locals := 0 }
set_option maxHeartbeats 4000000 in
set_option maxRecDepth 100000 in
/-- members -/
theorem ctX1_members (l : Launch) (D : va_G) (cs : Nat → ClassId) (ad : Nat → Nat) (I : Nat → Nat) (AN : Nat → Nat → Nat) (AI : Nat → Nat → Int32) (AL : Nat → Nat → Int64) (sz : Nat)  (h5 : I 5 ≤ 3) (hbg : ∀ r, r < 3 → AN 7 r < 6) : Met l yX1_members (Cond.code yX1_members cX1_members 3 (some FieldType.int) :: GW) rmX1_members (va_Pc [.ref (ad 3)] (gP D cs (wT cs ad I AN AI AL) sz)) (va_Qi (fun (r : Int32) (u : TS) => u = (I, AN, AI, AL) ∧ r = nI (mbs AN (I 5))) (gB D cs (va_A (wT cs ad I AN AI AL) sz) (wTs cs ad)) (va_A (wT cs ad I AN AI AL) sz)) 0 0 (va_A (wT cs ad I AN AI AL) sz) := by
  refine Met.ofW (cc := cX1_members) (maxL := 3) (ret := (some FieldType.int)) (by decide) rfl ?_
  intro p e s m args below meth c s₁ B hml hv
  obtain ⟨rfl, hsz, hP, hK, hD0, hN⟩ := hv
  have hx := B.exec
  have hb := B.bytes
  have hr := B.returns
  have hts : ∀ w ∈ GW, w.before _ s = true := fun w h => atoms_spec (ws := Cond.code yX1_members cX1_members 3 (some FieldType.int) :: GW) B.pre w (List.mem_cons_of_mem _ h)
  have hown : s.vm.findClass RX1 = some m.cls := findClass_of_methodNamed B.named
  have hlocks := B.notSynchronized
  subst hsz
  have hD := hD0.self (sz := s.heap.size)
  generalize hAe : va_A (wT cs ad I AN AI AL) s.heap.size = A at hD ⊢
  have hA : ∀ q : Nat, s.heap.size ≤ q → A q := fun q h => by rw [← hAe]; exact Or.inr h
  have hS : va_S A s.heap s.heap [] := va_S.rf
  have hl := lv_entry [.ref (ad 3)] (n := 3) (Nat.le_of_ble_eq_true rfl)
  rw [lg_entry_eq]
  generalize (lg_sl [.ref (ad 3)] ++ List.replicate (3 - (lg_sl [.ref (ad 3)]).length) Slot.unset).toArray = ls at hl ⊢
  have hl : lv_has ls 3 [(0, .ref (ad 3))] := hl
  generalize hargs : ([.ref (ad 3)] : List Value).toArray = args at *
  show W p l e rmX1_members s m args below meth c s.heap [] 0 0 _ (F0 m 0 ls [])
  refine lv_iconst (v := nI 0) hx hb dX1_members_0 (by decide) ?_
  refine lv_istore_n (lv' := [(1, .int (nI 0)), (0, .ref (ad 3))]) hx hb dX1_members_1 rfl hl (by decide) rfl (fun ls hl => ?_)
  refine lv_iconst (v := nI 0) hx hb dX1_members_2 (by decide) ?_
  refine lv_istore_n (lv' := [(2, .int (nI 0)), (1, .int (nI 0)), (0, .ref (ad 3))]) hx hb dX1_members_3 rfl hl (by decide) rfl (fun ls hl => ?_)
  have lp4 : ∀ (Q : State → Prop) (n r9 : Nat) (z : Nat) (H : Heap) (locs : List Loc) (ls : Array Slot), r9 + n = I 5 → va_P D vc (wT cs ad I AN AI AL) H → va_D A (wT cs ad I AN AI AL) → va_S A s.heap H locs → lv_has ls 3 [(2, .int (nI r9)), (1, .int (nI z)), (0, .ref (ad 3))] → (∀ (H : Heap) (locs : List Loc) (ls : Array Slot), va_P D vc (wT cs ad I AN AI AL) H → va_D A (wT cs ad I AN AI AL) → va_S A s.heap H locs → lv_has ls 3 [(2, .int (nI (I 5))), (1, .int (nI (fo (fun r z => if AN 7 r < 3 then z else z + 1) n r9 z))), (0, .ref (ad 3))] → W p l e rmX1_members s m args below meth c H locs 0 0 Q (F0 m 31 ls [])) → W p l e rmX1_members s m args below meth c H locs 0 0 Q (F0 m 4 ls []) := by
    intro Q n
    induction n with
    | zero =>
      intro r9 z H locs ls hn hP hD hS hl kx
      have hi : r9 = I 5 := by omega
      refine lv_iload_n hx hb dX1_members_4 rfl (lv_at hl 0 rfl) ?_
      refine lv_aload_n hx hb dX1_members_5 rfl (lv_at hl 2 rfl) ?_
      refine b_get (own := RX1) (C := RX1) (T := TX1) (N := 4) (ci := 1) (v := .int (nI (I 5))) hx hb hts usX1 hown hK hP 3 (by decide) rfl rfl 3 (by decide) (hts _ gw_120) rfl dX1_members_6 ?_
      refine b_ge_t (tgt := 31) hx hb dX1_members_9 (by decide) (by omega) (by omega) ?_
      rw [hi] at hl
      exact kx H locs ls hP hD hS (lv_sub hl [0, 1, 2] rfl)
    | succ n ih =>
      intro r9 z H locs ls hn hP hD hS hl kx
      have hi : r9 < I 5 := by omega
      refine lv_iload_n hx hb dX1_members_4 rfl (lv_at hl 0 rfl) ?_
      refine lv_aload_n hx hb dX1_members_5 rfl (lv_at hl 2 rfl) ?_
      refine b_get (own := RX1) (C := RX1) (T := TX1) (N := 4) (ci := 1) (v := .int (nI (I 5))) hx hb hts usX1 hown hK hP 3 (by decide) rfl rfl 3 (by decide) (hts _ gw_120) rfl dX1_members_6 ?_
      refine b_ge_f (tgt := 31) hx hb dX1_members_9 (by decide) (by omega) (by omega) ?_
      refine lv_aload_n hx hb dX1_members_12 rfl (lv_at hl 2 rfl) ?_
      refine b_get (own := RX1) (C := RX1) (T := TX1) (N := 4) (ci := 1) (v := .ref (ad 7)) hx hb hts usX1 hown hK hP 3 (by decide) rfl rfl 1 (by decide) (hts _ gw_117) rfl dX1_members_13 ?_
      refine lv_iload_n hx hb dX1_members_16 rfl (lv_at hl 0 rfl) ?_
      refine tB_ld hx hb hK hP (by omega) dX1_members_17 ?_
      refine lv_iconst (v := nI 3) hx hb dX1_members_18 (by decide) ?_
      have hb6 := hbg r9 (by omega)
      by_cases h : AN 7 r9 < 3
      · refine lv_icmp_lt (tgt := 25) hx hb dX1_members_19 (by decide) (fun _ => ?_) (fun q => absurd (nI_lt h (by omega)) q)
        refine b_iinc (lv' := [(2, .int (nI (r9 + 1))), (1, .int (nI z)), (0, .ref (ad 3))]) hx hb dX1_members_25 hl (k := 0) rfl (by decide) rfl (fun ls hl => ?_)
        refine lv_goto (tgt := 4) hx hb dX1_members_28 (by decide) ?_
        rw [show z = (if AN 7 r9 < 3 then z else z + 1) from (if_pos h).symm] at hl
        exact ih (r9 + 1) _ H locs ls (by omega) hP hD hS (lv_sub hl [0, 1, 2] rfl) kx
      · refine lv_icmp_lt (tgt := 25) hx hb dX1_members_19 (by decide) (fun q => absurd q (nI_nlt (by omega) (by omega))) (fun _ => ?_)
        refine b_iinc (lv' := [(1, .int (nI (z + 1))), (2, .int (nI r9)), (0, .ref (ad 3))]) hx hb dX1_members_22 hl (k := 1) rfl (by decide) rfl (fun ls hl => ?_)
        refine b_iinc (lv' := [(2, .int (nI (r9 + 1))), (1, .int (nI (z + 1))), (0, .ref (ad 3))]) hx hb dX1_members_25 hl (k := 1) rfl (by decide) rfl (fun ls hl => ?_)
        refine lv_goto (tgt := 4) hx hb dX1_members_28 (by decide) ?_
        rw [show z + 1 = (if AN 7 r9 < 3 then z else z + 1) from (if_neg h).symm] at hl
        exact ih (r9 + 1) _ H locs ls (by omega) hP hD hS (lv_sub hl [0, 1, 2] rfl) kx
  refine lp4 _ (I 5) 0 0 _ _ ls (by omega) hP hD hS (lv_sub hl [0, 1, 2] rfl) (fun H locs ls hP hD hS hl => ?_)
  refine lv_iload_n hx hb dX1_members_31 rfl (lv_at hl 1 rfl) ?_
  exact g_iret hx hb hr hlocks (I, AN, AI, AL) (⟨rfl, rfl⟩) hK hP hD hS dX1_members_32

abbrev rmX1_member : Room := { frames := 1, cells := 0, slots := 0, locals := 22 }
set_option maxHeartbeats 4000000 in
set_option maxRecDepth 100000 in
/-- member -/
theorem ctX1_member (l : Launch) (D : va_G) (cs : Nat → ClassId) (ad : Nat → Nat) (I : Nat → Nat) (AN : Nat → Nat → Nat) (AI : Nat → Nat → Int32) (AL : Nat → Nat → Int64) (sz : Nat) (k v : Nat) (h5 : I 5 ≤ 3) (hbg : ∀ r, r < 3 → AN 7 r < 6) (hk : k < mbs AN (I 5)) (hv : v < 3) : Met l yX1_member (Cond.code yX1_member cX1_member 3 (some FieldType.long) :: GW) rmX1_member (va_Pc [.ref (ad 3), .int (nI k), .int (nI v)] (gP D cs (wT cs ad I AN AI AL) sz)) (va_Ql (fun (r : Int64) (u : TS) => u = (I, AN, AI, AL) ∧ r = AL (I 5 - mbs AN (I 5) + k + 18) (3 + v)) (gB D cs (va_A (wT cs ad I AN AI AL) sz) (wTs cs ad)) (va_A (wT cs ad I AN AI AL) sz)) 0 0 (va_A (wT cs ad I AN AI AL) sz) := by
  refine Met.ofW (cc := cX1_member) (maxL := 3) (ret := (some FieldType.long)) (by decide) rfl ?_
  intro p e s m args below meth c s₁ B hml hv
  obtain ⟨rfl, hsz, hP, hK, hD0, hN⟩ := hv
  have hx := B.exec
  have hb := B.bytes
  have hr := B.returns
  have hts : ∀ w ∈ GW, w.before _ s = true := fun w h => atoms_spec (ws := Cond.code yX1_member cX1_member 3 (some FieldType.long) :: GW) B.pre w (List.mem_cons_of_mem _ h)
  have hown : s.vm.findClass RX1 = some m.cls := findClass_of_methodNamed B.named
  have hlocks := B.notSynchronized
  subst hsz
  have hD := hD0.self (sz := s.heap.size)
  generalize hAe : va_A (wT cs ad I AN AI AL) s.heap.size = A at hD ⊢
  have hA : ∀ q : Nat, s.heap.size ≤ q → A q := fun q h => by rw [← hAe]; exact Or.inr h
  have hS : va_S A s.heap s.heap [] := va_S.rf
  have hl := lv_entry [.ref (ad 3), .int (nI k), .int (nI v)] (n := 3) (Nat.le_of_ble_eq_true rfl)
  rw [lg_entry_eq]
  generalize (lg_sl [.ref (ad 3), .int (nI k), .int (nI v)] ++ List.replicate (3 - (lg_sl [.ref (ad 3), .int (nI k), .int (nI v)]).length) Slot.unset).toArray = ls at hl ⊢
  have hl : lv_has ls 3 [(0, .ref (ad 3)), (1, .int (nI k)), (2, .int (nI v))] := hl
  generalize hargs : ([.ref (ad 3), .int (nI k), .int (nI v)] : List Value).toArray = args at *
  show W p l e rmX1_member s m args below meth c s.heap [] 0 0 _ (F0 m 0 ls [])
  have hml9 : mbs AN (I 5) ≤ 0 + I 5 := mbs_le (AN := AN) (I 5) 0 0
  refine lv_aload_n hx hb dX1_member_0 rfl (lv_at hl 0 rfl) ?_
  refine b_get (own := RX1) (C := RX1) (T := TX1) (N := 4) (ci := 1) (v := .ref (ad 6)) hx hb hts usX1 hown hK hP 3 (by decide) rfl rfl 0 (by decide) (hts _ gw_115) rfl dX1_member_1 ?_
  refine lv_aload_n hx hb dX1_member_4 rfl (lv_at hl 0 rfl) ?_
  refine b_get (own := RX1) (C := RX1) (T := TX1) (N := 4) (ci := 1) (v := .int (nI (I 5))) hx hb hts usX1 hown hK hP 3 (by decide) rfl rfl 3 (by decide) (hts _ gw_120) rfl dX1_member_5 ?_
  refine lv_aload_n hx hb dX1_member_8 rfl (lv_at hl 0 rfl) ?_
  refine g_calli (va_runV (As := []) (rest := [.int (nI (I 5)), .ref (ad 6)]) ⟨hx, hb, hml, hown, hts⟩ (ctX1_members l D cs ad I AN AI AL _ h5 hbg) (cwV 0 hts (gi_V gw_455 gw_448 gw_23 gw_56 gw_449) rfl rfl rfl (by decide +kernel) ⟨Nat.le_of_ble_eq_true rfl, Nat.le_of_ble_eq_true rfl⟩) ⟨g_blind, va_recv hK hP (ci := 1) (q0 := 3) rfl (wm_at (by decide) rfl), g_pre hP hK hD hN⟩ rfl rfl hl.1 rfl (lv_room (Nat.le_of_ble_eq_true rfl)) dX1_member_9 ⟨Nat.zero_le _, Nat.zero_le _⟩) hD hS hA (fun r u H locs hw hP hD hS => ?_)
  obtain ⟨rfl, rfl⟩ := hw
  have hP : va_P D vc (wT cs ad I AN AI AL) H := hP
  have hD : va_D A (wT cs ad I AN AI AL) := hD
  refine b_subn hx hb dX1_member_12 (by omega) ?_
  refine lv_iload_n hx hb dX1_member_13 rfl (lv_at hl 1 rfl) ?_
  refine b_addn hx hb dX1_member_14 ?_
  refine tL_r hx hb hK hP (by omega) dX1_member_15 ?_
  refine lv_iconst (v := nI 3) hx hb dX1_member_16 (by decide) ?_
  refine lv_iload_n hx hb dX1_member_17 rfl (lv_at hl 2 rfl) ?_
  refine b_addn hx hb dX1_member_18 ?_
  refine tL_ld (i := ((I 5) - (mbs AN (I 5))) + k) hx hb hK hP (by omega) (by omega) dX1_member_19 ?_
  exact g_lret hx hb hr hlocks (I, AN, AI, AL) (⟨rfl, rfl⟩) hK hP hD hS dX1_member_20
