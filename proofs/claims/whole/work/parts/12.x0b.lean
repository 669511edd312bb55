theorem up1_1 {α : Type} {f : Nat → α} {k : Nat} {a b : α} : up1 (up1 f k a) k b = up1 f k b := by
  funext x
  by_cases h : x = k
  · simp [up1, h]
  · simp [up1, h]
theorem up1_id {α : Type} {f : Nat → α} {k : Nat} : up1 f k (f k) = f := by
  funext x
  by_cases h : x = k
  · simp [up1, h]
  · simp [up1, h]
def exch (w a b : Nat) (AL : Nat → Nat → Int64) : Nat → Nat → Int64 := fo (fun j X => up2 (up2 X (a + 11) j (X (b + 11) j)) (b + 11) j (X (a + 11) j)) (w + 1) 0 AL
def mabz (w a q : Nat) (AL : Nat → Nat → Int64) : Nat → Nat → Int64 := if AL (a + 11) q < 0 then fo (fun j X => up2 X (a + 11) j (-X (a + 11) j)) (w + 1) 0 AL else AL
def clrc (w h a q : Nat) (AL : Nat → Nat → Int64) : Nat → Nat → Int64 := fo (fun i X => clr1 w a q (AL (a + 11) q) i X) h 0 AL
/-- one column of the elimination: decided, decides, rows -/
def estep (w h q : Nat) (x : Nat × (Nat → Nat → Nat) × (Nat → Nat → Int64)) : Nat × (Nat → Nat → Nat) × (Nat → Nat → Int64) :=
  if x.1 < h then
    match fnd (fun k => x.2.2 (k + 11) q ≠ 0) (h - x.1) x.1 with
    | none => x
    | some k => (x.1 + 1, up2 x.2.1 5 x.1 q, clrc w h x.1 q (mabz w x.1 q (exch w x.1 k x.2.2)))
  else x
theorem estep_out {w h q : Nat} {x : Nat × (Nat → Nat → Nat) × (Nat → Nat → Int64)} (hx : ¬ x.1 < h) : estep w h q x = x := if_neg hx
theorem estep_none {w h q : Nat} {x : Nat × (Nat → Nat → Nat) × (Nat → Nat → Int64)} (hx : x.1 < h) (hf : fnd (fun k => x.2.2 (k + 11) q ≠ 0) (h - x.1) x.1 = none) : estep w h q x = x := by
  unfold estep
  rw [if_pos hx, hf]
theorem estep_some {w h q k : Nat} {x : Nat × (Nat → Nat → Nat) × (Nat → Nat → Int64)} (hx : x.1 < h) (hf : fnd (fun k => x.2.2 (k + 11) q ≠ 0) (h - x.1) x.1 = some k) : estep w h q x = (x.1 + 1, up2 x.2.1 5 x.1 q, clrc w h x.1 q (mabz w x.1 q (exch w x.1 k x.2.2))) := by
  unfold estep
  rw [if_pos hx, hf]
theorem fo_id {σ : Type} {f : Nat → σ → σ} {x : σ} (h : ∀ q, f q x = x) : ∀ n i, fo f n i x = x
  | 0, _ => rfl
  | n + 1, i => by rw [fo_s, h, fo_id h n]
theorem neg1_lt : (-1 : Int32) < 0 := by decide

abbrev rmX0_eliminate : Room := { frames := 4, cells := 0, slots := 0, locals := 103 }
set_option maxHeartbeats 4000000 in
set_option maxRecDepth 100000 in
/-- eliminate -/
theorem ctX0_eliminate (l : Launch) (D : va_G) (cs : Nat → ClassId) (ad : Nat → Nat) (I : Nat → Nat) (AN : Nat → Nat → Nat) (AI : Nat → Nat → Int32) (AL : Nat → Nat → Int64) (sz : Nat)  (h2 : I 2 ≤ 4) (h3 : I 3 ≤ 7) (h43 : I 4 ≤ I 3) : Met l yX0_eliminate (Cond.code yX0_eliminate cX0_eliminate 3 none :: GW) rmX0_eliminate (va_Pc [.ref (ad 2)] (gP D cs (wT cs ad I AN AI AL) sz)) (va_Qv (fun u : TS => u = (up1 I 4 (fo (estep (I 2) (I 3)) (I 2) 0 (I 4, AN, AL)).1, (fo (estep (I 2) (I 3)) (I 2) 0 (I 4, AN, AL)).2.1, AI, (fo (estep (I 2) (I 3)) (I 2) 0 (I 4, AN, AL)).2.2)) (gB D cs (va_A (wT cs ad I AN AI AL) sz) (wTs cs ad)) (va_A (wT cs ad I AN AI AL) sz)) 0 0 (va_A (wT cs ad I AN AI AL) sz) := by
  refine Met.ofW (cc := cX0_eliminate) (maxL := 3) (ret := none) (by decide) rfl ?_
  intro p e s m args below meth c s₁ B hml hv
  obtain ⟨rfl, hsz, hP, hK, hD0, hN⟩ := hv
  have hx := B.exec
  have hb := B.bytes
  have hr := B.returns
  have hts : ∀ w ∈ GW, w.before _ s = true := fun w h => atoms_spec (ws := Cond.code yX0_eliminate cX0_eliminate 3 none :: GW) B.pre w (List.mem_cons_of_mem _ h)
  have hown : s.vm.findClass RX0 = some m.cls := findClass_of_methodNamed B.named
  have hlocks := B.notSynchronized
  subst hsz
  have hD := hD0.self (sz := s.heap.size)
  generalize hAe : va_A (wT cs ad I AN AI AL) s.heap.size = A at hD ⊢
  have hA : ∀ q : Nat, s.heap.size ≤ q → A q := fun q h => by rw [← hAe]; exact Or.inr h
  have hS : va_S A s.heap s.heap [] := va_S.rf
  have hl := lv_entry [.ref (ad 2)] (n := 3) (Nat.le_of_ble_eq_true rfl)
  rw [lg_entry_eq]
  generalize (lg_sl [.ref (ad 2)] ++ List.replicate (3 - (lg_sl [.ref (ad 2)]).length) Slot.unset).toArray = ls at hl ⊢
  have hl : lv_has ls 3 [(0, .ref (ad 2))] := hl
  generalize hargs : ([.ref (ad 2)] : List Value).toArray = args at *
  show W p l e rmX0_eliminate s m args below meth c s.heap [] 0 0 _ (F0 m 0 ls [])
  refine lv_iconst (v := nI 0) hx hb dX0_eliminate_0 (by decide) ?_
  refine lv_istore_n (lv' := [(1, .int (nI 0)), (0, .ref (ad 2))]) hx hb dX0_eliminate_1 rfl hl (by decide) rfl (fun ls hl => ?_)
  have lp2 : ∀ (Q : State → Prop) (n q d : Nat) (AN : Nat → Nat → Nat) (AL : Nat → Nat → Int64) (H : Heap) (locs : List Loc) (ls : Array Slot), q + n = I 2 → d ≤ I 3 → va_P D vc (wT cs ad (up1 I 4 d) AN AI AL) H → va_D A (wT cs ad (up1 I 4 d) AN AI AL) → va_S A s.heap H locs → lv_has ls 3 [(1, .int (nI q)), (0, .ref (ad 2))] → (∀ (H : Heap) (locs : List Loc) (ls : Array Slot) (d' : Nat) (AN' : Nat → Nat → Nat) (AL' : Nat → Nat → Int64), (d', AN', AL') = fo (estep (I 2) (I 3)) n q (d, AN, AL) → va_P D vc (wT cs ad (up1 I 4 d') AN' AI AL') H → va_D A (wT cs ad (up1 I 4 d') AN' AI AL') → va_S A s.heap H locs → W p l e rmX0_eliminate s m args below meth c H locs 0 0 Q (F0 m 84 ls [])) → W p l e rmX0_eliminate s m args below meth c H locs 0 0 Q (F0 m 2 ls []) := by
    intro Q n
    induction n with
    | zero =>
      intro q d AN AL H locs ls hn hd hP hD hS hl kx
      refine lv_iload_n hx hb dX0_eliminate_2 rfl (lv_at hl 0 rfl) ?_
      refine lv_aload_n hx hb dX0_eliminate_3 rfl (lv_at hl 1 rfl) ?_
      refine b_get (own := RX0) (C := RX0) (T := TX0) (N := 5) (ci := 0) (v := .int (nI (I 2))) hx hb hts usX0 hown hK hP 2 (by decide) rfl rfl 2 (by decide) (hts _ gw_91) rfl dX0_eliminate_4 ?_
      refine b_ge_t (tgt := 84) hx hb dX0_eliminate_7 (by decide) (by omega) (by omega) ?_
      exact kx H locs ls d AN AL rfl hP hD hS
    | succ n ih =>
      intro q d AN AL H locs ls hn hd hP hD hS hl kx
      refine lv_iload_n hx hb dX0_eliminate_2 rfl (lv_at hl 0 rfl) ?_
      refine lv_aload_n hx hb dX0_eliminate_3 rfl (lv_at hl 1 rfl) ?_
      refine b_get (own := RX0) (C := RX0) (T := TX0) (N := 5) (ci := 0) (v := .int (nI (I 2))) hx hb hts usX0 hown hK hP 2 (by decide) rfl rfl 2 (by decide) (hts _ gw_91) rfl dX0_eliminate_4 ?_
      refine b_ge_f (tgt := 84) hx hb dX0_eliminate_7 (by decide) (by omega) (by omega) ?_
      refine lv_aload_n hx hb dX0_eliminate_10 rfl (lv_at hl 1 rfl) ?_
      refine b_get (own := RX0) (C := RX0) (T := TX0) (N := 5) (ci := 0) (v := .int (nI d)) hx hb hts usX0 hown hK hP 2 (by decide) rfl rfl 4 (by decide) (hts _ gw_93) rfl dX0_eliminate_11 ?_
      refine lv_aload_n hx hb dX0_eliminate_14 rfl (lv_at hl 1 rfl) ?_
      refine b_get (own := RX0) (C := RX0) (T := TX0) (N := 5) (ci := 0) (v := .int (nI (I 3))) hx hb hts usX0 hown hK hP 2 (by decide) rfl rfl 3 (by decide) (hts _ gw_92) rfl dX0_eliminate_15 ?_
      by_cases hdh : d < I 3
      · refine b_ge_f (tgt := 84) hx hb dX0_eliminate_18 (by decide) (hdh) (by omega) ?_
        refine lv_aload_n hx hb dX0_eliminate_21 rfl (lv_at hl 1 rfl) ?_
        refine lv_iload_n hx hb dX0_eliminate_22 rfl (lv_at hl 0 rfl) ?_
        refine g_calli (va_runV (As := [.int (nI q)]) (rest := []) ⟨hx, hb, hml, hown, hts⟩ (ctX0_firstRowWith l D cs ad (up1 I 4 d) AN AI AL _ q h3 hd (by omega)) (cwV 1 hts (gi_V gw_164 gw_166 gw_3 gw_55 gw_167) rfl rfl rfl (by decide +kernel) ⟨Nat.le_of_ble_eq_true rfl, Nat.le_of_ble_eq_true rfl⟩) ⟨g_blind, va_recv hK hP (ci := 0) (q0 := 2) rfl (wm_at (by decide) rfl), g_pre hP hK hD hN⟩ rfl rfl hl.1 rfl (lv_room (Nat.le_of_ble_eq_true rfl)) dX0_eliminate_23 ⟨Nat.zero_le _, Nat.zero_le _⟩) hD hS hA (fun r u H locs hw hP hD hS => ?_)
        obtain ⟨rfl, hw2⟩ := hw
        have hP : va_P D vc (wT cs ad (up1 I 4 d) AN AI AL) H := hP
        have hD : va_D A (wT cs ad (up1 I 4 d) AN AI AL) := hD
        have hw2 : r = enc (fnd (fun k => AL (k + 11) q ≠ 0) (I 3 - d) d) := hw2
        cases hf : fnd (fun k => AL (k + 11) q ≠ 0) (I 3 - d) d with
        | none =>
          rw [hf] at hw2
          subst hw2
          refine lv_istore_n (lv' := [(2, .int (enc none)), (1, .int (nI q)), (0, .ref (ad 2))]) hx hb dX0_eliminate_26 rfl hl (by decide) rfl (fun ls hl => ?_)
          refine lv_iload_n hx hb dX0_eliminate_27 rfl (lv_at hl 0 rfl) ?_
          refine lv_if_lt (tgt := 78) hx hb dX0_eliminate_28 (by decide) (fun h => ?_) (fun h => ?_)
          · refine b_iinc (lv' := [(1, .int (nI (q + 1))), (2, .int (enc none)), (0, .ref (ad 2))]) hx hb dX0_eliminate_78 hl (k := 1) rfl (by decide) rfl (fun ls hl => ?_)
            refine lv_goto (tgt := 2) hx hb dX0_eliminate_81 (by decide) ?_
            rw [fo_s, estep_none (x := (d, AN, AL)) hdh hf] at kx
            exact ih (q + 1) d AN AL H locs ls (by omega) hd hP hD hS (lv_sub hl [0, 2] rfl) kx
          · exact absurd neg1_lt h
        | some k =>
          rw [hf] at hw2
          have hw2 : r = nI k := hw2
          subst hw2
          obtain ⟨g1, g2, g3, g4⟩ := fnd_some hf
          refine lv_istore_n (lv' := [(2, .int (nI k)), (1, .int (nI q)), (0, .ref (ad 2))]) hx hb dX0_eliminate_26 rfl hl (by decide) rfl (fun ls hl => ?_)
          refine lv_iload_n hx hb dX0_eliminate_27 rfl (lv_at hl 0 rfl) ?_
          refine lv_if_lt (tgt := 78) hx hb dX0_eliminate_28 (by decide) (fun h => ?_) (fun h => ?_)
          · exact absurd h (nI_pos (by omega))
          · refine lv_aload_n hx hb dX0_eliminate_31 rfl (lv_at hl 2 rfl) ?_
            refine lv_aload_n hx hb dX0_eliminate_32 rfl (lv_at hl 2 rfl) ?_
            refine b_get (own := RX0) (C := RX0) (T := TX0) (N := 5) (ci := 0) (v := .int (nI d)) hx hb hts usX0 hown hK hP 2 (by decide) rfl rfl 4 (by decide) (hts _ gw_93) rfl dX0_eliminate_33 ?_
            refine lv_iload_n hx hb dX0_eliminate_36 rfl (lv_at hl 0 rfl) ?_
            refine g_callv (va_runV (As := [.int (nI d), .int (nI k)]) (rest := []) ⟨hx, hb, hml, hown, hts⟩ (ctX0_exchange l D cs ad (up1 I 4 d) AN AI AL _ d k h2 (by omega) (by omega)) (cwV 2 hts (gi_V gw_168 gw_170 gw_4 gw_55 gw_171) rfl rfl rfl (by decide +kernel) ⟨Nat.le_of_ble_eq_true rfl, Nat.le_of_ble_eq_true rfl⟩) ⟨g_blind, va_recv hK hP (ci := 0) (q0 := 2) rfl (wm_at (by decide) rfl), g_pre hP hK hD hN⟩ rfl rfl hl.1 rfl (lv_room (Nat.le_of_ble_eq_true rfl)) dX0_eliminate_37 ⟨Nat.zero_le _, Nat.zero_le _⟩) hD hS hA (fun u H locs hw hP hD hS => ?_)
            obtain rfl := hw
            have hP : va_P D vc (wT cs ad (up1 I 4 d) AN AI (exch (I 2) d k AL)) H := hP
            have hD : va_D A (wT cs ad (up1 I 4 d) AN AI (exch (I 2) d k AL)) := hD
            refine lv_aload_n hx hb dX0_eliminate_40 rfl (lv_at hl 2 rfl) ?_
            refine lv_aload_n hx hb dX0_eliminate_41 rfl (lv_at hl 2 rfl) ?_
            refine b_get (own := RX0) (C := RX0) (T := TX0) (N := 5) (ci := 0) (v := .int (nI d)) hx hb hts usX0 hown hK hP 2 (by decide) rfl rfl 4 (by decide) (hts _ gw_93) rfl dX0_eliminate_42 ?_
            refine lv_iload_n hx hb dX0_eliminate_45 rfl (lv_at hl 1 rfl) ?_
            refine g_callv (va_runV (As := [.int (nI d), .int (nI q)]) (rest := []) ⟨hx, hb, hml, hown, hts⟩ (ctX0_makeAboveZero l D cs ad (up1 I 4 d) AN AI (exch (I 2) d k AL) _ d q h2 (by omega) (by omega)) (cwV 2 hts (gi_V gw_172 gw_174 gw_5 gw_55 gw_175) rfl rfl rfl (by decide +kernel) ⟨Nat.le_of_ble_eq_true rfl, Nat.le_of_ble_eq_true rfl⟩) ⟨g_blind, va_recv hK hP (ci := 0) (q0 := 2) rfl (wm_at (by decide) rfl), g_pre hP hK hD hN⟩ rfl rfl hl.1 rfl (lv_room (Nat.le_of_ble_eq_true rfl)) dX0_eliminate_46 ⟨Nat.zero_le _, Nat.zero_le _⟩) hD hS hA (fun u H locs hw hP hD hS => ?_)
            obtain rfl := hw
            have hP : va_P D vc (wT cs ad (up1 I 4 d) AN AI (mabz (I 2) d q (exch (I 2) d k AL))) H := hP
            have hD : va_D A (wT cs ad (up1 I 4 d) AN AI (mabz (I 2) d q (exch (I 2) d k AL))) := hD
            refine lv_aload_n hx hb dX0_eliminate_49 rfl (lv_at hl 2 rfl) ?_
            refine lv_aload_n hx hb dX0_eliminate_50 rfl (lv_at hl 2 rfl) ?_
            refine b_get (own := RX0) (C := RX0) (T := TX0) (N := 5) (ci := 0) (v := .int (nI d)) hx hb hts usX0 hown hK hP 2 (by decide) rfl rfl 4 (by decide) (hts _ gw_93) rfl dX0_eliminate_51 ?_
            refine lv_iload_n hx hb dX0_eliminate_54 rfl (lv_at hl 1 rfl) ?_
            refine g_callv (va_runV (As := [.int (nI d), .int (nI q)]) (rest := []) ⟨hx, hb, hml, hown, hts⟩ (ctX0_clearColumn l D cs ad (up1 I 4 d) AN AI (mabz (I 2) d q (exch (I 2) d k AL)) _ d q h2 h3 (by omega) (by omega)) (cwV 2 hts (gi_V gw_176 gw_178 gw_6 gw_55 gw_179) rfl rfl rfl (by decide +kernel) ⟨Nat.le_of_ble_eq_true rfl, Nat.le_of_ble_eq_true rfl⟩) ⟨g_blind, va_recv hK hP (ci := 0) (q0 := 2) rfl (wm_at (by decide) rfl), g_pre hP hK hD hN⟩ rfl rfl hl.1 rfl (lv_room (Nat.le_of_ble_eq_true rfl)) dX0_eliminate_55 ⟨Nat.zero_le _, Nat.zero_le _⟩) hD hS hA (fun u H locs hw hP hD hS => ?_)
            obtain rfl := hw
            have hP : va_P D vc (wT cs ad (up1 I 4 d) AN AI (clrc (I 2) (I 3) d q (mabz (I 2) d q (exch (I 2) d k AL)))) H := hP
            have hD : va_D A (wT cs ad (up1 I 4 d) AN AI (clrc (I 2) (I 3) d q (mabz (I 2) d q (exch (I 2) d k AL)))) := hD
            refine lv_aload_n hx hb dX0_eliminate_58 rfl (lv_at hl 2 rfl) ?_
            refine b_get (own := RX0) (C := RX0) (T := TX0) (N := 5) (ci := 0) (v := .ref (ad 5)) hx hb hts usX0 hown hK hP 2 (by decide) rfl rfl 1 (by decide) (hts _ gw_90) rfl dX0_eliminate_59 ?_
            refine lv_aload_n hx hb dX0_eliminate_62 rfl (lv_at hl 2 rfl) ?_
            refine b_get (own := RX0) (C := RX0) (T := TX0) (N := 5) (ci := 0) (v := .int (nI d)) hx hb hts usX0 hown hK hP 2 (by decide) rfl rfl 4 (by decide) (hts _ gw_93) rfl dX0_eliminate_63 ?_
            refine lv_iload_n hx hb dX0_eliminate_66 rfl (lv_at hl 1 rfl) ?_
            refine tD_st hx hb hK hP hD hS (by omega) dX0_eliminate_67 (fun H locs hP hD hS => ?_)
            refine lv_aload_n hx hb dX0_eliminate_68 rfl (lv_at hl 2 rfl) ?_
            refine lv_dup hx hb dX0_eliminate_69 rfl ?_
            refine b_get (own := RX0) (C := RX0) (T := TX0) (N := 5) (ci := 0) (v := .int (nI d)) hx hb hts usX0 hown hK hP 2 (by decide) rfl rfl 4 (by decide) (hts _ gw_93) rfl dX0_eliminate_70 ?_
            refine lv_iconst (v := nI 1) hx hb dX0_eliminate_73 (by decide) ?_
            refine b_addn hx hb dX0_eliminate_74 ?_
            refine b_put (own := RX0) (C := RX0) (T := TX0) (N := 5) (ci := 0) (v := .int (nI (d + 1))) hx hb hts usX0 tyX0 tyX0_ok nmX0 hown hK hP hD hS 2 (by decide) rfl rfl 4 (by decide) (hts _ gw_93) rfl rfl rfl (Nat.le_of_ble_eq_true rfl) dX0_eliminate_75 sT_d (fun H locs hP hD hS => ?_)
            rw [up1_1] at hP hD
            refine b_iinc (lv' := [(1, .int (nI (q + 1))), (2, .int (nI k)), (0, .ref (ad 2))]) hx hb dX0_eliminate_78 hl (k := 1) rfl (by decide) rfl (fun ls hl => ?_)
            refine lv_goto (tgt := 2) hx hb dX0_eliminate_81 (by decide) ?_
            rw [fo_s, estep_some (x := (d, AN, AL)) hdh hf] at kx
            exact ih (q + 1) (d + 1) _ _ H locs ls (by omega) (by omega) hP hD hS (lv_sub hl [0, 2] rfl) kx
      · refine b_ge_t (tgt := 84) hx hb dX0_eliminate_18 (by decide) (by omega) (by omega) ?_
        refine kx H locs ls d AN AL ?_ hP hD hS
        exact (fo_id (f := estep (I 2) (I 3)) (fun q => estep_out (x := (d, AN, AL)) hdh) (n + 1) q).symm
  rw [← up1_id (f := I) (k := 4)] at hP hD
  refine lp2 _ (I 2) 0 (I 4) AN AL _ _ ls (by omega) h43 hP hD hS (lv_sub hl [0, 1] rfl) (fun H locs ls d' AN' AL' he hP hD hS => ?_)
  exact g_vret hx hb hr hlocks (up1 I 4 d', AN', AI, AL') (by rw [← he]) hK hP hD hS dX0_eliminate_84

abbrev rmX0_freeUnknown : Room := { frames := 1, cells := 0, slots := 0, locals := 22 }
set_option maxHeartbeats 4000000 in
set_option maxRecDepth 100000 in
/-- freeUnknown -/
theorem ctX0_freeUnknown (l : Launch) (D : va_G) (cs : Nat → ClassId) (ad : Nat → Nat) (I : Nat → Nat) (AN : Nat → Nat → Nat) (AI : Nat → Nat → Int32) (AL : Nat → Nat → Int64) (sz : Nat) (k : Int32) (h2 : I 2 ≤ 4) (h4 : I 4 ≤ 7) (hdc : ∀ k, k < 7 → AN 5 k < 2 ^ 31) : Met l yX0_freeUnknown (Cond.code yX0_freeUnknown cX0_freeUnknown 4 (some FieldType.int) :: GW) rmX0_freeUnknown (va_Pc [.ref (ad 2), .int k] (gP D cs (wT cs ad I AN AI AL) sz)) (va_Qi (fun (r : Int32) (u : TS) => u = (I, AN, AI, AL) ∧ r = enc (fre AN (I 4) k (I 2) 0 0)) (gB D cs (va_A (wT cs ad I AN AI AL) sz) (wTs cs ad)) (va_A (wT cs ad I AN AI AL) sz)) 0 0 (va_A (wT cs ad I AN AI AL) sz) := by
  refine Met.ofW (cc := cX0_freeUnknown) (maxL := 4) (ret := (some FieldType.int)) (by decide) rfl ?_
  intro p e s m args below meth c s₁ B hml hv
  obtain ⟨rfl, hsz, hP, hK, hD0, hN⟩ := hv
  have hx := B.exec
  have hb := B.bytes
  have hr := B.returns
  have hts : ∀ w ∈ GW, w.before _ s = true := fun w h => atoms_spec (ws := Cond.code yX0_freeUnknown cX0_freeUnknown 4 (some FieldType.int) :: GW) B.pre w (List.mem_cons_of_mem _ h)
  have hown : s.vm.findClass RX0 = some m.cls := findClass_of_methodNamed B.named
  have hlocks := B.notSynchronized
  subst hsz
  have hD := hD0.self (sz := s.heap.size)
  generalize hAe : va_A (wT cs ad I AN AI AL) s.heap.size = A at hD ⊢
  have hA : ∀ q : Nat, s.heap.size ≤ q → A q := fun q h => by rw [← hAe]; exact Or.inr h
  have hS : va_S A s.heap s.heap [] := va_S.rf
  have hl := lv_entry [.ref (ad 2), .int k] (n := 4) (Nat.le_of_ble_eq_true rfl)
  rw [lg_entry_eq]
  generalize (lg_sl [.ref (ad 2), .int k] ++ List.replicate (4 - (lg_sl [.ref (ad 2), .int k]).length) Slot.unset).toArray = ls at hl ⊢
  have hl : lv_has ls 4 [(0, .ref (ad 2)), (1, .int k)] := hl
  generalize hargs : ([.ref (ad 2), .int k] : List Value).toArray = args at *
  show W p l e rmX0_freeUnknown s m args below meth c s.heap [] 0 0 _ (F0 m 0 ls [])
  refine lv_iconst (v := nI 0) hx hb dX0_freeUnknown_0 (by decide) ?_
  refine lv_istore_n (lv' := [(2, .int (nI 0)), (0, .ref (ad 2)), (1, .int k)]) hx hb dX0_freeUnknown_1 rfl hl (by decide) rfl (fun ls hl => ?_)
  refine lv_iconst (v := nI 0) hx hb dX0_freeUnknown_2 (by decide) ?_
  refine lv_istore_n (lv' := [(3, .int (nI 0)), (2, .int (nI 0)), (0, .ref (ad 2)), (1, .int k)]) hx hb dX0_freeUnknown_3 rfl hl (by decide) rfl (fun ls hl => ?_)
  have lp4 : ∀ (n u : Nat) (z : Nat) (H : Heap) (locs : List Loc) (ls : Array Slot), u + n = I 2 → va_P D vc (wT cs ad I AN AI AL) H → va_D A (wT cs ad I AN AI AL) → va_S A s.heap H locs → lv_has ls 4 [(3, .int (nI u)), (2, .int (nI z)), (0, .ref (ad 2)), (1, .int k)] → W p l e rmX0_freeUnknown s m args below meth c H locs 0 0 (MQ below (va_Qi (fun (r : Int32) (v9 : TS) => v9 = (I, AN, AI, AL) ∧ r = enc (fre AN (I 4) k n u z)) (gB D cs A (wTs cs ad)) A) args s 0 0 A) (F0 m 4 ls []) := by
    intro n
    induction n with
    | zero =>
      intro u z H locs ls hn hP hD hS hl
      have hi : u = I 2 := by omega
      refine lv_iload_n hx hb dX0_freeUnknown_4 rfl (lv_at hl 0 rfl) ?_
      refine lv_aload_n hx hb dX0_freeUnknown_5 rfl (lv_at hl 2 rfl) ?_
      refine b_get (own := RX0) (C := RX0) (T := TX0) (N := 5) (ci := 0) (v := .int (nI (I 2))) hx hb hts usX0 hown hK hP 2 (by decide) rfl rfl 2 (by decide) (hts _ gw_91) rfl dX0_freeUnknown_6 ?_
      refine b_ge_t (tgt := 36) hx hb dX0_freeUnknown_9 (by decide) (by omega) (by omega) ?_
      refine lv_iconst (v := -1) hx hb dX0_freeUnknown_36 (by decide) ?_
      exact g_iret hx hb hr hlocks (I, AN, AI, AL) (⟨rfl, rfl⟩) hK hP hD hS dX0_freeUnknown_37
    | succ n ih =>
      intro u z H locs ls hn hP hD hS hl
      have hi : u < I 2 := by omega
      refine lv_iload_n hx hb dX0_freeUnknown_4 rfl (lv_at hl 0 rfl) ?_
      refine lv_aload_n hx hb dX0_freeUnknown_5 rfl (lv_at hl 2 rfl) ?_
      refine b_get (own := RX0) (C := RX0) (T := TX0) (N := 5) (ci := 0) (v := .int (nI (I 2))) hx hb hts usX0 hown hK hP 2 (by decide) rfl rfl 2 (by decide) (hts _ gw_91) rfl dX0_freeUnknown_6 ?_
      refine b_ge_f (tgt := 36) hx hb dX0_freeUnknown_9 (by decide) (by omega) (by omega) ?_
      refine lv_aload_n hx hb dX0_freeUnknown_12 rfl (lv_at hl 2 rfl) ?_
      refine lv_iload_n hx hb dX0_freeUnknown_13 rfl (lv_at hl 0 rfl) ?_
      refine g_calli (va_runV (As := [.int (nI u)]) (rest := []) ⟨hx, hb, hml, hown, hts⟩ (ctX0_rowDeciding l D cs ad I AN AI AL _ u h4 hdc (by omega)) (cwV 1 hts (gi_V gw_206 gw_208 gw_10 gw_55 gw_209) rfl rfl rfl (by decide +kernel) ⟨Nat.le_of_ble_eq_true rfl, Nat.le_of_ble_eq_true rfl⟩) ⟨g_blind, va_recv hK hP (ci := 0) (q0 := 2) rfl (wm_at (by decide) rfl), g_pre hP hK hD hN⟩ rfl rfl hl.1 rfl (lv_room (Nat.le_of_ble_eq_true rfl)) dX0_freeUnknown_14 ⟨Nat.zero_le _, Nat.zero_le _⟩) hD hS hA (fun r u H locs hw hP hD hS => ?_)
      obtain ⟨rfl, rfl⟩ := hw
      have hP : va_P D vc (wT cs ad I AN AI AL) H := hP
      have hD : va_D A (wT cs ad I AN AI AL) := hD
      refine lv_if_ge (tgt := 30) hx hb dX0_freeUnknown_17 (by decide) (fun h => ?_) (fun h => ?_)
      · refine b_iinc (lv' := [(3, .int (nI (u + 1))), (2, .int (nI z)), (0, .ref (ad 2)), (1, .int k)]) hx hb dX0_freeUnknown_30 hl (k := 0) rfl (by decide) rfl (fun ls hl => ?_)
        refine lv_goto (tgt := 4) hx hb dX0_freeUnknown_33 (by decide) ?_
        have e1 : fre AN (I 4) k (n + 1) u z = fre AN (I 4) k n (u + 1) z := if_neg (fun q => by rw [q] at h; exact absurd h (by decide))
        rw [e1]
        exact ih (u + 1) z H locs ls (by omega) hP hD hS (lv_sub hl [0, 1, 2, 3] rfl)
      · have hno : rdec AN (I 4) u = none := by
          cases hq : rdec AN (I 4) u with
          | none => rfl
          | some j => exact absurd (by rw [hq]; exact nI_pos' (by have := (fnd_some hq).2.1; omega)) h
        refine lv_iload_n hx hb dX0_freeUnknown_20 rfl (lv_at hl 1 rfl) ?_
        refine lv_iload_n hx hb dX0_freeUnknown_21 rfl (lv_at hl 3 rfl) ?_
        refine lv_icmp_ne (tgt := 27) hx hb dX0_freeUnknown_22 (by decide) (fun h2 => ?_) (fun h2 => ?_)
        · refine b_iinc (lv' := [(2, .int (nI (z + 1))), (3, .int (nI u)), (0, .ref (ad 2)), (1, .int k)]) hx hb dX0_freeUnknown_27 hl (k := 1) rfl (by decide) rfl (fun ls hl => ?_)
          refine b_iinc (lv' := [(3, .int (nI (u + 1))), (2, .int (nI (z + 1))), (0, .ref (ad 2)), (1, .int k)]) hx hb dX0_freeUnknown_30 hl (k := 1) rfl (by decide) rfl (fun ls hl => ?_)
          refine lv_goto (tgt := 4) hx hb dX0_freeUnknown_33 (by decide) ?_
          have e1 : fre AN (I 4) k (n + 1) u z = fre AN (I 4) k n (u + 1) (z + 1) := (if_pos hno).trans (if_neg h2)
          rw [e1]
          exact ih (u + 1) (z + 1) H locs ls (by omega) hP hD hS (lv_sub hl [0, 1, 2, 3] rfl)
        · refine lv_iload_n hx hb dX0_freeUnknown_25 rfl (lv_at hl 0 rfl) ?_
          exact g_iret hx hb hr hlocks (I, AN, AI, AL) (⟨rfl, by rw [show fre AN (I 4) k (n + 1) u z = some u from (if_pos hno).trans (if_pos h2)]; rfl⟩) hK hP hD hS dX0_freeUnknown_26
  exact lp4 ((I 2) - 0) 0 0 _ _ ls (by omega) hP hD hS (lv_sub hl [0, 1, 2, 3] rfl)

abbrev rmX0_plainPart : Room := { frames := 3, cells := 0, slots := 0, locals := 79 }
set_option maxHeartbeats 4000000 in
set_option maxRecDepth 100000 in
/-- plainPart -/
theorem ctX0_plainPart (l : Launch) (D : va_G) (cs : Nat → ClassId) (ad : Nat → Nat) (I : Nat → Nat) (AN : Nat → Nat → Nat) (AI : Nat → Nat → Int32) (AL : Nat → Nat → Int64) (sz : Nat) (u : Nat) (q : Int32) (h2 : I 2 ≤ 4) (h4 : I 4 ≤ 7) (hdc : ∀ k, k < 7 → AN 5 k < 2 ^ 31) (hu : u < 5) : Met l yX0_plainPart (Cond.code yX0_plainPart cX0_plainPart 4 (some FieldType.long) :: GW) rmX0_plainPart (va_Pc [.ref (ad 2), .int (nI u), .int q] (gP D cs (wT cs ad I AN AI AL) sz)) (va_Ql (fun (r : Int64) (v : TS) => v = (I, AN, AI, AL) ∧ r = ppart AN AL (I 4) (I 2) u q) (gB D cs (va_A (wT cs ad I AN AI AL) sz) (wTs cs ad)) (va_A (wT cs ad I AN AI AL) sz)) 0 0 (va_A (wT cs ad I AN AI AL) sz) := by
  refine Met.ofW (cc := cX0_plainPart) (maxL := 4) (ret := (some FieldType.long)) (by decide) rfl ?_
  intro p e s m args below meth c s₁ B hml hv
  obtain ⟨rfl, hsz, hP, hK, hD0, hN⟩ := hv
  have hx := B.exec
  have hb := B.bytes
  have hr := B.returns
  have hts : ∀ w ∈ GW, w.before _ s = true := fun w h => atoms_spec (ws := Cond.code yX0_plainPart cX0_plainPart 4 (some FieldType.long) :: GW) B.pre w (List.mem_cons_of_mem _ h)
  have hown : s.vm.findClass RX0 = some m.cls := findClass_of_methodNamed B.named
  have hlocks := B.notSynchronized
  subst hsz
  have hD := hD0.self (sz := s.heap.size)
  generalize hAe : va_A (wT cs ad I AN AI AL) s.heap.size = A at hD ⊢
  have hA : ∀ q : Nat, s.heap.size ≤ q → A q := fun q h => by rw [← hAe]; exact Or.inr h
  have hS : va_S A s.heap s.heap [] := va_S.rf
  have hl := lv_entry [.ref (ad 2), .int (nI u), .int q] (n := 4) (Nat.le_of_ble_eq_true rfl)
  rw [lg_entry_eq]
  generalize (lg_sl [.ref (ad 2), .int (nI u), .int q] ++ List.replicate (4 - (lg_sl [.ref (ad 2), .int (nI u), .int q]).length) Slot.unset).toArray = ls at hl ⊢
  have hl : lv_has ls 4 [(0, .ref (ad 2)), (1, .int (nI u)), (2, .int q)] := hl
  generalize hargs : ([.ref (ad 2), .int (nI u), .int q] : List Value).toArray = args at *
  show W p l e rmX0_plainPart s m args below meth c s.heap [] 0 0 _ (F0 m 0 ls [])
  refine lv_aload_n hx hb dX0_plainPart_0 rfl (lv_at hl 0 rfl) ?_
  refine lv_iload_n hx hb dX0_plainPart_1 rfl (lv_at hl 1 rfl) ?_
  refine g_calli (va_runV (As := [.int (nI u)]) (rest := []) ⟨hx, hb, hml, hown, hts⟩ (ctX0_rowDeciding l D cs ad I AN AI AL _ u h4 hdc (by omega)) (cwV 1 hts (gi_V gw_206 gw_208 gw_10 gw_55 gw_209) rfl rfl rfl (by decide +kernel) ⟨Nat.le_of_ble_eq_true rfl, Nat.le_of_ble_eq_true rfl⟩) ⟨g_blind, va_recv hK hP (ci := 0) (q0 := 2) rfl (wm_at (by decide) rfl), g_pre hP hK hD hN⟩ rfl rfl hl.1 rfl (lv_room (Nat.le_of_ble_eq_true rfl)) dX0_plainPart_2 ⟨Nat.zero_le _, Nat.zero_le _⟩) hD hS hA (fun r u H locs hw hP hD hS => ?_)
  obtain ⟨rfl, hw2⟩ := hw
  have hP : va_P D vc (wT cs ad I AN AI AL) H := hP
  have hD : va_D A (wT cs ad I AN AI AL) := hD
  cases hf : rdec AN (I 4) u with
  | none =>
    rw [hf] at hw2
    subst hw2
    refine lv_istore_n (lv' := [(3, .int (enc none)), (0, .ref (ad 2)), (1, .int (nI u)), (2, .int q)]) hx hb dX0_plainPart_5 rfl hl (by decide) rfl (fun ls hl => ?_)
    refine lv_iload_n hx hb dX0_plainPart_6 rfl (lv_at hl 0 rfl) ?_
    refine lv_if_ge (tgt := 17) hx hb dX0_plainPart_7 (by decide) (fun h => ?_) (fun h => ?_)
    · exact absurd h (by decide)
    · refine lv_lconst (v := 0) hx hb dX0_plainPart_10 (by decide) ?_
      refine lv_lconst (v := 1) hx hb dX0_plainPart_11 (by decide) ?_
      refine lv_iload_n hx hb dX0_plainPart_12 rfl (lv_at hl 3 rfl) ?_
      refine g_calll (va_runSN (As := [.long 0, .long 1, .int q]) (rest := []) ⟨hx, hb, hml, hown, hts⟩ (ctX2_lowestPart l D cs ad I AN AI AL _ 0 1 q) ⟨va_cnB 3 hts (gi_C gw_425) rfl rfl rfl (hN _ (by decide +kernel) : va_Nw (Cond.methodLinkNest "TriangularSystems$Elimination" 64 ⟨"TriangularSystems", "lowestPart", "(JJI)J"⟩ "TriangularSystems") s) (hts _ gw_53) (by decide +kernel) ⟨Nat.le_of_ble_eq_true rfl, Nat.le_of_ble_eq_true rfl⟩, hts _ gw_424, trivial⟩ ⟨g_blind, g_pre hP hK hD hN⟩ rfl rfl hl.1 rfl (lv_room (Nat.le_of_ble_eq_true rfl)) dX0_plainPart_13 ⟨Nat.zero_le _, Nat.zero_le _⟩) hD hS hA (fun r u H locs hw hP hD hS => ?_)
      obtain ⟨rfl, rfl⟩ := hw
      have hP : va_P D vc (wT cs ad I AN AI AL) H := hP
      have hD : va_D A (wT cs ad I AN AI AL) := hD
      exact g_lret hx hb hr hlocks (I, AN, AI, AL) (⟨rfl, by unfold ppart; rw [hf]⟩) hK hP hD hS dX0_plainPart_16
  | some k =>
    rw [hf] at hw2
    have hw2 : r = nI k := hw2
    subst hw2
    obtain ⟨g1, g2, g3, g4⟩ := fnd_some hf
    refine lv_istore_n (lv' := [(3, .int (nI k)), (0, .ref (ad 2)), (1, .int (nI u)), (2, .int q)]) hx hb dX0_plainPart_5 rfl hl (by decide) rfl (fun ls hl => ?_)
    refine lv_iload_n hx hb dX0_plainPart_6 rfl (lv_at hl 0 rfl) ?_
    refine lv_if_ge (tgt := 17) hx hb dX0_plainPart_7 (by decide) (fun h => ?_) (fun h => ?_)
    · refine lv_aload_n hx hb dX0_plainPart_17 rfl (lv_at hl 1 rfl) ?_
      refine b_get (own := RX0) (C := RX0) (T := TX0) (N := 5) (ci := 0) (v := .ref (ad 4)) hx hb hts usX0 hown hK hP 2 (by decide) rfl rfl 0 (by decide) (hts _ gw_88) rfl dX0_plainPart_18 ?_
      refine lv_iload_n hx hb dX0_plainPart_21 rfl (lv_at hl 0 rfl) ?_
      refine tE_r hx hb hK hP (by omega) dX0_plainPart_22 ?_
      refine lv_aload_n hx hb dX0_plainPart_23 rfl (lv_at hl 1 rfl) ?_
      refine b_get (own := RX0) (C := RX0) (T := TX0) (N := 5) (ci := 0) (v := .int (nI (I 2))) hx hb hts usX0 hown hK hP 2 (by decide) rfl rfl 2 (by decide) (hts _ gw_91) rfl dX0_plainPart_24 ?_
      refine tE_ld (i := k) hx hb hK hP (by omega) (by omega) dX0_plainPart_27 ?_
      refine lv_aload_n hx hb dX0_plainPart_28 rfl (lv_at hl 1 rfl) ?_
      refine b_get (own := RX0) (C := RX0) (T := TX0) (N := 5) (ci := 0) (v := .ref (ad 4)) hx hb hts usX0 hown hK hP 2 (by decide) rfl rfl 0 (by decide) (hts _ gw_88) rfl dX0_plainPart_29 ?_
      refine lv_iload_n hx hb dX0_plainPart_32 rfl (lv_at hl 0 rfl) ?_
      refine tE_r hx hb hK hP (by omega) dX0_plainPart_33 ?_
      refine lv_iload_n hx hb dX0_plainPart_34 rfl (lv_at hl 2 rfl) ?_
      refine tE_ld (i := k) hx hb hK hP (by omega) (by omega) dX0_plainPart_35 ?_
      refine lv_iload_n hx hb dX0_plainPart_36 rfl (lv_at hl 3 rfl) ?_
      refine g_calll (va_runSN (As := [.long (AL (k + 11) (I 2)), .long (AL (k + 11) u), .int q]) (rest := []) ⟨hx, hb, hml, hown, hts⟩ (ctX2_lowestPart l D cs ad I AN AI AL _ (AL (k + 11) (I 2)) (AL (k + 11) u) q) ⟨va_cnB 3 hts (gi_C gw_425) rfl rfl rfl (hN _ (by decide +kernel) : va_Nw (Cond.methodLinkNest "TriangularSystems$Elimination" 64 ⟨"TriangularSystems", "lowestPart", "(JJI)J"⟩ "TriangularSystems") s) (hts _ gw_53) (by decide +kernel) ⟨Nat.le_of_ble_eq_true rfl, Nat.le_of_ble_eq_true rfl⟩, hts _ gw_424, trivial⟩ ⟨g_blind, g_pre hP hK hD hN⟩ rfl rfl hl.1 rfl (lv_room (Nat.le_of_ble_eq_true rfl)) dX0_plainPart_37 ⟨Nat.zero_le _, Nat.zero_le _⟩) hD hS hA (fun r u H locs hw hP hD hS => ?_)
      obtain ⟨rfl, rfl⟩ := hw
      have hP : va_P D vc (wT cs ad I AN AI AL) H := hP
      have hD : va_D A (wT cs ad I AN AI AL) := hD
      exact g_lret hx hb hr hlocks (I, AN, AI, AL) (⟨rfl, by unfold ppart; rw [hf]⟩) hK hP hD hS dX0_plainPart_40
    · exact absurd (nI_pos' (by omega)) h

abbrev rmX0_directionPart : Room := { frames := 3, cells := 0, slots := 0, locals := 79 }
set_option maxHeartbeats 4000000 in
set_option maxRecDepth 100000 in
/-- directionPart -/
theorem ctX0_directionPart (l : Launch) (D : va_G) (cs : Nat → ClassId) (ad : Nat → Nat) (I : Nat → Nat) (AN : Nat → Nat → Nat) (AI : Nat → Nat → Int32) (AL : Nat → Nat → Int64) (sz : Nat) (g u : Nat) (q : Int32) (h4 : I 4 ≤ 7) (hdc : ∀ k, k < 7 → AN 5 k < 2 ^ 31) (hu : u < 5) (hg : g < 5) : Met l yX0_directionPart (Cond.code yX0_directionPart cX0_directionPart 5 (some FieldType.long) :: GW) rmX0_directionPart (va_Pc [.ref (ad 2), .int (nI g), .int (nI u), .int q] (gP D cs (wT cs ad I AN AI AL) sz)) (va_Ql (fun (r : Int64) (v : TS) => v = (I, AN, AI, AL) ∧ r = dpart AN AL (I 4) g u q) (gB D cs (va_A (wT cs ad I AN AI AL) sz) (wTs cs ad)) (va_A (wT cs ad I AN AI AL) sz)) 0 0 (va_A (wT cs ad I AN AI AL) sz) := by
  refine Met.ofW (cc := cX0_directionPart) (maxL := 5) (ret := (some FieldType.long)) (by decide) rfl ?_
  intro p e s m args below meth c s₁ B hml hv
  obtain ⟨rfl, hsz, hP, hK, hD0, hN⟩ := hv
  have hx := B.exec
  have hb := B.bytes
  have hr := B.returns
  have hts : ∀ w ∈ GW, w.before _ s = true := fun w h => atoms_spec (ws := Cond.code yX0_directionPart cX0_directionPart 5 (some FieldType.long) :: GW) B.pre w (List.mem_cons_of_mem _ h)
  have hown : s.vm.findClass RX0 = some m.cls := findClass_of_methodNamed B.named
  have hlocks := B.notSynchronized
  subst hsz
  have hD := hD0.self (sz := s.heap.size)
  generalize hAe : va_A (wT cs ad I AN AI AL) s.heap.size = A at hD ⊢
  have hA : ∀ q : Nat, s.heap.size ≤ q → A q := fun q h => by rw [← hAe]; exact Or.inr h
  have hS : va_S A s.heap s.heap [] := va_S.rf
  have hl := lv_entry [.ref (ad 2), .int (nI g), .int (nI u), .int q] (n := 5) (Nat.le_of_ble_eq_true rfl)
  rw [lg_entry_eq]
  generalize (lg_sl [.ref (ad 2), .int (nI g), .int (nI u), .int q] ++ List.replicate (5 - (lg_sl [.ref (ad 2), .int (nI g), .int (nI u), .int q]).length) Slot.unset).toArray = ls at hl ⊢
  have hl : lv_has ls 5 [(0, .ref (ad 2)), (1, .int (nI g)), (2, .int (nI u)), (3, .int q)] := hl
  generalize hargs : ([.ref (ad 2), .int (nI g), .int (nI u), .int q] : List Value).toArray = args at *
  show W p l e rmX0_directionPart s m args below meth c s.heap [] 0 0 _ (F0 m 0 ls [])
  refine lv_aload_n hx hb dX0_directionPart_0 rfl (lv_at hl 0 rfl) ?_
  refine lv_iload_n hx hb dX0_directionPart_1 rfl (lv_at hl 2 rfl) ?_
  refine g_calli (va_runV (As := [.int (nI u)]) (rest := []) ⟨hx, hb, hml, hown, hts⟩ (ctX0_rowDeciding l D cs ad I AN AI AL _ u h4 hdc (by omega)) (cwV 1 hts (gi_V gw_206 gw_208 gw_10 gw_55 gw_209) rfl rfl rfl (by decide +kernel) ⟨Nat.le_of_ble_eq_true rfl, Nat.le_of_ble_eq_true rfl⟩) ⟨g_blind, va_recv hK hP (ci := 0) (q0 := 2) rfl (wm_at (by decide) rfl), g_pre hP hK hD hN⟩ rfl rfl hl.1 rfl (lv_room (Nat.le_of_ble_eq_true rfl)) dX0_directionPart_2 ⟨Nat.zero_le _, Nat.zero_le _⟩) hD hS hA (fun r u H locs hw hP hD hS => ?_)
  obtain ⟨rfl, hw2⟩ := hw
  have hP : va_P D vc (wT cs ad I AN AI AL) H := hP
  have hD : va_D A (wT cs ad I AN AI AL) := hD
  cases hf : rdec AN (I 4) u with
  | none =>
    rw [hf] at hw2
    subst hw2
    refine lv_istore (lv' := [(4, .int (enc none)), (0, .ref (ad 2)), (1, .int (nI g)), (2, .int (nI u)), (3, .int q)]) hx hb dX0_directionPart_5 hl (by decide) rfl (fun ls hl => ?_)
    refine lv_iload hx hb dX0_directionPart_7 (lv_at hl 0 rfl) ?_
    refine lv_if_ge (tgt := 28) hx hb dX0_directionPart_9 (by decide) (fun h => ?_) (fun h => ?_)
    · exact absurd h (by decide)
    · refine lv_iload_n hx hb dX0_directionPart_12 rfl (lv_at hl 3 rfl) ?_
      refine lv_iload_n hx hb dX0_directionPart_13 rfl (lv_at hl 2 rfl) ?_
      by_cases hug : u = g
      · refine b_ne_f (tgt := 21) hx hb dX0_directionPart_14 (by decide) (hug)  ?_
        refine lv_lconst (v := 1) hx hb dX0_directionPart_17 (by decide) ?_
        refine lv_goto (tgt := 22) hx hb dX0_directionPart_18 (by decide) ?_
        refine lv_lconst (v := 1) hx hb dX0_directionPart_22 (by decide) ?_
        refine lv_iload_n hx hb dX0_directionPart_23 rfl (lv_at hl 4 rfl) ?_
        refine g_calll (va_runSN (As := [.long 1, .long 1, .int q]) (rest := []) ⟨hx, hb, hml, hown, hts⟩ (ctX2_lowestPart l D cs ad I AN AI AL _ 1 1 q) ⟨va_cnB 3 hts (gi_C gw_425) rfl rfl rfl (hN _ (by decide +kernel) : va_Nw (Cond.methodLinkNest "TriangularSystems$Elimination" 64 ⟨"TriangularSystems", "lowestPart", "(JJI)J"⟩ "TriangularSystems") s) (hts _ gw_53) (by decide +kernel) ⟨Nat.le_of_ble_eq_true rfl, Nat.le_of_ble_eq_true rfl⟩, hts _ gw_424, trivial⟩ ⟨g_blind, g_pre hP hK hD hN⟩ rfl rfl hl.1 rfl (lv_room (Nat.le_of_ble_eq_true rfl)) dX0_directionPart_24 ⟨Nat.zero_le _, Nat.zero_le _⟩) hD hS hA (fun r u H locs hw hP hD hS => ?_)
        obtain ⟨rfl, rfl⟩ := hw
        have hP : va_P D vc (wT cs ad I AN AI AL) H := hP
        have hD : va_D A (wT cs ad I AN AI AL) := hD
        exact g_lret hx hb hr hlocks (I, AN, AI, AL) (⟨rfl, by unfold dpart; rw [hf]; show _ = lp64 (if u = g then 1 else 0) 1 q; rw [if_pos hug]⟩) hK hP hD hS dX0_directionPart_27
      · refine b_ne_t (tgt := 21) hx hb dX0_directionPart_14 (by decide) (hug) (by omega) (by omega) ?_
        refine lv_lconst (v := 0) hx hb dX0_directionPart_21 (by decide) ?_
        refine lv_lconst (v := 1) hx hb dX0_directionPart_22 (by decide) ?_
        refine lv_iload_n hx hb dX0_directionPart_23 rfl (lv_at hl 4 rfl) ?_
        refine g_calll (va_runSN (As := [.long 0, .long 1, .int q]) (rest := []) ⟨hx, hb, hml, hown, hts⟩ (ctX2_lowestPart l D cs ad I AN AI AL _ 0 1 q) ⟨va_cnB 3 hts (gi_C gw_425) rfl rfl rfl (hN _ (by decide +kernel) : va_Nw (Cond.methodLinkNest "TriangularSystems$Elimination" 64 ⟨"TriangularSystems", "lowestPart", "(JJI)J"⟩ "TriangularSystems") s) (hts _ gw_53) (by decide +kernel) ⟨Nat.le_of_ble_eq_true rfl, Nat.le_of_ble_eq_true rfl⟩, hts _ gw_424, trivial⟩ ⟨g_blind, g_pre hP hK hD hN⟩ rfl rfl hl.1 rfl (lv_room (Nat.le_of_ble_eq_true rfl)) dX0_directionPart_24 ⟨Nat.zero_le _, Nat.zero_le _⟩) hD hS hA (fun r u H locs hw hP hD hS => ?_)
        obtain ⟨rfl, rfl⟩ := hw
        have hP : va_P D vc (wT cs ad I AN AI AL) H := hP
        have hD : va_D A (wT cs ad I AN AI AL) := hD
        exact g_lret hx hb hr hlocks (I, AN, AI, AL) (⟨rfl, by unfold dpart; rw [hf]; show _ = lp64 (if u = g then 1 else 0) 1 q; rw [if_neg hug]⟩) hK hP hD hS dX0_directionPart_27
  | some k =>
    rw [hf] at hw2
    have hw2 : r = nI k := hw2
    subst hw2
    obtain ⟨g1, g2, g3, g4⟩ := fnd_some hf
    refine lv_istore (lv' := [(4, .int (nI k)), (0, .ref (ad 2)), (1, .int (nI g)), (2, .int (nI u)), (3, .int q)]) hx hb dX0_directionPart_5 hl (by decide) rfl (fun ls hl => ?_)
    refine lv_iload hx hb dX0_directionPart_7 (lv_at hl 0 rfl) ?_
    refine lv_if_ge (tgt := 28) hx hb dX0_directionPart_9 (by decide) (fun h => ?_) (fun h => ?_)
    · refine lv_aload_n hx hb dX0_directionPart_28 rfl (lv_at hl 1 rfl) ?_
      refine b_get (own := RX0) (C := RX0) (T := TX0) (N := 5) (ci := 0) (v := .ref (ad 4)) hx hb hts usX0 hown hK hP 2 (by decide) rfl rfl 0 (by decide) (hts _ gw_88) rfl dX0_directionPart_29 ?_
      refine lv_iload hx hb dX0_directionPart_32 (lv_at hl 0 rfl) ?_
      refine tE_r hx hb hK hP (by omega) dX0_directionPart_34 ?_
      refine lv_iload_n hx hb dX0_directionPart_35 rfl (lv_at hl 2 rfl) ?_
      refine tE_ld (i := k) hx hb hK hP (by omega) (by omega) dX0_directionPart_36 ?_
      refine lv_lneg hx hb dX0_directionPart_37 ?_
      refine lv_aload_n hx hb dX0_directionPart_38 rfl (lv_at hl 1 rfl) ?_
      refine b_get (own := RX0) (C := RX0) (T := TX0) (N := 5) (ci := 0) (v := .ref (ad 4)) hx hb hts usX0 hown hK hP 2 (by decide) rfl rfl 0 (by decide) (hts _ gw_88) rfl dX0_directionPart_39 ?_
      refine lv_iload hx hb dX0_directionPart_42 (lv_at hl 0 rfl) ?_
      refine tE_r hx hb hK hP (by omega) dX0_directionPart_44 ?_
      refine lv_iload_n hx hb dX0_directionPart_45 rfl (lv_at hl 3 rfl) ?_
      refine tE_ld (i := k) hx hb hK hP (by omega) (by omega) dX0_directionPart_46 ?_
      refine lv_iload_n hx hb dX0_directionPart_47 rfl (lv_at hl 4 rfl) ?_
      refine g_calll (va_runSN (As := [.long (-(AL (k + 11) g)), .long (AL (k + 11) u), .int q]) (rest := []) ⟨hx, hb, hml, hown, hts⟩ (ctX2_lowestPart l D cs ad I AN AI AL _ (-(AL (k + 11) g)) (AL (k + 11) u) q) ⟨va_cnB 3 hts (gi_C gw_425) rfl rfl rfl (hN _ (by decide +kernel) : va_Nw (Cond.methodLinkNest "TriangularSystems$Elimination" 64 ⟨"TriangularSystems", "lowestPart", "(JJI)J"⟩ "TriangularSystems") s) (hts _ gw_53) (by decide +kernel) ⟨Nat.le_of_ble_eq_true rfl, Nat.le_of_ble_eq_true rfl⟩, hts _ gw_424, trivial⟩ ⟨g_blind, g_pre hP hK hD hN⟩ rfl rfl hl.1 rfl (lv_room (Nat.le_of_ble_eq_true rfl)) dX0_directionPart_48 ⟨Nat.zero_le _, Nat.zero_le _⟩) hD hS hA (fun r u H locs hw hP hD hS => ?_)
      obtain ⟨rfl, rfl⟩ := hw
      have hP : va_P D vc (wT cs ad I AN AI AL) H := hP
      have hD : va_D A (wT cs ad I AN AI AL) := hD
      exact g_lret hx hb hr hlocks (I, AN, AI, AL) (⟨rfl, by unfold dpart; rw [hf]⟩) hK hP hD hS dX0_directionPart_51
    · exact absurd (nI_pos' (by omega)) h
