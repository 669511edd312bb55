theorem i64_of_nI {k : Nat} (h : k < 2 ^ 31) : (Int32.toInt64 (nI k)).toInt = (k : Int) := by
  rw [Int32.toInt_toInt64, nI_toInt h]
theorem inL_nat {x : Int32} {hi : Int64} (h : inL (Int32.toInt64 x) 0 hi = true) : ∃ k : Nat, k < 2 ^ 31 ∧ x = nI k ∧ (k : Int) ≤ hi.toInt := by
  have h1 := of_decide_eq_true h
  have h2 : ¬ x < 0 := by
    intro hx
    apply h1.1
    rw [Int64.lt_iff_toInt_lt, Int32.toInt_toInt64]
    exact Int32.lt_iff_toInt_lt.mp hx
  obtain ⟨k, hk, rfl⟩ := nI_of h2
  refine ⟨k, hk, rfl, ?_⟩
  have h3 : ¬ hi.toInt < (Int32.toInt64 (nI k)).toInt := fun z => h1.2 (Int64.lt_iff_toInt_lt.mpr z)
  rw [i64_of_nI hk] at h3
  omega
theorem i32_m1 {a : Nat} (h : a < 2 ^ 30) : (nI a - nI 1).toInt = (a : Int) - 1 := pk_sub_toInt (a := a) (b := 1) h (by decide)
theorem plM_spec {I : Nat → Nat} {g u : Int32} (h1 : I 1 ≤ 3) (h2 : I 2 ≤ 3) (h : plM I g u = true) : ∃ g' u' : Nat, g = nI g' ∧ g' < I 2 ∧ u = nI u' ∧ u' ≤ I 1 := by
  unfold plM at h
  rw [Bool.and_eq_true] at h
  obtain ⟨g', a1, a2, a3⟩ := inL_nat h.1
  obtain ⟨u', b1, b2, b3⟩ := inL_nat h.2
  rw [Int32.toInt_toInt64, i32_m1 (by omega)] at a3
  rw [i64_of_nI (by omega)] at b3
  exact ⟨g', u', a2, by omega, b2, by omega⟩
theorem nI_cl {k : Nat} (h : k < 2 ^ 31) : (nI k).toNatClampNeg = k := nI_clamp h
def atM (I : Nat → Nat) (AI : Nat → Int32) (g u : Int32) : Int32 := AI (plc (I 1) g.toNatClampNeg u.toNatClampNeg)
theorem plc_lt {n g u : Nat} (hg : g < 3) (hu : u ≤ n) (hn : n ≤ 3) : plc n g u < 12 := by
  unfold plc
  by_cases h : u = n
  · rw [if_pos h]; omega
  · rw [if_neg h]; omega
def inV (v : Int32) : Bool := inL (Int32.toInt64 v) (-9) 9
def eqM (I : Nat → Nat) (G : Nat → Int64) (AN : Nat → Nat → Nat) (AI : Nat → Int32) (AL : Nat → Nat → Int64) : MS := if I 2 = 3 then (up1 I 0 1, G, AN, AI, AL) else (up1 (up1 I 0 0) 2 (I 2 + 1), G, AN, fo (fun k X => up1 X (4 * I 2 + k) (nI 0)) 4 0 AI, AL)

abbrev rmX3_equation : Room := { frames := 0, cells := 0, slots := 0, locals := 0 }
set_option maxHeartbeats 4000000 in
set_option maxRecDepth 100000 in
theorem ctX3_equation (l : Launch) (D : va_G) (cs : Nat → ClassId) (ad : Nat → Nat) (I : Nat → Nat) (G : Nat → Int64) (AN : Nat → Nat → Nat) (AI : Nat → Int32) (AL : Nat → Nat → Int64) (sz : Nat)  (h2 : I 2 ≤ 3) : Met l yX3_equation (Cond.code yX3_equation cX3_equation 2 (some FieldType.int) :: GW) rmX3_equation (va_Pc [.ref (ad 0)] (gP D cs (wM cs ad I G AN AI AL) sz)) (va_Qi (fun (r : Int32) (u : MS) => u = eqM I G AN AI AL ∧ r = if I 2 = 3 then nI 0 else nI (I 2)) (gB D cs (va_A (wM cs ad I G AN AI AL) sz) (wMs cs ad)) (va_A (wM cs ad I G AN AI AL) sz)) 0 0 (va_A (wM cs ad I G AN AI AL) sz) := by
  refine Met.ofW (cc := cX3_equation) (maxL := 2) (ret := (some FieldType.int)) (by decide) rfl ?_
  intro p e s m args below meth c s₁ B hml hv
  obtain ⟨rfl, hsz, hP, hK, hD0, hN⟩ := hv
  have hx := B.exec
  have hb := B.bytes
  have hr := B.returns
  have hts : ∀ w ∈ GW, w.before _ s = true := fun w h => atoms_spec (ws := Cond.code yX3_equation cX3_equation 2 (some FieldType.int) :: GW) B.pre w (List.mem_cons_of_mem _ h)
  have hown : s.vm.findClass RX3 = some m.cls := findClass_of_methodNamed B.named
  have hlocks := B.notSynchronized
  subst hsz
  have hD := hD0.self (sz := s.heap.size)
  generalize hAe : va_A (wM cs ad I G AN AI AL) s.heap.size = A at hD ⊢
  have hA : ∀ q : Nat, s.heap.size ≤ q → A q := fun q h => by rw [← hAe]; exact Or.inr h
  have hS : va_S A s.heap s.heap [] := va_S.rf
  have hl := lv_entry [.ref (ad 0)] (n := 2) (Nat.le_of_ble_eq_true rfl)
  rw [lg_entry_eq]
  generalize (lg_sl [.ref (ad 0)] ++ List.replicate (2 - (lg_sl [.ref (ad 0)]).length) Slot.unset).toArray = ls at hl ⊢
  have hl : lv_has ls 2 [(0, .ref (ad 0))] := hl
  generalize hargs : ([.ref (ad 0)] : List Value).toArray = args at *
  show W p l e rmX3_equation s m args below meth c s.heap [] 0 0 _ (F0 m 0 ls [])
  refine lv_aload_n hx hb dX3_equation_0 rfl (lv_at hl 0 rfl) ?_
  refine lv_aload_n hx hb dX3_equation_1 rfl (lv_at hl 0 rfl) ?_
  refine b_get (own := RX3) (C := RX3) (T := TX3) (N := 23) (ci := 3) (v := .int (nI (I 2))) hx hb hts usX3 hown hK hP 0 (by decide) rfl rfl 2 (by decide) (hts _ gw_506) rfl dX3_equation_2 ?_
  refine lv_iconst (v := nI 3) hx hb dX3_equation_5 (by decide) ?_
  by_cases h3 : I 2 = 3
  · refine b_ne_f (tgt := 13) hx hb dX3_equation_6 (by decide) (h3)  ?_
    refine lv_iconst (v := nI 1) hx hb dX3_equation_9 (by decide) ?_
    refine lv_goto (tgt := 14) hx hb dX3_equation_10 (by decide) ?_
    refine b_put (own := RX3) (C := RX3) (T := TX3) (N := 23) (ci := 3) (v := .int (nI 1)) hx hb hts usX3 tyX3 tyX3_ok nmX3 hown hK hP hD hS 0 (by decide) rfl rfl 0 (by decide) (hts _ gw_504) rfl rfl rfl (Nat.le_of_ble_eq_true rfl) dX3_equation_14 sM_I0 (fun H locs hP hD hS => ?_)
    refine lv_aload_n hx hb dX3_equation_17 rfl (lv_at hl 0 rfl) ?_
    refine b_get (own := RX3) (C := RX3) (T := TX3) (N := 23) (ci := 3) (v := .int (nI 1)) hx hb hts usX3 hown hK hP 0 (by decide) rfl rfl 0 (by decide) (hts _ gw_504) rfl dX3_equation_18 ?_
    refine lv_if_le (tgt := 26) hx hb dX3_equation_21 (by decide) (fun q => absurd q (by decide)) (fun _ => ?_)
    refine lv_iconst (v := nI 0) hx hb dX3_equation_24 (by decide) ?_
    exact g_iret hx hb hr hlocks (up1 I 0 1, G, AN, AI, AL) (⟨(if_pos h3).symm, (if_pos h3).symm⟩) hK hP hD hS dX3_equation_25
  · refine b_ne_t (tgt := 13) hx hb dX3_equation_6 (by decide) (h3) (by omega) (by omega) ?_
    refine lv_iconst (v := nI 0) hx hb dX3_equation_13 (by decide) ?_
    refine b_put (own := RX3) (C := RX3) (T := TX3) (N := 23) (ci := 3) (v := .int (nI 0)) hx hb hts usX3 tyX3 tyX3_ok nmX3 hown hK hP hD hS 0 (by decide) rfl rfl 0 (by decide) (hts _ gw_504) rfl rfl rfl (Nat.le_of_ble_eq_true rfl) dX3_equation_14 sM_I0 (fun H locs hP hD hS => ?_)
    refine lv_aload_n hx hb dX3_equation_17 rfl (lv_at hl 0 rfl) ?_
    refine b_get (own := RX3) (C := RX3) (T := TX3) (N := 23) (ci := 3) (v := .int (nI 0)) hx hb hts usX3 hown hK hP 0 (by decide) rfl rfl 0 (by decide) (hts _ gw_504) rfl dX3_equation_18 ?_
    refine lv_if_le (tgt := 26) hx hb dX3_equation_21 (by decide) (fun _ => ?_) (fun q => absurd (by decide) q)
    refine lv_iconst (v := nI 0) hx hb dX3_equation_26 (by decide) ?_
    refine lv_istore_n (lv' := [(1, .int (nI 0)), (0, .ref (ad 0))]) hx hb dX3_equation_27 rfl hl (by decide) rfl (fun ls hl => ?_)
    have lp28 : ∀ (Q : State → Prop) (n k : Nat) (X : Nat → Int32) (H : Heap) (locs : List Loc) (ls : Array Slot), k + n = 4 → va_P D vc (wM cs ad (up1 I 0 0) G AN X AL) H → va_D A (wM cs ad (up1 I 0 0) G AN X AL) → va_S A s.heap H locs → lv_has ls 2 [(1, .int (nI k)), (0, .ref (ad 0))] → (∀ (H : Heap) (locs : List Loc) (ls : Array Slot), va_P D vc (wM cs ad (up1 I 0 0) G AN (fo (fun k X => up1 X (4 * I 2 + k) (nI 0)) n k X) AL) H → va_D A (wM cs ad (up1 I 0 0) G AN (fo (fun k X => up1 X (4 * I 2 + k) (nI 0)) n k X) AL) → va_S A s.heap H locs → lv_has ls 2 [(1, .int (nI 4)), (0, .ref (ad 0))] → W p l e rmX3_equation s m args below meth c H locs 0 0 Q (F0 m 53 ls [])) → W p l e rmX3_equation s m args below meth c H locs 0 0 Q (F0 m 28 ls []) := by
      intro Q n
      induction n with
      | zero =>
        intro k X H locs ls hn hP hD hS hl kx
        have hi : k = 4 := by omega
        refine lv_iload_n hx hb dX3_equation_28 rfl (lv_at hl 0 rfl) ?_
        refine lv_iconst (v := nI 4) hx hb dX3_equation_29 (by decide) ?_
        refine b_ge_t (tgt := 53) hx hb dX3_equation_30 (by decide) (by omega) (by omega) ?_
        rw [hi] at hl
        exact kx H locs ls hP hD hS (lv_sub hl [0, 1] rfl)
      | succ n ih =>
        intro k X H locs ls hn hP hD hS hl kx
        have hi : k < 4 := by omega
        refine lv_iload_n hx hb dX3_equation_28 rfl (lv_at hl 0 rfl) ?_
        refine lv_iconst (v := nI 4) hx hb dX3_equation_29 (by decide) ?_
        refine b_ge_f (tgt := 53) hx hb dX3_equation_30 (by decide) (by omega) (by omega) ?_
        refine lv_aload_n hx hb dX3_equation_33 rfl (lv_at hl 1 rfl) ?_
        refine b_get (own := RX3) (C := RX3) (T := TX3) (N := 23) (ci := 3) (v := .ref (ad 1)) hx hb hts usX3 hown hK hP 0 (by decide) rfl rfl 3 (by decide) (hts _ gw_507) rfl dX3_equation_34 ?_
        refine lv_iconst (v := nI 4) hx hb dX3_equation_37 (by decide) ?_
        refine lv_aload_n hx hb dX3_equation_38 rfl (lv_at hl 1 rfl) ?_
        refine b_get (own := RX3) (C := RX3) (T := TX3) (N := 23) (ci := 3) (v := .int (nI (I 2))) hx hb hts usX3 hown hK hP 0 (by decide) rfl rfl 2 (by decide) (hts _ gw_506) rfl dX3_equation_39 ?_
        refine b_muln hx hb dX3_equation_42 ?_
        refine lv_iload_n hx hb dX3_equation_43 rfl (lv_at hl 0 rfl) ?_
        refine b_addn hx hb dX3_equation_44 ?_
        refine lv_iconst (v := nI 0) hx hb dX3_equation_45 (by decide) ?_
        refine b_iast hx hb hK hP hD hS 1 0 (by decide) rfl rfl (by omega) (by decide) dX3_equation_46 sM_C (fun H locs hP hD hS => ?_)
        refine b_iinc (lv' := [(1, .int (nI (k + 1))), (0, .ref (ad 0))]) hx hb dX3_equation_47 hl (k := 0) rfl (by decide) rfl (fun ls hl => ?_)
        refine lv_goto (tgt := 28) hx hb dX3_equation_50 (by decide) ?_
        exact ih (k + 1) _ H locs ls (by omega) hP hD hS (lv_sub hl [0, 1] rfl) kx
    refine lp28 _ (4) 0 AI _ _ ls (by omega) hP hD hS (lv_sub hl [0, 1] rfl) (fun H locs ls hP hD hS hl => ?_)
    refine lv_aload_n hx hb dX3_equation_53 rfl (lv_at hl 1 rfl) ?_
    refine lv_dup hx hb dX3_equation_54 rfl ?_
    refine b_get (own := RX3) (C := RX3) (T := TX3) (N := 23) (ci := 3) (v := .int (nI (I 2))) hx hb hts usX3 hown hK hP 0 (by decide) rfl rfl 2 (by decide) (hts _ gw_506) rfl dX3_equation_55 ?_
    refine lv_iconst (v := nI 1) hx hb dX3_equation_58 (by decide) ?_
    refine b_addn hx hb dX3_equation_59 ?_
    refine b_put (own := RX3) (C := RX3) (T := TX3) (N := 23) (ci := 3) (v := .int (nI ((I 2) + 1))) hx hb hts usX3 tyX3 tyX3_ok nmX3 hown hK hP hD hS 0 (by decide) rfl rfl 2 (by decide) (hts _ gw_506) rfl rfl rfl (Nat.le_of_ble_eq_true rfl) dX3_equation_60 sM_I2 (fun H locs hP hD hS => ?_)
    refine lv_aload_n hx hb dX3_equation_63 rfl (lv_at hl 1 rfl) ?_
    refine b_get (own := RX3) (C := RX3) (T := TX3) (N := 23) (ci := 3) (v := .int (nI ((I 2) + 1))) hx hb hts usX3 hown hK hP 0 (by decide) rfl rfl 2 (by decide) (hts _ gw_506) rfl dX3_equation_64 ?_
    refine lv_iconst (v := nI 1) hx hb dX3_equation_67 (by decide) ?_
    refine b_subn hx hb dX3_equation_68 (by omega) ?_
    exact g_iret hx hb hr hlocks (up1 (up1 I 0 0) 2 ((I 2) + 1), G, AN, fo (fun k X => up1 X (4 * I 2 + k) (nI 0)) (4) 0 AI, AL) (⟨(if_neg h3).symm, by rw [if_neg h3]; rfl⟩) hK hP hD hS dX3_equation_69

abbrev rmX3_at : Room := { frames := 2, cells := 0, slots := 0, locals := 47 }
set_option maxHeartbeats 4000000 in
set_option maxRecDepth 100000 in
theorem ctX3_at (l : Launch) (D : va_G) (cs : Nat → ClassId) (ad : Nat → Nat) (I : Nat → Nat) (G : Nat → Int64) (AN : Nat → Nat → Nat) (AI : Nat → Int32) (AL : Nat → Nat → Int64) (sz : Nat) (g u : Int32) (hn3 : I 1 ≤ 3) (h2 : I 2 ≤ 3) : Met l yX3_at (Cond.code yX3_at cX3_at 3 (some FieldType.int) :: GW) rmX3_at (va_Pc [.ref (ad 0), .int g, .int u] (gP D cs (wM cs ad I G AN AI AL) sz)) (va_Qi (fun (r : Int32) (v : MS) => v = (up1 I 0 (if plM I g u then 0 else 1), G, AN, AI, AL) ∧ r = if plM I g u then atM I AI g u else nI 0) (gB D cs (va_A (wM cs ad I G AN AI AL) sz) (wMs cs ad)) (va_A (wM cs ad I G AN AI AL) sz)) 0 0 (va_A (wM cs ad I G AN AI AL) sz) := by
  refine Met.ofW (cc := cX3_at) (maxL := 3) (ret := (some FieldType.int)) (by decide) rfl ?_
  intro p e s m args below meth c s₁ B hml hv
  obtain ⟨rfl, hsz, hP, hK, hD0, hN⟩ := hv
  have hx := B.exec
  have hb := B.bytes
  have hr := B.returns
  have hts : ∀ w ∈ GW, w.before _ s = true := fun w h => atoms_spec (ws := Cond.code yX3_at cX3_at 3 (some FieldType.int) :: GW) B.pre w (List.mem_cons_of_mem _ h)
  have hown : s.vm.findClass RX3 = some m.cls := findClass_of_methodNamed B.named
  have hlocks := B.notSynchronized
  subst hsz
  have hD := hD0.self (sz := s.heap.size)
  generalize hAe : va_A (wM cs ad I G AN AI AL) s.heap.size = A at hD ⊢
  have hA : ∀ q : Nat, s.heap.size ≤ q → A q := fun q h => by rw [← hAe]; exact Or.inr h
  have hS : va_S A s.heap s.heap [] := va_S.rf
  have hl := lv_entry [.ref (ad 0), .int g, .int u] (n := 3) (Nat.le_of_ble_eq_true rfl)
  rw [lg_entry_eq]
  generalize (lg_sl [.ref (ad 0), .int g, .int u] ++ List.replicate (3 - (lg_sl [.ref (ad 0), .int g, .int u]).length) Slot.unset).toArray = ls at hl ⊢
  have hl : lv_has ls 3 [(0, .ref (ad 0)), (1, .int g), (2, .int u)] := hl
  generalize hargs : ([.ref (ad 0), .int g, .int u] : List Value).toArray = args at *
  show W p l e rmX3_at s m args below meth c s.heap [] 0 0 _ (F0 m 0 ls [])
  refine lv_aload_n hx hb dX3_at_0 rfl (lv_at hl 0 rfl) ?_
  refine lv_iload_n hx hb dX3_at_1 rfl (lv_at hl 1 rfl) ?_
  refine lv_iload_n hx hb dX3_at_2 rfl (lv_at hl 2 rfl) ?_
  refine g_calli (va_runV (As := [.int g, .int u]) (rest := []) ⟨hx, hb, hml, hown, hts⟩ (ctX3_isPlace l D cs ad I G AN AI AL _ g u) (cwV 2 hts (gi_V gw_587 gw_589 gw_28 gw_57 gw_590) rfl rfl rfl (by decide +kernel) ⟨Nat.le_of_ble_eq_true rfl, Nat.le_of_ble_eq_true rfl⟩) ⟨g_blind, va_recv hK hP (ci := 3) (q0 := 0) rfl (wm_at (by decide) rfl), g_pre hP hK hD hN⟩ rfl rfl hl.1 rfl (lv_room (Nat.le_of_ble_eq_true rfl)) dX3_at_3 ⟨Nat.zero_le _, Nat.zero_le _⟩) hD hS hA (fun r u H locs hw hP hD hS => ?_)
  obtain ⟨rfl, rfl⟩ := hw
  have hP : va_P D vc (wM cs ad (up1 I 0 (if plM I g u then 0 else 1)) G AN AI AL) H := hP
  have hD : va_D A (wM cs ad (up1 I 0 (if plM I g u then 0 else 1)) G AN AI AL) := hD
  refine lv_if_eq (tgt := 23) hx hb dX3_at_6 (by decide) (fun h => ?_) (fun h => ?_)
  · refine lv_iconst (v := nI 0) hx hb dX3_at_23 (by decide) ?_
    exact g_iret hx hb hr hlocks (up1 I 0 (if plM I g u then 0 else 1), G, AN, AI, AL) (⟨rfl, by rw [bz_1.mp h]; rfl⟩) hK hP hD hS dX3_at_24
  · have hpl := bz_t h
    obtain ⟨g', u', rfl, hg, rfl, hu⟩ := plM_spec hn3 h2 hpl
    have hlt : plc (I 1) g' u' < 12 := plc_lt (by omega) hu hn3
    refine lv_aload_n hx hb dX3_at_9 rfl (lv_at hl 0 rfl) ?_
    refine b_get (own := RX3) (C := RX3) (T := TX3) (N := 23) (ci := 3) (v := .ref (ad 1)) hx hb hts usX3 hown hK hP 0 (by decide) rfl rfl 3 (by decide) (hts _ gw_507) rfl dX3_at_10 ?_
    refine lv_aload_n hx hb dX3_at_13 rfl (lv_at hl 0 rfl) ?_
    refine lv_iload_n hx hb dX3_at_14 rfl (lv_at hl 1 rfl) ?_
    refine lv_iload_n hx hb dX3_at_15 rfl (lv_at hl 2 rfl) ?_
    refine g_calli (va_runV (As := [.int (nI g'), .int (nI u')]) (rest := [.ref (ad 1)]) ⟨hx, hb, hml, hown, hts⟩ (ctX3_place l D cs ad (up1 I 0 (if plM I (nI g') (nI u') then 0 else 1)) G AN AI AL _ g' u' hn3 (by omega)) (cwV 2 hts (gi_V gw_596 gw_598 gw_29 gw_57 gw_599) rfl rfl rfl (by decide +kernel) ⟨Nat.le_of_ble_eq_true rfl, Nat.le_of_ble_eq_true rfl⟩) ⟨g_blind, va_recv hK hP (ci := 3) (q0 := 0) rfl (wm_at (by decide) rfl), g_pre hP hK hD hN⟩ rfl rfl hl.1 rfl (lv_room (Nat.le_of_ble_eq_true rfl)) dX3_at_16 ⟨Nat.zero_le _, Nat.zero_le _⟩) hD hS hA (fun r u H locs hw hP hD hS => ?_)
    obtain ⟨rfl, rfl⟩ := hw
    have hP : va_P D vc (wM cs ad (up1 I 0 (if plM I (nI g') (nI u') then 0 else 1)) G AN AI AL) H := hP
    have hD : va_D A (wM cs ad (up1 I 0 (if plM I (nI g') (nI u') then 0 else 1)) G AN AI AL) := hD
    refine b_iald hx hb hK hP 1 0 (by decide) rfl rfl (hlt) (by decide) dX3_at_19 ?_
    refine lv_goto (tgt := 24) hx hb dX3_at_20 (by decide) ?_
    exact g_iret hx hb hr hlocks (up1 I 0 (if plM I (nI g') (nI u') then 0 else 1), G, AN, AI, AL) (⟨rfl, by show AI (plc (I 1) g' u') = _; rw [if_pos hpl]; unfold atM; rw [nI_cl (by omega), nI_cl (by omega)]⟩) hK hP hD hS dX3_at_24

def puM (I : Nat → Nat) (G : Nat → Int64) (AN : Nat → Nat → Nat) (AI : Nat → Int32) (AL : Nat → Nat → Int64) (g u v : Int32) : MS :=
  if plM I g u then (if inV v then (up1 I 0 0, G, AN, up1 AI (plc (I 1) g.toNatClampNeg u.toNatClampNeg) v, AL) else (up1 I 0 2, G, AN, AI, AL)) else (up1 I 0 1, G, AN, AI, AL)
def puR (I : Nat → Nat) (AI : Nat → Int32) (g u v : Int32) : Int32 := if plM I g u then (if inV v then bz (decide (atM I AI g u ≠ v)) else nI 0) else nI 0

abbrev rmX3_put : Room := { frames := 2, cells := 0, slots := 0, locals := 47 }
set_option maxHeartbeats 4000000 in
set_option maxRecDepth 100000 in
theorem ctX3_put (l : Launch) (D : va_G) (cs : Nat → ClassId) (ad : Nat → Nat) (I : Nat → Nat) (G : Nat → Int64) (AN : Nat → Nat → Nat) (AI : Nat → Int32) (AL : Nat → Nat → Int64) (sz : Nat) (g u v : Int32) (hn3 : I 1 ≤ 3) (h2 : I 2 ≤ 3) : Met l yX3_put (Cond.code yX3_put cX3_put 5 (some FieldType.boolean) :: GW) rmX3_put (va_Pc [.ref (ad 0), .int g, .int u, .int v] (gP D cs (wM cs ad I G AN AI AL) sz)) (va_Qi (fun (r : Int32) (v9 : MS) => v9 = puM I G AN AI AL g u v ∧ r = puR I AI g u v) (gB D cs (va_A (wM cs ad I G AN AI AL) sz) (wMs cs ad)) (va_A (wM cs ad I G AN AI AL) sz)) 0 0 (va_A (wM cs ad I G AN AI AL) sz) := by
  refine Met.ofW (cc := cX3_put) (maxL := 5) (ret := (some FieldType.boolean)) (by decide) rfl ?_
  intro p e s m args below meth c s₁ B hml hv
  obtain ⟨rfl, hsz, hP, hK, hD0, hN⟩ := hv
  have hx := B.exec
  have hb := B.bytes
  have hr := B.returns
  have hts : ∀ w ∈ GW, w.before _ s = true := fun w h => atoms_spec (ws := Cond.code yX3_put cX3_put 5 (some FieldType.boolean) :: GW) B.pre w (List.mem_cons_of_mem _ h)
  have hown : s.vm.findClass RX3 = some m.cls := findClass_of_methodNamed B.named
  have hlocks := B.notSynchronized
  subst hsz
  have hD := hD0.self (sz := s.heap.size)
  generalize hAe : va_A (wM cs ad I G AN AI AL) s.heap.size = A at hD ⊢
  have hA : ∀ q : Nat, s.heap.size ≤ q → A q := fun q h => by rw [← hAe]; exact Or.inr h
  have hS : va_S A s.heap s.heap [] := va_S.rf
  have hl := lv_entry [.ref (ad 0), .int g, .int u, .int v] (n := 5) (Nat.le_of_ble_eq_true rfl)
  rw [lg_entry_eq]
  generalize (lg_sl [.ref (ad 0), .int g, .int u, .int v] ++ List.replicate (5 - (lg_sl [.ref (ad 0), .int g, .int u, .int v]).length) Slot.unset).toArray = ls at hl ⊢
  have hl : lv_has ls 5 [(0, .ref (ad 0)), (1, .int g), (2, .int u), (3, .int v)] := hl
  generalize hargs : ([.ref (ad 0), .int g, .int u, .int v] : List Value).toArray = args at *
  show W p l e rmX3_put s m args below meth c s.heap [] 0 0 _ (F0 m 0 ls [])
  refine lv_aload_n hx hb dX3_put_0 rfl (lv_at hl 0 rfl) ?_
  refine lv_iload_n hx hb dX3_put_1 rfl (lv_at hl 1 rfl) ?_
  refine lv_iload_n hx hb dX3_put_2 rfl (lv_at hl 2 rfl) ?_
  refine g_calli (va_runV (As := [.int g, .int u]) (rest := []) ⟨hx, hb, hml, hown, hts⟩ (ctX3_isPlace l D cs ad I G AN AI AL _ g u) (cwV 2 hts (gi_V gw_587 gw_589 gw_28 gw_57 gw_590) rfl rfl rfl (by decide +kernel) ⟨Nat.le_of_ble_eq_true rfl, Nat.le_of_ble_eq_true rfl⟩) ⟨g_blind, va_recv hK hP (ci := 3) (q0 := 0) rfl (wm_at (by decide) rfl), g_pre hP hK hD hN⟩ rfl rfl hl.1 rfl (lv_room (Nat.le_of_ble_eq_true rfl)) dX3_put_3 ⟨Nat.zero_le _, Nat.zero_le _⟩) hD hS hA (fun r u H locs hw hP hD hS => ?_)
  obtain ⟨rfl, rfl⟩ := hw
  have hP : va_P D vc (wM cs ad (up1 I 0 (if plM I g u then 0 else 1)) G AN AI AL) H := hP
  have hD : va_D A (wM cs ad (up1 I 0 (if plM I g u then 0 else 1)) G AN AI AL) := hD
  refine lv_if_ne (tgt := 11) hx hb dX3_put_6 (by decide) (fun h => ?_) (fun h => ?_)
  · have hpl := bz_t h
    obtain ⟨g', u', rfl, hg, rfl, hu⟩ := plM_spec hn3 h2 hpl
    rw [if_pos hpl] at hP hD
    have hlt : plc (I 1) g' u' < 12 := plc_lt (by omega) hu hn3
    refine lv_aload_n hx hb dX3_put_11 rfl (lv_at hl 0 rfl) ?_
    refine lv_iload_n hx hb dX3_put_12 rfl (lv_at hl 3 rfl) ?_
    refine lv_i2l (v := Int32.toInt64 v) hx hb dX3_put_13 rfl ?_
    refine lv_ldc2 (own := RX3) (v := -9) hx hb hown (hts _ gwK83) dX3_put_14 ?_
    refine lv_ldc2 (own := RX3) (v := 9) hx hb hown (hts _ gwK85) dX3_put_17 ?_
    refine g_calli (va_runS (As := [.long (Int32.toInt64 v), .long (-9), .long 9]) (rest := [.ref (ad 0)]) ⟨hx, hb, hml, hown, hts⟩ (ctX3_in l D cs ad (up1 I 0 0) G AN AI AL _ (Int32.toInt64 v) (-9) 9) (va_cwS 3 hts (gi_S gw_591 gw_592 gw_57 gw_593) rfl rfl rfl (by decide +kernel) ⟨Nat.le_of_ble_eq_true rfl, Nat.le_of_ble_eq_true rfl⟩) ⟨g_blind, g_pre hP hK hD hN⟩ rfl rfl hl.1 rfl (lv_room (Nat.le_of_ble_eq_true rfl)) dX3_put_20 ⟨Nat.zero_le _, Nat.zero_le _⟩) hD hS hA (fun r u H locs hw hP hD hS => ?_)
    obtain ⟨rfl, rfl⟩ := hw
    have hP : va_P D vc (wM cs ad (up1 I 0 0) G AN AI AL) H := hP
    have hD : va_D A (wM cs ad (up1 I 0 0) G AN AI AL) := hD
    refine lv_if_eq (tgt := 30) hx hb dX3_put_23 (by decide) (fun h9 => ?_) (fun h9 => ?_)
    · refine lv_iconst (v := nI 2) hx hb dX3_put_30 (by decide) ?_
      refine b_put (own := RX3) (C := RX3) (T := TX3) (N := 23) (ci := 3) (v := .int (nI 2)) hx hb hts usX3 tyX3 tyX3_ok nmX3 hown hK hP hD hS 0 (by decide) rfl rfl 0 (by decide) (hts _ gw_504) rfl rfl rfl (Nat.le_of_ble_eq_true rfl) dX3_put_31 sM_I0 (fun H locs hP hD hS => ?_)
      refine lv_aload_n hx hb dX3_put_34 rfl (lv_at hl 0 rfl) ?_
      refine b_get (own := RX3) (C := RX3) (T := TX3) (N := 23) (ci := 3) (v := .int (nI 2)) hx hb hts usX3 hown hK hP 0 (by decide) rfl rfl 0 (by decide) (hts _ gw_504) rfl dX3_put_35 ?_
      rw [up1_1] at hP hD
      refine lv_if_le (tgt := 43) hx hb dX3_put_38 (by decide) (fun q => absurd q (by decide)) (fun _ => ?_)
      refine lv_iconst (v := nI 0) hx hb dX3_put_41 (by decide) ?_
      have hv0 : ¬ inV v = true := by rw [show inV v = false from bz_1.mp h9]; decide
      exact g_zret hx hb hr hlocks rfl (up1 I 0 2, G, AN, AI, AL) (⟨((if_pos hpl).trans (if_neg hv0)).symm, ((if_pos hpl).trans (if_neg hv0)).symm⟩) hK hP hD hS dX3_put_42
    · refine lv_iconst (v := nI 0) hx hb dX3_put_26 (by decide) ?_
      refine lv_goto (tgt := 31) hx hb dX3_put_27 (by decide) ?_
      refine b_put (own := RX3) (C := RX3) (T := TX3) (N := 23) (ci := 3) (v := .int (nI 0)) hx hb hts usX3 tyX3 tyX3_ok nmX3 hown hK hP hD hS 0 (by decide) rfl rfl 0 (by decide) (hts _ gw_504) rfl rfl rfl (Nat.le_of_ble_eq_true rfl) dX3_put_31 sM_I0 (fun H locs hP hD hS => ?_)
      refine lv_aload_n hx hb dX3_put_34 rfl (lv_at hl 0 rfl) ?_
      refine b_get (own := RX3) (C := RX3) (T := TX3) (N := 23) (ci := 3) (v := .int (nI 0)) hx hb hts usX3 hown hK hP 0 (by decide) rfl rfl 0 (by decide) (hts _ gw_504) rfl dX3_put_35 ?_
      rw [up1_1] at hP hD
      have hv : inV v = true := bz_t h9
      refine lv_if_le (tgt := 43) hx hb dX3_put_38 (by decide) (fun _ => ?_) (fun q => absurd (by decide) q)
      refine lv_aload_n hx hb dX3_put_43 rfl (lv_at hl 0 rfl) ?_
      refine b_get (own := RX3) (C := RX3) (T := TX3) (N := 23) (ci := 3) (v := .ref (ad 1)) hx hb hts usX3 hown hK hP 0 (by decide) rfl rfl 3 (by decide) (hts _ gw_507) rfl dX3_put_44 ?_
      refine lv_aload_n hx hb dX3_put_47 rfl (lv_at hl 0 rfl) ?_
      refine lv_iload_n hx hb dX3_put_48 rfl (lv_at hl 1 rfl) ?_
      refine lv_iload_n hx hb dX3_put_49 rfl (lv_at hl 2 rfl) ?_
      refine g_calli (va_runV (As := [.int (nI g'), .int (nI u')]) (rest := [.ref (ad 1)]) ⟨hx, hb, hml, hown, hts⟩ (ctX3_place l D cs ad (up1 I 0 0) G AN AI AL _ g' u' hn3 (by omega)) (cwV 2 hts (gi_V gw_596 gw_598 gw_29 gw_57 gw_599) rfl rfl rfl (by decide +kernel) ⟨Nat.le_of_ble_eq_true rfl, Nat.le_of_ble_eq_true rfl⟩) ⟨g_blind, va_recv hK hP (ci := 3) (q0 := 0) rfl (wm_at (by decide) rfl), g_pre hP hK hD hN⟩ rfl rfl hl.1 rfl (lv_room (Nat.le_of_ble_eq_true rfl)) dX3_put_50 ⟨Nat.zero_le _, Nat.zero_le _⟩) hD hS hA (fun r u H locs hw hP hD hS => ?_)
      obtain ⟨rfl, rfl⟩ := hw
      have hP : va_P D vc (wM cs ad (up1 I 0 0) G AN AI AL) H := hP
      have hD : va_D A (wM cs ad (up1 I 0 0) G AN AI AL) := hD
      refine b_iald hx hb hK hP 1 0 (by decide) rfl rfl (hlt) (by decide) dX3_put_53 ?_
      refine lv_iload_n hx hb dX3_put_54 rfl (lv_at hl 3 rfl) ?_
      refine lv_icmp_eq (tgt := 62) hx hb dX3_put_55 (by decide) (fun h4 => ?_) (fun h4 => ?_)
      · refine lv_iconst (v := nI 0) hx hb dX3_put_62 (by decide) ?_
        refine lv_istore (lv' := [(4, .int (nI 0)), (0, .ref (ad 0)), (1, .int (nI g')), (2, .int (nI u')), (3, .int v)]) hx hb dX3_put_63 hl (by decide) rfl (fun ls hl => ?_)
        refine lv_aload_n hx hb dX3_put_65 rfl (lv_at hl 1 rfl) ?_
        refine b_get (own := RX3) (C := RX3) (T := TX3) (N := 23) (ci := 3) (v := .ref (ad 1)) hx hb hts usX3 hown hK hP 0 (by decide) rfl rfl 3 (by decide) (hts _ gw_507) rfl dX3_put_66 ?_
        refine lv_aload_n hx hb dX3_put_69 rfl (lv_at hl 1 rfl) ?_
        refine lv_iload_n hx hb dX3_put_70 rfl (lv_at hl 2 rfl) ?_
        refine lv_iload_n hx hb dX3_put_71 rfl (lv_at hl 3 rfl) ?_
        refine g_calli (va_runV (As := [.int (nI g'), .int (nI u')]) (rest := [.ref (ad 1)]) ⟨hx, hb, hml, hown, hts⟩ (ctX3_place l D cs ad (up1 I 0 0) G AN AI AL _ g' u' hn3 (by omega)) (cwV 2 hts (gi_V gw_596 gw_598 gw_29 gw_57 gw_599) rfl rfl rfl (by decide +kernel) ⟨Nat.le_of_ble_eq_true rfl, Nat.le_of_ble_eq_true rfl⟩) ⟨g_blind, va_recv hK hP (ci := 3) (q0 := 0) rfl (wm_at (by decide) rfl), g_pre hP hK hD hN⟩ rfl rfl hl.1 rfl (lv_room (Nat.le_of_ble_eq_true rfl)) dX3_put_72 ⟨Nat.zero_le _, Nat.zero_le _⟩) hD hS hA (fun r u H locs hw hP hD hS => ?_)
        obtain ⟨rfl, rfl⟩ := hw
        have hP : va_P D vc (wM cs ad (up1 I 0 0) G AN AI AL) H := hP
        have hD : va_D A (wM cs ad (up1 I 0 0) G AN AI AL) := hD
        refine lv_iload_n hx hb dX3_put_75 rfl (lv_at hl 4 rfl) ?_
        refine b_iast hx hb hK hP hD hS 1 0 (by decide) rfl rfl (hlt) (by decide) dX3_put_76 sM_C (fun H locs hP hD hS => ?_)
        refine lv_iload hx hb dX3_put_77 (lv_at hl 0 rfl) ?_
        exact g_zret hx hb hr hlocks rfl (up1 I 0 0, G, AN, up1 AI (plc (I 1) g' u') v, AL) (by unfold puM puR atM; rw [if_pos hpl, if_pos hpl, if_pos hv, if_pos hv, nI_cl (show g' < 2 ^ 31 by omega), nI_cl (show u' < 2 ^ 31 by omega), decide_eq_false (show ¬ (AI (plc (I 1) g' u') ≠ v) from fun z => z h4)]; exact ⟨rfl, rfl⟩) hK hP hD hS dX3_put_79
      · refine lv_iconst (v := nI 1) hx hb dX3_put_58 (by decide) ?_
        refine lv_goto (tgt := 63) hx hb dX3_put_59 (by decide) ?_
        refine lv_istore (lv' := [(4, .int (nI 1)), (0, .ref (ad 0)), (1, .int (nI g')), (2, .int (nI u')), (3, .int v)]) hx hb dX3_put_63 hl (by decide) rfl (fun ls hl => ?_)
        refine lv_aload_n hx hb dX3_put_65 rfl (lv_at hl 1 rfl) ?_
        refine b_get (own := RX3) (C := RX3) (T := TX3) (N := 23) (ci := 3) (v := .ref (ad 1)) hx hb hts usX3 hown hK hP 0 (by decide) rfl rfl 3 (by decide) (hts _ gw_507) rfl dX3_put_66 ?_
        refine lv_aload_n hx hb dX3_put_69 rfl (lv_at hl 1 rfl) ?_
        refine lv_iload_n hx hb dX3_put_70 rfl (lv_at hl 2 rfl) ?_
        refine lv_iload_n hx hb dX3_put_71 rfl (lv_at hl 3 rfl) ?_
        refine g_calli (va_runV (As := [.int (nI g'), .int (nI u')]) (rest := [.ref (ad 1)]) ⟨hx, hb, hml, hown, hts⟩ (ctX3_place l D cs ad (up1 I 0 0) G AN AI AL _ g' u' hn3 (by omega)) (cwV 2 hts (gi_V gw_596 gw_598 gw_29 gw_57 gw_599) rfl rfl rfl (by decide +kernel) ⟨Nat.le_of_ble_eq_true rfl, Nat.le_of_ble_eq_true rfl⟩) ⟨g_blind, va_recv hK hP (ci := 3) (q0 := 0) rfl (wm_at (by decide) rfl), g_pre hP hK hD hN⟩ rfl rfl hl.1 rfl (lv_room (Nat.le_of_ble_eq_true rfl)) dX3_put_72 ⟨Nat.zero_le _, Nat.zero_le _⟩) hD hS hA (fun r u H locs hw hP hD hS => ?_)
        obtain ⟨rfl, rfl⟩ := hw
        have hP : va_P D vc (wM cs ad (up1 I 0 0) G AN AI AL) H := hP
        have hD : va_D A (wM cs ad (up1 I 0 0) G AN AI AL) := hD
        refine lv_iload_n hx hb dX3_put_75 rfl (lv_at hl 4 rfl) ?_
        refine b_iast hx hb hK hP hD hS 1 0 (by decide) rfl rfl (hlt) (by decide) dX3_put_76 sM_C (fun H locs hP hD hS => ?_)
        refine lv_iload hx hb dX3_put_77 (lv_at hl 0 rfl) ?_
        exact g_zret hx hb hr hlocks rfl (up1 I 0 0, G, AN, up1 AI (plc (I 1) g' u') v, AL) (by unfold puM puR atM; rw [if_pos hpl, if_pos hpl, if_pos hv, if_pos hv, nI_cl (show g' < 2 ^ 31 by omega), nI_cl (show u' < 2 ^ 31 by omega), decide_eq_true (show AI (plc (I 1) g' u') ≠ v from h4)]; exact ⟨rfl, rfl⟩) hK hP hD hS dX3_put_79
  · rw [if_neg (by rw [bz_1.mp h]; decide)] at hP hD
    refine lv_iconst (v := nI 0) hx hb dX3_put_9 (by decide) ?_
    exact g_zret hx hb hr hlocks rfl (up1 I 0 1, G, AN, AI, AL) (⟨(if_neg (by rw [bz_1.mp h]; decide)).symm, (if_neg (by rw [bz_1.mp h]; decide)).symm⟩) hK hP hD hS dX3_put_10

def sq1 (k r e : Nat) (AN : Nat → Nat → Nat) (AI : Nat → Int32) (AL : Nat → Nat → Int64) : Nat → Nat → Int64 := if r < k then fo (fun c X => up2 X 5 (3 * r + c) (Int32.toInt64 (AI (4 * e + AN 2 c)))) k 0 AL else AL
def srow (k st : Nat) (AI : Nat → Int32) (e : Nat) (x : Nat × (Nat → Nat → Nat) × (Nat → Nat → Int64)) : Nat × (Nat → Nat → Nat) × (Nat → Nat → Int64) :=
  if (st / 2 ^ e) % 2 = 0 then x else (x.1 + 1, if x.1 < 3 then up2 x.2.1 3 x.1 e else x.2.1, sq1 k x.1 e x.2.1 AI x.2.2)
theorem srow_0 {k st e : Nat} {AI : Nat → Int32} {x : Nat × (Nat → Nat → Nat) × (Nat → Nat → Int64)} (h : (st / 2 ^ e) % 2 = 0) : srow k st AI e x = x := if_pos h
theorem srow_1 {k st e : Nat} {AI : Nat → Int32} {x : Nat × (Nat → Nat → Nat) × (Nat → Nat → Int64)} (h : ¬ (st / 2 ^ e) % 2 = 0) : srow k st AI e x = (x.1 + 1, if x.1 < 3 then up2 x.2.1 3 x.1 e else x.2.1, sq1 k x.1 e x.2.1 AI x.2.2) := if_neg h
/-- the sets of rows from st on: whether one stands, and what lines and square hold -/
def stnd (m k : Nat) (AI : Nat → Int32) : Nat → Nat → (Nat → Nat → Nat) → (Nat → Nat → Int64) → Bool × (Nat → Nat → Nat) × (Nat → Nat → Int64)
  | 0, _, AN, AL => (false, AN, AL)
  | c + 1, st, AN, AL =>
    if (fo (srow k st AI) m 0 (0, AN, AL)).1 = k ∧ ¬ det k ((fo (srow k st AI) m 0 (0, AN, AL)).2.2 5) = 0 then (true, (fo (srow k st AI) m 0 (0, AN, AL)).2.1, (fo (srow k st AI) m 0 (0, AN, AL)).2.2)
    else stnd m k AI c (st + 1) (fo (srow k st AI) m 0 (0, AN, AL)).2.1 (fo (srow k st AI) m 0 (0, AN, AL)).2.2
theorem stnd_s {m k c st : Nat} {AI : Nat → Int32} {AN : Nat → Nat → Nat} {AL : Nat → Nat → Int64} : stnd m k AI (c + 1) st AN AL = if (fo (srow k st AI) m 0 (0, AN, AL)).1 = k ∧ ¬ det k ((fo (srow k st AI) m 0 (0, AN, AL)).2.2 5) = 0 then (true, (fo (srow k st AI) m 0 (0, AN, AL)).2.1, (fo (srow k st AI) m 0 (0, AN, AL)).2.2) else stnd m k AI c (st + 1) (fo (srow k st AI) m 0 (0, AN, AL)).2.1 (fo (srow k st AI) m 0 (0, AN, AL)).2.2 := rfl
def stdM (m k : Nat) (AI : Nat → Int32) (AN : Nat → Nat → Nat) (AL : Nat → Nat → Int64) : Bool × (Nat → Nat → Nat) × (Nat → Nat → Int64) := stnd m k AI (2 ^ m) 0 AN AL
theorem shl1 {m : Nat} (h : m ≤ 3) : nI 1 <<< (nI m &&& 31) = nI (2 ^ m) := by
  have : m = 0 ∨ m = 1 ∨ m = 2 ∨ m = 3 := by omega
  rcases this with rfl | rfl | rfl | rfl <;> decide
theorem bit9 {st e : Nat} (h : st < 8) (he : e < 3) : (nI st >>> (nI e &&& 31)) &&& nI 1 = nI ((st / 2 ^ e) % 2) := by
  have h1 : st = 0 ∨ st = 1 ∨ st = 2 ∨ st = 3 ∨ st = 4 ∨ st = 5 ∨ st = 6 ∨ st = 7 := by omega
  have h2 : e = 0 ∨ e = 1 ∨ e = 2 := by omega
  rcases h2 with rfl | rfl | rfl <;> rcases h1 with rfl | rfl | rfl | rfl | rfl | rfl | rfl | rfl <;> decide
theorem pw3 {m : Nat} (h : m ≤ 3) : 2 ^ m ≤ 8 := by
  have : m = 0 ∨ m = 1 ∨ m = 2 ∨ m = 3 := by omega
  rcases this with rfl | rfl | rfl | rfl <;> decide

abbrev rmX3_stands : Room := { frames := 1, cells := 0, slots := 0, locals := 22 }
set_option maxHeartbeats 4000000 in
set_option maxRecDepth 100000 in
theorem ctX3_stands (l : Launch) (D : va_G) (cs : Nat → ClassId) (ad : Nat → Nat) (I : Nat → Nat) (G : Nat → Int64) (AN : Nat → Nat → Nat) (AI : Nat → Int32) (AL : Nat → Nat → Int64) (sz : Nat) (k : Nat) (hk : k ≤ 3) (h2 : I 2 ≤ 3) (hcol : ∀ c, c < 3 → AN 2 c < 3) : Met l yX3_stands (Cond.code yX3_stands cX3_stands 6 (some FieldType.boolean) :: GW) rmX3_stands (va_Pc [.ref (ad 0), .int (nI k)] (gP D cs (wM cs ad I G AN AI AL) sz)) (va_Qi (fun (r : Int32) (u : MS) => u = (I, G, (stdM (I 2) k AI AN AL).2.1, AI, (stdM (I 2) k AI AN AL).2.2) ∧ r = bz (stdM (I 2) k AI AN AL).1) (gB D cs (va_A (wM cs ad I G AN AI AL) sz) (wMs cs ad)) (va_A (wM cs ad I G AN AI AL) sz)) 0 0 (va_A (wM cs ad I G AN AI AL) sz) := by
  refine Met.ofW (cc := cX3_stands) (maxL := 6) (ret := (some FieldType.boolean)) (by decide) rfl ?_
  intro p e s m args below meth c s₁ B hml hv
  obtain ⟨rfl, hsz, hP, hK, hD0, hN⟩ := hv
  have hx := B.exec
  have hb := B.bytes
  have hr := B.returns
  have hts : ∀ w ∈ GW, w.before _ s = true := fun w h => atoms_spec (ws := Cond.code yX3_stands cX3_stands 6 (some FieldType.boolean) :: GW) B.pre w (List.mem_cons_of_mem _ h)
  have hown : s.vm.findClass RX3 = some m.cls := findClass_of_methodNamed B.named
  have hlocks := B.notSynchronized
  subst hsz
  have hD := hD0.self (sz := s.heap.size)
  generalize hAe : va_A (wM cs ad I G AN AI AL) s.heap.size = A at hD ⊢
  have hA : ∀ q : Nat, s.heap.size ≤ q → A q := fun q h => by rw [← hAe]; exact Or.inr h
  have hS : va_S A s.heap s.heap [] := va_S.rf
  have hl := lv_entry [.ref (ad 0), .int (nI k)] (n := 6) (Nat.le_of_ble_eq_true rfl)
  rw [lg_entry_eq]
  generalize (lg_sl [.ref (ad 0), .int (nI k)] ++ List.replicate (6 - (lg_sl [.ref (ad 0), .int (nI k)]).length) Slot.unset).toArray = ls at hl ⊢
  have hl : lv_has ls 6 [(0, .ref (ad 0)), (1, .int (nI k))] := hl
  generalize hargs : ([.ref (ad 0), .int (nI k)] : List Value).toArray = args at *
  show W p l e rmX3_stands s m args below meth c s.heap [] 0 0 _ (F0 m 0 ls [])
  refine lv_iconst (v := nI 0) hx hb dX3_stands_0 (by decide) ?_
  refine lv_istore_n (lv' := [(2, .int (nI 0)), (0, .ref (ad 0)), (1, .int (nI k))]) hx hb dX3_stands_1 rfl hl (by decide) rfl (fun ls hl => ?_)
  have hp8 := pw3 h2
  have lp17 : ∀ (Q : State → Prop) (st : Nat), st < 8 → ∀ (n g r : Nat) (AN : Nat → Nat → Nat) (AL : Nat → Nat → Int64) (H : Heap) (locs : List Loc) (ls : Array Slot), g + n = I 2 → r ≤ g → (∀ c, c < 3 → AN 2 c < 3) → va_P D vc (wM cs ad I G AN AI AL) H → va_D A (wM cs ad I G AN AI AL) → va_S A s.heap H locs → lv_has ls 6 [(4, .int (nI g)), (3, .int (nI r)), (2, .int (nI st)), (0, .ref (ad 0)), (1, .int (nI k))] → (∀ (H : Heap) (locs : List Loc) (ls : Array Slot) (r' : Nat) (AN' : Nat → Nat → Nat) (AL' : Nat → Nat → Int64), (r', AN', AL') = fo (srow k st AI) n g (r, AN, AL) → r' ≤ 3 → (∀ c, c < 3 → AN' 2 c < 3) → va_P D vc (wM cs ad I G AN' AI AL') H → va_D A (wM cs ad I G AN' AI AL') → va_S A s.heap H locs → lv_has ls 6 [(3, .int (nI r')), (2, .int (nI st)), (0, .ref (ad 0)), (1, .int (nI k))] → W p l e rmX3_stands s m args below meth c H locs 0 0 Q (F0 m 109 ls [])) → W p l e rmX3_stands s m args below meth c H locs 0 0 Q (F0 m 17 ls []) := by
    intro Q st hst n
    induction n with
    | zero =>
      intro g r AN AL H locs ls hn hrg hcol hP hD hS hl kx
      refine lv_iload hx hb dX3_stands_17 (lv_at hl 0 rfl) ?_
      refine lv_aload_n hx hb dX3_stands_19 rfl (lv_at hl 3 rfl) ?_
      refine b_get (own := RX3) (C := RX3) (T := TX3) (N := 23) (ci := 3) (v := .int (nI (I 2))) hx hb hts usX3 hown hK hP 0 (by decide) rfl rfl 2 (by decide) (hts _ gw_506) rfl dX3_stands_20 ?_
      refine b_ge_t (tgt := 109) hx hb dX3_stands_23 (by decide) (by omega) (by omega) ?_
      exact kx H locs ls r AN AL rfl (by omega) hcol hP hD hS (lv_sub hl [1, 2, 3, 4] rfl)
    | succ n ih =>
      intro g r AN AL H locs ls hn hrg hcol hP hD hS hl kx
      refine lv_iload hx hb dX3_stands_17 (lv_at hl 0 rfl) ?_
      refine lv_aload_n hx hb dX3_stands_19 rfl (lv_at hl 3 rfl) ?_
      refine b_get (own := RX3) (C := RX3) (T := TX3) (N := 23) (ci := 3) (v := .int (nI (I 2))) hx hb hts usX3 hown hK hP 0 (by decide) rfl rfl 2 (by decide) (hts _ gw_506) rfl dX3_stands_20 ?_
      refine b_ge_f (tgt := 109) hx hb dX3_stands_23 (by decide) (by omega) (by omega) ?_
      refine lv_iload_n hx hb dX3_stands_26 rfl (lv_at hl 2 rfl) ?_
      refine lv_iload hx hb dX3_stands_27 (lv_at hl 0 rfl) ?_
      refine lv_ishr hx hb dX3_stands_29 ?_
      refine lv_iconst (v := nI 1) hx hb dX3_stands_30 (by decide) ?_
      refine lv_iand hx hb dX3_stands_31 ?_
      rw [bit9 hst (by omega)]
      by_cases hb0 : (st / 2 ^ g) % 2 = 0
      · refine lv_if_ne (tgt := 38) hx hb dX3_stands_32 (by decide) (fun q => absurd (by rw [hb0]; rfl) q) (fun _ => ?_)
        refine lv_goto (tgt := 103) hx hb dX3_stands_35 (by decide) ?_
        refine b_iinc (lv' := [(4, .int (nI (g + 1))), (3, .int (nI r)), (2, .int (nI st)), (0, .ref (ad 0)), (1, .int (nI k))]) hx hb dX3_stands_103 hl (k := 0) rfl (by decide) rfl (fun ls hl => ?_)
        refine lv_goto (tgt := 17) hx hb dX3_stands_106 (by decide) ?_
        rw [fo_s, srow_0 hb0] at kx
        exact ih (g + 1) r AN AL H locs ls (by omega) (by omega) hcol hP hD hS (lv_sub hl [0, 1, 2, 3, 4] rfl) kx
      · refine lv_if_ne (tgt := 38) hx hb dX3_stands_32 (by decide) (fun _ => ?_) (fun q => absurd q (nI_ne0 (by omega) (by omega)))
        rw [fo_s, srow_1 hb0] at kx
        refine lv_iconst (v := nI 0) hx hb dX3_stands_38 (by decide) ?_
        refine lv_istore (lv' := [(5, .int (nI 0)), (4, .int (nI g)), (3, .int (nI r)), (2, .int (nI st)), (0, .ref (ad 0)), (1, .int (nI k))]) hx hb dX3_stands_39 hl (by decide) rfl (fun ls hl => ?_)
        by_cases hrk : r < k
        · have lp41 : ∀ (Q : State → Prop) (n c9 : Nat) (X : Nat → Nat → Int64) (H : Heap) (locs : List Loc) (ls : Array Slot), c9 + n = k → va_P D vc (wM cs ad I G AN AI X) H → va_D A (wM cs ad I G AN AI X) → va_S A s.heap H locs → lv_has ls 6 [(5, .int (nI c9)), (4, .int (nI g)), (3, .int (nI r)), (2, .int (nI st)), (0, .ref (ad 0)), (1, .int (nI k))] → (∀ (H : Heap) (locs : List Loc) (ls : Array Slot), va_P D vc (wM cs ad I G AN AI (fo (fun c X => up2 X 5 (3 * r + c) (Int32.toInt64 (AI (4 * g + AN 2 c)))) n c9 X)) H → va_D A (wM cs ad I G AN AI (fo (fun c X => up2 X 5 (3 * r + c) (Int32.toInt64 (AI (4 * g + AN 2 c)))) n c9 X)) → va_S A s.heap H locs → lv_has ls 6 [(5, .int (nI k)), (4, .int (nI g)), (3, .int (nI r)), (2, .int (nI st)), (0, .ref (ad 0)), (1, .int (nI k))] → W p l e rmX3_stands s m args below meth c H locs 0 0 Q (F0 m 87 ls [])) → W p l e rmX3_stands s m args below meth c H locs 0 0 Q (F0 m 41 ls []) := by
            intro Q n
            induction n with
            | zero =>
              intro c9 X H locs ls hn hP hD hS hl kx
              have hi : c9 = k := by omega
              refine lv_iload hx hb dX3_stands_41 (lv_at hl 0 rfl) ?_
              refine lv_iload_n hx hb dX3_stands_43 rfl (lv_at hl 5 rfl) ?_
              refine b_ge_t (tgt := 87) hx hb dX3_stands_44 (by decide) (by omega) (by omega) ?_
              rw [hi] at hl
              exact kx H locs ls hP hD hS (lv_sub hl [0, 1, 2, 3, 4, 5] rfl)
            | succ n ih =>
              intro c9 X H locs ls hn hP hD hS hl kx
              have hi : c9 < k := by omega
              refine lv_iload hx hb dX3_stands_41 (lv_at hl 0 rfl) ?_
              refine lv_iload_n hx hb dX3_stands_43 rfl (lv_at hl 5 rfl) ?_
              refine b_ge_f (tgt := 87) hx hb dX3_stands_44 (by decide) (by omega) (by omega) ?_
              refine lv_iload_n hx hb dX3_stands_47 rfl (lv_at hl 2 rfl) ?_
              refine lv_iload_n hx hb dX3_stands_48 rfl (lv_at hl 5 rfl) ?_
              refine b_ge_f (tgt := 87) hx hb dX3_stands_49 (by decide) (hrk) (by omega) ?_
              have hc3 := hcol c9 (by omega)
              refine lv_aload_n hx hb dX3_stands_52 rfl (lv_at hl 4 rfl) ?_
              refine b_get (own := RX3) (C := RX3) (T := TX3) (N := 23) (ci := 3) (v := .ref (ad 5)) hx hb hts usX3 hown hK hP 0 (by decide) rfl rfl 8 (by decide) (hts _ gw_512) rfl dX3_stands_53 ?_
              refine lv_iconst (v := nI 3) hx hb dX3_stands_56 (by decide) ?_
              refine lv_iload_n hx hb dX3_stands_57 rfl (lv_at hl 2 rfl) ?_
              refine b_muln hx hb dX3_stands_58 ?_
              refine lv_iload hx hb dX3_stands_59 (lv_at hl 0 rfl) ?_
              refine b_addn hx hb dX3_stands_61 ?_
              refine lv_aload_n hx hb dX3_stands_62 rfl (lv_at hl 4 rfl) ?_
              refine b_get (own := RX3) (C := RX3) (T := TX3) (N := 23) (ci := 3) (v := .ref (ad 1)) hx hb hts usX3 hown hK hP 0 (by decide) rfl rfl 3 (by decide) (hts _ gw_507) rfl dX3_stands_63 ?_
              refine lv_iconst (v := nI 4) hx hb dX3_stands_66 (by decide) ?_
              refine lv_iload hx hb dX3_stands_67 (lv_at hl 1 rfl) ?_
              refine b_muln hx hb dX3_stands_69 ?_
              refine lv_aload_n hx hb dX3_stands_70 rfl (lv_at hl 4 rfl) ?_
              refine b_get (own := RX3) (C := RX3) (T := TX3) (N := 23) (ci := 3) (v := .ref (ad 2)) hx hb hts usX3 hown hK hP 0 (by decide) rfl rfl 5 (by decide) (hts _ gw_509) rfl dX3_stands_71 ?_
              refine lv_iload hx hb dX3_stands_74 (lv_at hl 0 rfl) ?_
              refine b_iald hx hb hK hP 2 0 (by decide) rfl rfl (by omega) (by decide) dX3_stands_76 ?_
              refine b_addn hx hb dX3_stands_77 ?_
              refine b_iald hx hb hK hP 1 0 (by decide) rfl rfl (by omega) (by decide) dX3_stands_78 ?_
              refine lv_i2l (v := Int32.toInt64 (AI ((4 * g) + (AN 2 c9)))) hx hb dX3_stands_79 rfl ?_
              refine b_last hx hb hK hP hD hS 5 1 (by decide) rfl rfl (by omega) (by decide) dX3_stands_80 sM_L5 (fun H locs hP hD hS => ?_)
              refine b_iinc (lv' := [(5, .int (nI (c9 + 1))), (4, .int (nI g)), (3, .int (nI r)), (2, .int (nI st)), (0, .ref (ad 0)), (1, .int (nI k))]) hx hb dX3_stands_81 hl (k := 0) rfl (by decide) rfl (fun ls hl => ?_)
              refine lv_goto (tgt := 41) hx hb dX3_stands_84 (by decide) ?_
              exact ih (c9 + 1) _ H locs ls (by omega) hP hD hS (lv_sub hl [0, 1, 2, 3, 4, 5] rfl) kx
          refine lp41 _ (k) 0 AL _ _ ls (by omega) hP hD hS (lv_sub hl [0, 1, 2, 3, 4, 5] rfl) (fun H locs ls hP hD hS hl => ?_)
          rw [show fo (fun c X => up2 X 5 (3 * r + c) (Int32.toInt64 (AI (4 * g + AN 2 c)))) (k) 0 AL = sq1 k r g AN AI AL from (if_pos hrk).symm] at hP hD
          refine lv_iload_n hx hb dX3_stands_87 rfl (lv_at hl 2 rfl) ?_
          refine lv_iconst (v := nI 3) hx hb dX3_stands_88 (by decide) ?_
          refine b_ge_f (tgt := 100) hx hb dX3_stands_89 (by decide) (by omega) (by omega) ?_
          refine lv_aload_n hx hb dX3_stands_92 rfl (lv_at hl 4 rfl) ?_
          refine b_get (own := RX3) (C := RX3) (T := TX3) (N := 23) (ci := 3) (v := .ref (ad 3)) hx hb hts usX3 hown hK hP 0 (by decide) rfl rfl 6 (by decide) (hts _ gw_510) rfl dX3_stands_93 ?_
          refine lv_iload_n hx hb dX3_stands_96 rfl (lv_at hl 2 rfl) ?_
          refine lv_iload hx hb dX3_stands_97 (lv_at hl 1 rfl) ?_
          refine b_iast hx hb hK hP hD hS 3 0 (by decide) rfl rfl (by omega) (by decide) dX3_stands_99 sM_N3 (fun H locs hP hD hS => ?_)
          refine b_iinc (lv' := [(3, .int (nI (r + 1))), (5, .int (nI k)), (4, .int (nI g)), (2, .int (nI st)), (0, .ref (ad 0)), (1, .int (nI k))]) hx hb dX3_stands_100 hl (k := 2) rfl (by decide) rfl (fun ls hl => ?_)
          refine b_iinc (lv' := [(4, .int (nI (g + 1))), (3, .int (nI (r + 1))), (5, .int (nI k)), (2, .int (nI st)), (0, .ref (ad 0)), (1, .int (nI k))]) hx hb dX3_stands_103 hl (k := 2) rfl (by decide) rfl (fun ls hl => ?_)
          refine lv_goto (tgt := 17) hx hb dX3_stands_106 (by decide) ?_
          rw [if_pos (show r < 3 by omega)] at kx
          have hcol2 : ∀ c, c < 3 → (up2 AN 3 r g) 2 c < 3 := fun c hc => by rw [up2_n (fun z => absurd z.1 (by decide))]; exact hcol c hc
          exact ih (g + 1) (r + 1) _ _ H locs ls (by omega) (by omega) hcol2 hP hD hS (lv_sub hl [0, 1, 3, 4, 5] rfl) kx
        · have e8 : sq1 k r g AN AI AL = AL := if_neg hrk
          rw [← e8] at hP hD
          refine lv_iload hx hb dX3_stands_41 (lv_at hl 0 rfl) ?_
          refine lv_iload_n hx hb dX3_stands_43 rfl (lv_at hl 5 rfl) ?_
          by_cases hk0 : k = 0
          · refine b_ge_t (tgt := 87) hx hb dX3_stands_44 (by decide) (by omega) (by omega) ?_
            refine lv_iload_n hx hb dX3_stands_87 rfl (lv_at hl 2 rfl) ?_
            refine lv_iconst (v := nI 3) hx hb dX3_stands_88 (by decide) ?_
            refine b_ge_f (tgt := 100) hx hb dX3_stands_89 (by decide) (by omega) (by omega) ?_
            refine lv_aload_n hx hb dX3_stands_92 rfl (lv_at hl 4 rfl) ?_
            refine b_get (own := RX3) (C := RX3) (T := TX3) (N := 23) (ci := 3) (v := .ref (ad 3)) hx hb hts usX3 hown hK hP 0 (by decide) rfl rfl 6 (by decide) (hts _ gw_510) rfl dX3_stands_93 ?_
            refine lv_iload_n hx hb dX3_stands_96 rfl (lv_at hl 2 rfl) ?_
            refine lv_iload hx hb dX3_stands_97 (lv_at hl 1 rfl) ?_
            refine b_iast hx hb hK hP hD hS 3 0 (by decide) rfl rfl (by omega) (by decide) dX3_stands_99 sM_N3 (fun H locs hP hD hS => ?_)
            refine b_iinc (lv' := [(3, .int (nI (r + 1))), (5, .int (nI 0)), (4, .int (nI g)), (2, .int (nI st)), (0, .ref (ad 0)), (1, .int (nI k))]) hx hb dX3_stands_100 hl (k := 2) rfl (by decide) rfl (fun ls hl => ?_)
            refine b_iinc (lv' := [(4, .int (nI (g + 1))), (3, .int (nI (r + 1))), (5, .int (nI 0)), (2, .int (nI st)), (0, .ref (ad 0)), (1, .int (nI k))]) hx hb dX3_stands_103 hl (k := 2) rfl (by decide) rfl (fun ls hl => ?_)
            refine lv_goto (tgt := 17) hx hb dX3_stands_106 (by decide) ?_
            rw [if_pos (show r < 3 by omega)] at kx
            have hcol2 : ∀ c, c < 3 → (up2 AN 3 r g) 2 c < 3 := fun c hc => by rw [up2_n (fun z => absurd z.1 (by decide))]; exact hcol c hc
            exact ih (g + 1) (r + 1) _ _ H locs ls (by omega) (by omega) hcol2 hP hD hS (lv_sub hl [0, 1, 3, 4, 5] rfl) kx
          · refine b_ge_f (tgt := 87) hx hb dX3_stands_44 (by decide) (by omega) (by omega) ?_
            refine lv_iload_n hx hb dX3_stands_47 rfl (lv_at hl 2 rfl) ?_
            refine lv_iload_n hx hb dX3_stands_48 rfl (lv_at hl 5 rfl) ?_
            refine b_ge_t (tgt := 87) hx hb dX3_stands_49 (by decide) (by omega) (by omega) ?_
            refine lv_iload_n hx hb dX3_stands_87 rfl (lv_at hl 2 rfl) ?_
            refine lv_iconst (v := nI 3) hx hb dX3_stands_88 (by decide) ?_
            refine b_ge_f (tgt := 100) hx hb dX3_stands_89 (by decide) (by omega) (by omega) ?_
            refine lv_aload_n hx hb dX3_stands_92 rfl (lv_at hl 4 rfl) ?_
            refine b_get (own := RX3) (C := RX3) (T := TX3) (N := 23) (ci := 3) (v := .ref (ad 3)) hx hb hts usX3 hown hK hP 0 (by decide) rfl rfl 6 (by decide) (hts _ gw_510) rfl dX3_stands_93 ?_
            refine lv_iload_n hx hb dX3_stands_96 rfl (lv_at hl 2 rfl) ?_
            refine lv_iload hx hb dX3_stands_97 (lv_at hl 1 rfl) ?_
            refine b_iast hx hb hK hP hD hS 3 0 (by decide) rfl rfl (by omega) (by decide) dX3_stands_99 sM_N3 (fun H locs hP hD hS => ?_)
            refine b_iinc (lv' := [(3, .int (nI (r + 1))), (5, .int (nI 0)), (4, .int (nI g)), (2, .int (nI st)), (0, .ref (ad 0)), (1, .int (nI k))]) hx hb dX3_stands_100 hl (k := 2) rfl (by decide) rfl (fun ls hl => ?_)
            refine b_iinc (lv' := [(4, .int (nI (g + 1))), (3, .int (nI (r + 1))), (5, .int (nI 0)), (2, .int (nI st)), (0, .ref (ad 0)), (1, .int (nI k))]) hx hb dX3_stands_103 hl (k := 2) rfl (by decide) rfl (fun ls hl => ?_)
            refine lv_goto (tgt := 17) hx hb dX3_stands_106 (by decide) ?_
            rw [if_pos (show r < 3 by omega)] at kx
            have hcol2 : ∀ c, c < 3 → (up2 AN 3 r g) 2 c < 3 := fun c hc => by rw [up2_n (fun z => absurd z.1 (by decide))]; exact hcol c hc
            exact ih (g + 1) (r + 1) _ _ H locs ls (by omega) (by omega) hcol2 hP hD hS (lv_sub hl [0, 1, 3, 4, 5] rfl) kx
  have lp2 : ∀ (n st : Nat) (AN : Nat → Nat → Nat) (AL : Nat → Nat → Int64) (H : Heap) (locs : List Loc) (ls : Array Slot), st + n = 2 ^ (I 2) → (∀ c, c < 3 → AN 2 c < 3) → va_P D vc (wM cs ad I G AN AI AL) H → va_D A (wM cs ad I G AN AI AL) → va_S A s.heap H locs → lv_has ls 6 [(2, .int (nI st)), (0, .ref (ad 0)), (1, .int (nI k))] → W p l e rmX3_stands s m args below meth c H locs 0 0 (MQ below (va_Qi (fun (r : Int32) (u : MS) => u = (I, G, (stnd (I 2) k AI n st AN AL).2.1, AI, (stnd (I 2) k AI n st AN AL).2.2) ∧ r = bz (stnd (I 2) k AI n st AN AL).1) (gB D cs A (wMs cs ad)) A) args s 0 0 A) (F0 m 2 ls []) := by
    intro n
    induction n with
    | zero =>
      intro st AN AL H locs ls hn hcol hP hD hS hl
      refine lv_iload_n hx hb dX3_stands_2 rfl (lv_at hl 0 rfl) ?_
      refine lv_iconst (v := nI 1) hx hb dX3_stands_3 (by decide) ?_
      refine lv_aload_n hx hb dX3_stands_4 rfl (lv_at hl 1 rfl) ?_
      refine b_get (own := RX3) (C := RX3) (T := TX3) (N := 23) (ci := 3) (v := .int (nI (I 2))) hx hb hts usX3 hown hK hP 0 (by decide) rfl rfl 2 (by decide) (hts _ gw_506) rfl dX3_stands_5 ?_
      refine lv_ishl hx hb dX3_stands_8 ?_
      rw [shl1 h2]
      refine b_ge_t (tgt := 132) hx hb dX3_stands_9 (by decide) (by omega) (by omega) ?_
      refine lv_iconst (v := nI 0) hx hb dX3_stands_132 (by decide) ?_
      exact g_zret hx hb hr hlocks rfl (I, G, AN, AI, AL) (⟨rfl, rfl⟩) hK hP hD hS dX3_stands_133
    | succ n ih =>
      intro st AN AL H locs ls hn hcol hP hD hS hl
      refine lv_iload_n hx hb dX3_stands_2 rfl (lv_at hl 0 rfl) ?_
      refine lv_iconst (v := nI 1) hx hb dX3_stands_3 (by decide) ?_
      refine lv_aload_n hx hb dX3_stands_4 rfl (lv_at hl 1 rfl) ?_
      refine b_get (own := RX3) (C := RX3) (T := TX3) (N := 23) (ci := 3) (v := .int (nI (I 2))) hx hb hts usX3 hown hK hP 0 (by decide) rfl rfl 2 (by decide) (hts _ gw_506) rfl dX3_stands_5 ?_
      refine lv_ishl hx hb dX3_stands_8 ?_
      rw [shl1 h2]
      refine b_ge_f (tgt := 132) hx hb dX3_stands_9 (by decide) (by omega) (by omega) ?_
      refine lv_iconst (v := nI 0) hx hb dX3_stands_12 (by decide) ?_
      refine lv_istore_n (lv' := [(3, .int (nI 0)), (2, .int (nI st)), (0, .ref (ad 0)), (1, .int (nI k))]) hx hb dX3_stands_13 rfl hl (by decide) rfl (fun ls hl => ?_)
      refine lv_iconst (v := nI 0) hx hb dX3_stands_14 (by decide) ?_
      refine lv_istore (lv' := [(4, .int (nI 0)), (3, .int (nI 0)), (2, .int (nI st)), (0, .ref (ad 0)), (1, .int (nI k))]) hx hb dX3_stands_15 hl (by decide) rfl (fun ls hl => ?_)
      refine lp17 _ st (by omega) (I 2) 0 0 AN AL _ _ ls (by omega) (by omega) hcol hP hD hS (lv_sub hl [0, 1, 2, 3, 4] rfl) (fun H locs ls r' AN' AL' he hr3 hcol hP hD hS hl => ?_)
      have e1 : stnd (I 2) k AI (n + 1) st AN AL = if r' = k ∧ ¬ det k (AL' 5) = 0 then (true, AN', AL') else stnd (I 2) k AI n (st + 1) AN' AL' := by rw [stnd_s, ← he]
      refine lv_iload_n hx hb dX3_stands_109 rfl (lv_at hl 0 rfl) ?_
      refine lv_iload_n hx hb dX3_stands_110 rfl (lv_at hl 3 rfl) ?_
      by_cases hrk : r' = k
      · refine b_ne_f (tgt := 126) hx hb dX3_stands_111 (by decide) (hrk)  ?_
        refine lv_aload_n hx hb dX3_stands_114 rfl (lv_at hl 2 rfl) ?_
        refine lv_iload_n hx hb dX3_stands_115 rfl (lv_at hl 3 rfl) ?_
        refine g_calll (va_runV (As := [.int (nI k)]) (rest := []) ⟨hx, hb, hml, hown, hts⟩ (ctX3_determinant l D cs ad I G AN' AI AL' _ k hk) (cwV 1 hts (gi_V gw_624 gw_626 gw_32 gw_57 gw_627) rfl rfl rfl (by decide +kernel) ⟨Nat.le_of_ble_eq_true rfl, Nat.le_of_ble_eq_true rfl⟩) ⟨g_blind, va_recv hK hP (ci := 3) (q0 := 0) rfl (wm_at (by decide) rfl), g_pre hP hK hD hN⟩ rfl rfl hl.1 rfl (lv_room (Nat.le_of_ble_eq_true rfl)) dX3_stands_116 ⟨Nat.zero_le _, Nat.zero_le _⟩) hD hS hA (fun r u H locs hw hP hD hS => ?_)
        obtain ⟨rfl, rfl⟩ := hw
        have hP : va_P D vc (wM cs ad I G AN' AI AL') H := hP
        have hD : va_D A (wM cs ad I G AN' AI AL') := hD
        refine lv_lconst (v := 0) hx hb dX3_stands_119 (by decide) ?_
        refine b_lceq (tgt := 126) hx hb dX3_stands_120 dX3_stands_121 (by decide) (fun h => ?_) (fun h => ?_)
        · refine b_iinc (lv' := [(2, .int (nI (st + 1))), (3, .int (nI r')), (0, .ref (ad 0)), (1, .int (nI k))]) hx hb dX3_stands_126 hl (k := 1) rfl (by decide) rfl (fun ls hl => ?_)
          refine lv_goto (tgt := 2) hx hb dX3_stands_129 (by decide) ?_
          rw [e1, if_neg (fun z => z.2 h)]
          exact ih (st + 1) AN' AL' H locs ls (by omega) hcol hP hD hS (lv_sub hl [0, 2, 3] rfl)
        · refine lv_iconst (v := nI 1) hx hb dX3_stands_124 (by decide) ?_
          rw [e1, if_pos ⟨hrk, h⟩]
          exact g_zret hx hb hr hlocks rfl (I, G, AN', AI, AL') (⟨rfl, rfl⟩) hK hP hD hS dX3_stands_125
      · refine b_ne_t (tgt := 126) hx hb dX3_stands_111 (by decide) (hrk) (by omega) (by omega) ?_
        refine b_iinc (lv' := [(2, .int (nI (st + 1))), (3, .int (nI r')), (0, .ref (ad 0)), (1, .int (nI k))]) hx hb dX3_stands_126 hl (k := 1) rfl (by decide) rfl (fun ls hl => ?_)
        refine lv_goto (tgt := 2) hx hb dX3_stands_129 (by decide) ?_
        rw [e1, if_neg (fun z => hrk z.1)]
        exact ih (st + 1) AN' AL' H locs ls (by omega) hcol hP hD hS (lv_sub hl [0, 2, 3] rfl)
  exact lp2 (2 ^ (I 2)) 0 AN AL _ _ ls (by omega) hcol hP hD hS (lv_sub hl [0, 1, 2] rfl)
