theorem gwK83 : Cond.constantLong "TriangularSystemsModel" 83 (-9 : Int64) ∈ GW := gw_in 594 (by decide +kernel) (by decide +kernel)
theorem gwK85 : Cond.constantLong "TriangularSystemsModel" 85 (9 : Int64) ∈ GW := gw_in 595 (by decide +kernel) (by decide +kernel)
theorem gwK174 : Cond.constantLong "TriangularSystemsModel" 174 (12 : Int64) ∈ GW := gw_in 743 (by decide +kernel) (by decide +kernel)
def inL (v lo hi : Int64) : Bool := decide (¬ v < lo ∧ ¬ hi < v)
def euT : Nat → Int64 → Int64 → Prop
  | 0, _, s => s = 0
  | n + 1, b, s => s = 0 ∨ euT n s (b - b / s * s)
def aw64 (x : Int64) : Int64 := if x < 0 then -x else x
def dv64 (a b : Int64) : Int64 := eu64 100 (aw64 a) (aw64 b)
/-- the divisor of these two is found -/
def okD (a b : Int64) : Prop := euT 100 (aw64 a) (aw64 b)
def upL (a b : Int64) : Int64 := if b < 0 then -(a / dv64 a b) else a / dv64 a b
def dnL (a b : Int64) : Int64 := if b < 0 then -(b / dv64 a b) else b / dv64 a b
def lowG (G : Nat → Int64) (a b : Int64) : Nat → Int64 := up1 (up1 G 1 (upL a b)) 2 (dnL a b)
def okLow (a b : Int64) : Prop := okD a b ∧ ¬ dv64 a b = 0
def plM (I : Nat → Nat) (g u : Int32) : Bool := inL (Int32.toInt64 g) 0 (Int32.toInt64 (nI (I 2) - nI 1)) && inL (Int32.toInt64 u) 0 (Int32.toInt64 (nI (I 1)))
def plc (n g u : Nat) : Nat := 4 * g + (if u = n then 3 else u)
def det (k : Nat) (q : Nat → Int64) : Int64 :=
  if k = 0 then 1 else if k = 1 then q 0 else if k = 2 then q 0 * q 4 - q 1 * q 3
  else q 0 * (q 4 * q 8 - q 5 * q 7) - q 1 * (q 3 * q 8 - q 5 * q 6) + q 2 * (q 3 * q 7 - q 4 * q 6)

abbrev rmX3_thrown : Room := { frames := 0, cells := 0, slots := 0, locals := 0 }
set_option maxHeartbeats 4000000 in
set_option maxRecDepth 100000 in
theorem ctX3_thrown (l : Launch) (D : va_G) (cs : Nat → ClassId) (ad : Nat → Nat) (I : Nat → Nat) (G : Nat → Int64) (AN : Nat → Nat → Nat) (AI : Nat → Int32) (AL : Nat → Nat → Int64) (sz : Nat)   : Met l yX3_thrown (Cond.code yX3_thrown cX3_thrown 1 (some FieldType.int) :: GW) rmX3_thrown (va_Pc [.ref (ad 0)] (gP D cs (wM cs ad I G AN AI AL) sz)) (va_Qi (fun (r : Int32) (u : MS) => u = (I, G, AN, AI, AL) ∧ r = nI (I 0)) (gB D cs (va_A (wM cs ad I G AN AI AL) sz) (wMs cs ad)) (va_A (wM cs ad I G AN AI AL) sz)) 0 0 (va_A (wM cs ad I G AN AI AL) sz) := by
  refine Met.ofW (cc := cX3_thrown) (maxL := 1) (ret := (some FieldType.int)) (by decide) rfl ?_
  intro p e s m args below meth c s₁ B hml hv
  obtain ⟨rfl, hsz, hP, hK, hD0, hN⟩ := hv
  have hx := B.exec
  have hb := B.bytes
  have hr := B.returns
  have hts : ∀ w ∈ GW, w.before _ s = true := fun w h => atoms_spec (ws := Cond.code yX3_thrown cX3_thrown 1 (some FieldType.int) :: GW) B.pre w (List.mem_cons_of_mem _ h)
  have hown : s.vm.findClass RX3 = some m.cls := findClass_of_methodNamed B.named
  have hlocks := B.notSynchronized
  subst hsz
  have hD := hD0.self (sz := s.heap.size)
  generalize hAe : va_A (wM cs ad I G AN AI AL) s.heap.size = A at hD ⊢
  have hA : ∀ q : Nat, s.heap.size ≤ q → A q := fun q h => by rw [← hAe]; exact Or.inr h
  have hS : va_S A s.heap s.heap [] := va_S.rf
  have hl := lv_entry [.ref (ad 0)] (n := 1) (Nat.le_of_ble_eq_true rfl)
  rw [lg_entry_eq]
  generalize (lg_sl [.ref (ad 0)] ++ List.replicate (1 - (lg_sl [.ref (ad 0)]).length) Slot.unset).toArray = ls at hl ⊢
  have hl : lv_has ls 1 [(0, .ref (ad 0))] := hl
  generalize hargs : ([.ref (ad 0)] : List Value).toArray = args at *
  show W p l e rmX3_thrown s m args below meth c s.heap [] 0 0 _ (F0 m 0 ls [])
  refine lv_aload_n hx hb dX3_thrown_0 rfl (lv_at hl 0 rfl) ?_
  refine b_get (own := RX3) (C := RX3) (T := TX3) (N := 23) (ci := 3) (v := .int (nI (I 0))) hx hb hts usX3 hown hK hP 0 (by decide) rfl rfl 0 (by decide) (hts _ gw_504) rfl dX3_thrown_1 ?_
  exact g_iret hx hb hr hlocks (I, G, AN, AI, AL) (⟨rfl, rfl⟩) hK hP hD hS dX3_thrown_4

abbrev rmX3_raise : Room := { frames := 0, cells := 0, slots := 0, locals := 0 }
set_option maxHeartbeats 4000000 in
set_option maxRecDepth 100000 in
theorem ctX3_raise (l : Launch) (D : va_G) (cs : Nat → ClassId) (ad : Nat → Nat) (I : Nat → Nat) (G : Nat → Int64) (AN : Nat → Nat → Nat) (AI : Nat → Int32) (AL : Nat → Nat → Int64) (sz : Nat) (k : Nat)  : Met l yX3_raise (Cond.code yX3_raise cX3_raise 2 (some FieldType.int) :: GW) rmX3_raise (va_Pc [.ref (ad 0), .int (nI k)] (gP D cs (wM cs ad I G AN AI AL) sz)) (va_Qi (fun (r : Int32) (u : MS) => u = (up1 I 0 k, G, AN, AI, AL) ∧ r = nI 0) (gB D cs (va_A (wM cs ad I G AN AI AL) sz) (wMs cs ad)) (va_A (wM cs ad I G AN AI AL) sz)) 0 0 (va_A (wM cs ad I G AN AI AL) sz) := by
  refine Met.ofW (cc := cX3_raise) (maxL := 2) (ret := (some FieldType.int)) (by decide) rfl ?_
  intro p e s m args below meth c s₁ B hml hv
  obtain ⟨rfl, hsz, hP, hK, hD0, hN⟩ := hv
  have hx := B.exec
  have hb := B.bytes
  have hr := B.returns
  have hts : ∀ w ∈ GW, w.before _ s = true := fun w h => atoms_spec (ws := Cond.code yX3_raise cX3_raise 2 (some FieldType.int) :: GW) B.pre w (List.mem_cons_of_mem _ h)
  have hown : s.vm.findClass RX3 = some m.cls := findClass_of_methodNamed B.named
  have hlocks := B.notSynchronized
  subst hsz
  have hD := hD0.self (sz := s.heap.size)
  generalize hAe : va_A (wM cs ad I G AN AI AL) s.heap.size = A at hD ⊢
  have hA : ∀ q : Nat, s.heap.size ≤ q → A q := fun q h => by rw [← hAe]; exact Or.inr h
  have hS : va_S A s.heap s.heap [] := va_S.rf
  have hl := lv_entry [.ref (ad 0), .int (nI k)] (n := 2) (Nat.le_of_ble_eq_true rfl)
  rw [lg_entry_eq]
  generalize (lg_sl [.ref (ad 0), .int (nI k)] ++ List.replicate (2 - (lg_sl [.ref (ad 0), .int (nI k)]).length) Slot.unset).toArray = ls at hl ⊢
  have hl : lv_has ls 2 [(0, .ref (ad 0)), (1, .int (nI k))] := hl
  generalize hargs : ([.ref (ad 0), .int (nI k)] : List Value).toArray = args at *
  show W p l e rmX3_raise s m args below meth c s.heap [] 0 0 _ (F0 m 0 ls [])
  refine lv_aload_n hx hb dX3_raise_0 rfl (lv_at hl 0 rfl) ?_
  refine lv_iload_n hx hb dX3_raise_1 rfl (lv_at hl 1 rfl) ?_
  refine b_put (own := RX3) (C := RX3) (T := TX3) (N := 23) (ci := 3) (v := .int (nI k)) hx hb hts usX3 tyX3 tyX3_ok nmX3 hown hK hP hD hS 0 (by decide) rfl rfl 0 (by decide) (hts _ gw_504) rfl rfl rfl (Nat.le_of_ble_eq_true rfl) dX3_raise_2 sM_I0 (fun H locs hP hD hS => ?_)
  refine lv_iconst (v := nI 0) hx hb dX3_raise_5 (by decide) ?_
  exact g_iret hx hb hr hlocks (up1 I 0 k, G, AN, AI, AL) (⟨rfl, rfl⟩) hK hP hD hS dX3_raise_6

abbrev rmX3_in : Room := { frames := 0, cells := 0, slots := 0, locals := 0 }
set_option maxHeartbeats 4000000 in
set_option maxRecDepth 100000 in
theorem ctX3_in (l : Launch) (D : va_G) (cs : Nat → ClassId) (ad : Nat → Nat) (I : Nat → Nat) (G : Nat → Int64) (AN : Nat → Nat → Nat) (AI : Nat → Int32) (AL : Nat → Nat → Int64) (sz : Nat) (x y z : Int64)  : Met l yX3_in (Cond.code yX3_in cX3_in 6 (some FieldType.boolean) :: GW) rmX3_in (va_Pc [.long x, .long y, .long z] (gP D cs (wM cs ad I G AN AI AL) sz)) (va_Qi (fun (r : Int32) (u : MS) => u = (I, G, AN, AI, AL) ∧ r = bz (inL x y z)) (gB D cs (va_A (wM cs ad I G AN AI AL) sz) (wMs cs ad)) (va_A (wM cs ad I G AN AI AL) sz)) 0 0 (va_A (wM cs ad I G AN AI AL) sz) := by
  refine Met.ofW (cc := cX3_in) (maxL := 6) (ret := (some FieldType.boolean)) (by decide) rfl ?_
  intro p e s m args below meth c s₁ B hml hv
  obtain ⟨rfl, hsz, hP, hK, hD0, hN⟩ := hv
  have hx := B.exec
  have hb := B.bytes
  have hr := B.returns
  have hts : ∀ w ∈ GW, w.before _ s = true := fun w h => atoms_spec (ws := Cond.code yX3_in cX3_in 6 (some FieldType.boolean) :: GW) B.pre w (List.mem_cons_of_mem _ h)
  have hown : s.vm.findClass RX3 = some m.cls := findClass_of_methodNamed B.named
  have hlocks := B.notSynchronized
  subst hsz
  have hD := hD0.self (sz := s.heap.size)
  generalize hAe : va_A (wM cs ad I G AN AI AL) s.heap.size = A at hD ⊢
  have hA : ∀ q : Nat, s.heap.size ≤ q → A q := fun q h => by rw [← hAe]; exact Or.inr h
  have hS : va_S A s.heap s.heap [] := va_S.rf
  have hl := lv_entry [.long x, .long y, .long z] (n := 6) (Nat.le_of_ble_eq_true rfl)
  rw [lg_entry_eq]
  generalize (lg_sl [.long x, .long y, .long z] ++ List.replicate (6 - (lg_sl [.long x, .long y, .long z]).length) Slot.unset).toArray = ls at hl ⊢
  have hl : lv_has ls 6 [(0, .long x), (2, .long y), (4, .long z)] := hl
  generalize hargs : ([.long x, .long y, .long z] : List Value).toArray = args at *
  show W p l e rmX3_in s m args below meth c s.heap [] 0 0 _ (F0 m 0 ls [])
  refine lv_lload_n hx hb dX3_in_0 rfl (lv_at hl 0 rfl) ?_
  refine lv_lload_n hx hb dX3_in_1 rfl (lv_at hl 1 rfl) ?_
  refine b_lclt (tgt := 17) hx hb dX3_in_2 dX3_in_3 (by decide) (fun h1 => ?_) (fun h1 => ?_)
  · refine lv_iconst (v := nI 0) hx hb dX3_in_17 (by decide) ?_
    exact g_zret hx hb hr hlocks rfl (I, G, AN, AI, AL) (⟨rfl, by unfold inL; rw [decide_eq_false (fun z => z.1 h1)]; rfl⟩) hK hP hD hS dX3_in_18
  · refine lv_lload_n hx hb dX3_in_6 rfl (lv_at hl 0 rfl) ?_
    refine lv_lload hx hb dX3_in_7 (lv_at hl 2 rfl) ?_
    refine b_lcgt (tgt := 17) hx hb dX3_in_9 dX3_in_10 (by decide) (fun h2 => ?_) (fun h2 => ?_)
    · refine lv_iconst (v := nI 0) hx hb dX3_in_17 (by decide) ?_
      exact g_zret hx hb hr hlocks rfl (I, G, AN, AI, AL) (⟨rfl, by unfold inL; rw [decide_eq_false (fun z => z.2 h2)]; rfl⟩) hK hP hD hS dX3_in_18
    · refine lv_iconst (v := nI 1) hx hb dX3_in_13 (by decide) ?_
      refine lv_goto (tgt := 18) hx hb dX3_in_14 (by decide) ?_
      exact g_zret hx hb hr hlocks rfl (I, G, AN, AI, AL) (⟨rfl, by unfold inL; rw [decide_eq_true ⟨h1, h2⟩]; rfl⟩) hK hP hD hS dX3_in_18

abbrev rmX3_divisor : Room := { frames := 0, cells := 0, slots := 0, locals := 0 }
set_option maxHeartbeats 4000000 in
set_option maxRecDepth 100000 in
theorem ctX3_divisor (l : Launch) (D : va_G) (cs : Nat → ClassId) (ad : Nat → Nat) (I : Nat → Nat) (G : Nat → Int64) (AN : Nat → Nat → Nat) (AI : Nat → Int32) (AL : Nat → Nat → Int64) (sz : Nat) (x y : Int64) (hok : okD x y) : Met l yX3_divisor (Cond.code yX3_divisor cX3_divisor 10 (some FieldType.long) :: GW) rmX3_divisor (va_Pc [.long x, .long y] (gP D cs (wM cs ad I G AN AI AL) sz)) (va_Ql (fun (r : Int64) (u : MS) => u = (I, G, AN, AI, AL) ∧ r = dv64 x y) (gB D cs (va_A (wM cs ad I G AN AI AL) sz) (wMs cs ad)) (va_A (wM cs ad I G AN AI AL) sz)) 0 0 (va_A (wM cs ad I G AN AI AL) sz) := by
  refine Met.ofW (cc := cX3_divisor) (maxL := 10) (ret := (some FieldType.long)) (by decide) rfl ?_
  intro p e s m args below meth c s₁ B hml hv
  obtain ⟨rfl, hsz, hP, hK, hD0, hN⟩ := hv
  have hx := B.exec
  have hb := B.bytes
  have hr := B.returns
  have hts : ∀ w ∈ GW, w.before _ s = true := fun w h => atoms_spec (ws := Cond.code yX3_divisor cX3_divisor 10 (some FieldType.long) :: GW) B.pre w (List.mem_cons_of_mem _ h)
  have hown : s.vm.findClass RX3 = some m.cls := findClass_of_methodNamed B.named
  have hlocks := B.notSynchronized
  subst hsz
  have hD := hD0.self (sz := s.heap.size)
  generalize hAe : va_A (wM cs ad I G AN AI AL) s.heap.size = A at hD ⊢
  have hA : ∀ q : Nat, s.heap.size ≤ q → A q := fun q h => by rw [← hAe]; exact Or.inr h
  have hS : va_S A s.heap s.heap [] := va_S.rf
  have hl := lv_entry [.long x, .long y] (n := 10) (Nat.le_of_ble_eq_true rfl)
  rw [lg_entry_eq]
  generalize (lg_sl [.long x, .long y] ++ List.replicate (10 - (lg_sl [.long x, .long y]).length) Slot.unset).toArray = ls at hl ⊢
  have hl : lv_has ls 10 [(0, .long x), (2, .long y)] := hl
  generalize hargs : ([.long x, .long y] : List Value).toArray = args at *
  show W p l e rmX3_divisor s m args below meth c s.heap [] 0 0 _ (F0 m 0 ls [])
  have lpD : ∀ (n : Nat) (bg sm : Int64) (H : Heap) (locs : List Loc) (ls : Array Slot), euT n bg sm → va_P D vc (wM cs ad I G AN AI AL) H → va_D A (wM cs ad I G AN AI AL) → va_S A s.heap H locs → lv_has ls 10 [(4, .long bg), (6, .long sm)] → W p l e rmX3_divisor s m args below meth c H locs 0 0 (MQ below (va_Ql (fun (r : Int64) (u : MS) => u = (I, G, AN, AI, AL) ∧ r = eu64 n bg sm) (gB D cs A (wMs cs ad)) A) args s 0 0 A) (F0 m 28 ls []) := by
    intro n
    induction n with
    | zero =>
      intro bg sm H locs ls hT hP hD hS hl
      refine lv_lload hx hb dX3_divisor_28 (lv_at hl 1 rfl) ?_
      refine lv_lconst (v := 0) hx hb dX3_divisor_30 (by decide) ?_
      refine b_lceq (tgt := 53) hx hb dX3_divisor_31 dX3_divisor_32 (by decide) (fun h => ?_) (fun h => ?_)
      · refine lv_lload hx hb dX3_divisor_53 (lv_at hl 0 rfl) ?_
        exact g_lret hx hb hr hlocks (I, G, AN, AI, AL) (⟨rfl, rfl⟩) hK hP hD hS dX3_divisor_55
      · exact absurd hT h
    | succ n ih =>
      intro bg sm H locs ls hT hP hD hS hl
      refine lv_lload hx hb dX3_divisor_28 (lv_at hl 1 rfl) ?_
      refine lv_lconst (v := 0) hx hb dX3_divisor_30 (by decide) ?_
      refine b_lceq (tgt := 53) hx hb dX3_divisor_31 dX3_divisor_32 (by decide) (fun h => ?_) (fun h => ?_)
      · refine lv_lload hx hb dX3_divisor_53 (lv_at hl 0 rfl) ?_
        exact g_lret hx hb hr hlocks (I, G, AN, AI, AL) (⟨rfl, (if_pos h).symm⟩) hK hP hD hS dX3_divisor_55
      · refine lv_lload hx hb dX3_divisor_35 (lv_at hl 0 rfl) ?_
        refine lv_lload hx hb dX3_divisor_37 (lv_at hl 1 rfl) ?_
        refine lv_lrem hx hb dX3_divisor_39 (h) ?_
        refine lv_lstore (lv' := [(8, .long (bg - bg / sm * sm)), (4, .long bg), (6, .long sm)]) hx hb dX3_divisor_40 hl (by decide) rfl (fun ls hl => ?_)
        refine lv_lload hx hb dX3_divisor_42 (lv_at hl 2 rfl) ?_
        refine lv_lstore (lv' := [(4, .long sm), (8, .long (bg - bg / sm * sm)), (6, .long sm)]) hx hb dX3_divisor_44 hl (by decide) rfl (fun ls hl => ?_)
        refine lv_lload hx hb dX3_divisor_46 (lv_at hl 1 rfl) ?_
        refine lv_lstore (lv' := [(6, .long (bg - bg / sm * sm)), (4, .long sm), (8, .long (bg - bg / sm * sm))]) hx hb dX3_divisor_48 hl (by decide) rfl (fun ls hl => ?_)
        refine lv_goto (tgt := 28) hx hb dX3_divisor_50 (by decide) ?_
        rw [show eu64 (n + 1) bg sm = eu64 n sm (bg - bg / sm * sm) from if_neg h]
        exact ih sm _ H locs ls (hT.resolve_left h) hP hD hS (lv_sub hl [1, 0] rfl)
  refine lv_lload_n hx hb dX3_divisor_0 rfl (lv_at hl 0 rfl) ?_
  refine lv_lconst (v := 0) hx hb dX3_divisor_1 (by decide) ?_
  refine b_lcge (tgt := 11) hx hb dX3_divisor_2 dX3_divisor_3 (by decide) (fun h1 => ?_) (fun h1 => ?_)
  · refine lv_lload_n hx hb dX3_divisor_11 rfl (lv_at hl 0 rfl) ?_
    refine lv_topl (fun y9 e9 => ?_)
    have e9 : y9 = aw64 x := e9.trans (if_neg h1).symm
    subst e9
    refine lv_lstore (lv' := [(4, .long (aw64 x)), (0, .long x), (2, .long y)]) hx hb dX3_divisor_12 hl (by decide) rfl (fun ls hl => ?_)
    refine lv_lload_n hx hb dX3_divisor_14 rfl (lv_at hl 2 rfl) ?_
    refine lv_lconst (v := 0) hx hb dX3_divisor_15 (by decide) ?_
    refine b_lcge (tgt := 25) hx hb dX3_divisor_16 dX3_divisor_17 (by decide) (fun h2 => ?_) (fun h2 => ?_)
    · refine lv_lload_n hx hb dX3_divisor_25 rfl (lv_at hl 2 rfl) ?_
      refine lv_topl (fun y9 e9 => ?_)
      have e9 : y9 = aw64 y := e9.trans (if_neg h2).symm
      subst e9
      refine lv_lstore (lv' := [(6, .long (aw64 y)), (4, .long (aw64 x)), (0, .long x), (2, .long y)]) hx hb dX3_divisor_26 hl (by decide) rfl (fun ls hl => ?_)
      exact lpD 100 (aw64 x) (aw64 y) _ _ ls hok hP hD hS (lv_sub hl [1, 0] rfl)
    · refine lv_lload_n hx hb dX3_divisor_20 rfl (lv_at hl 2 rfl) ?_
      refine lv_lneg hx hb dX3_divisor_21 ?_
      refine lv_goto (tgt := 26) hx hb dX3_divisor_22 (by decide) ?_
      refine lv_topl (fun y9 e9 => ?_)
      have e9 : y9 = aw64 y := e9.trans (if_pos h2).symm
      subst e9
      refine lv_lstore (lv' := [(6, .long (aw64 y)), (4, .long (aw64 x)), (0, .long x), (2, .long y)]) hx hb dX3_divisor_26 hl (by decide) rfl (fun ls hl => ?_)
      exact lpD 100 (aw64 x) (aw64 y) _ _ ls hok hP hD hS (lv_sub hl [1, 0] rfl)
  · refine lv_lload_n hx hb dX3_divisor_6 rfl (lv_at hl 0 rfl) ?_
    refine lv_lneg hx hb dX3_divisor_7 ?_
    refine lv_goto (tgt := 12) hx hb dX3_divisor_8 (by decide) ?_
    refine lv_topl (fun y9 e9 => ?_)
    have e9 : y9 = aw64 x := e9.trans (if_pos h1).symm
    subst e9
    refine lv_lstore (lv' := [(4, .long (aw64 x)), (0, .long x), (2, .long y)]) hx hb dX3_divisor_12 hl (by decide) rfl (fun ls hl => ?_)
    refine lv_lload_n hx hb dX3_divisor_14 rfl (lv_at hl 2 rfl) ?_
    refine lv_lconst (v := 0) hx hb dX3_divisor_15 (by decide) ?_
    refine b_lcge (tgt := 25) hx hb dX3_divisor_16 dX3_divisor_17 (by decide) (fun h2 => ?_) (fun h2 => ?_)
    · refine lv_lload_n hx hb dX3_divisor_25 rfl (lv_at hl 2 rfl) ?_
      refine lv_topl (fun y9 e9 => ?_)
      have e9 : y9 = aw64 y := e9.trans (if_neg h2).symm
      subst e9
      refine lv_lstore (lv' := [(6, .long (aw64 y)), (4, .long (aw64 x)), (0, .long x), (2, .long y)]) hx hb dX3_divisor_26 hl (by decide) rfl (fun ls hl => ?_)
      exact lpD 100 (aw64 x) (aw64 y) _ _ ls hok hP hD hS (lv_sub hl [1, 0] rfl)
    · refine lv_lload_n hx hb dX3_divisor_20 rfl (lv_at hl 2 rfl) ?_
      refine lv_lneg hx hb dX3_divisor_21 ?_
      refine lv_goto (tgt := 26) hx hb dX3_divisor_22 (by decide) ?_
      refine lv_topl (fun y9 e9 => ?_)
      have e9 : y9 = aw64 y := e9.trans (if_pos h2).symm
      subst e9
      refine lv_lstore (lv' := [(6, .long (aw64 y)), (4, .long (aw64 x)), (0, .long x), (2, .long y)]) hx hb dX3_divisor_26 hl (by decide) rfl (fun ls hl => ?_)
      exact lpD 100 (aw64 x) (aw64 y) _ _ ls hok hP hD hS (lv_sub hl [1, 0] rfl)

abbrev rmX3_lowest : Room := { frames := 1, cells := 0, slots := 0, locals := 29 }
set_option maxHeartbeats 4000000 in
set_option maxRecDepth 100000 in
theorem ctX3_lowest (l : Launch) (D : va_G) (cs : Nat → ClassId) (ad : Nat → Nat) (I : Nat → Nat) (G : Nat → Int64) (AN : Nat → Nat → Nat) (AI : Nat → Int32) (AL : Nat → Nat → Int64) (sz : Nat) (x y : Int64) (hok : okLow x y) : Met l yX3_lowest (Cond.code yX3_lowest cX3_lowest 7 none :: GW) rmX3_lowest (va_Pc [.ref (ad 0), .long x, .long y] (gP D cs (wM cs ad I G AN AI AL) sz)) (va_Qv (fun u : MS => u = (I, lowG G x y, AN, AI, AL)) (gB D cs (va_A (wM cs ad I G AN AI AL) sz) (wMs cs ad)) (va_A (wM cs ad I G AN AI AL) sz)) 0 0 (va_A (wM cs ad I G AN AI AL) sz) := by
  refine Met.ofW (cc := cX3_lowest) (maxL := 7) (ret := none) (by decide) rfl ?_
  intro p e s m args below meth c s₁ B hml hv
  obtain ⟨rfl, hsz, hP, hK, hD0, hN⟩ := hv
  have hx := B.exec
  have hb := B.bytes
  have hr := B.returns
  have hts : ∀ w ∈ GW, w.before _ s = true := fun w h => atoms_spec (ws := Cond.code yX3_lowest cX3_lowest 7 none :: GW) B.pre w (List.mem_cons_of_mem _ h)
  have hown : s.vm.findClass RX3 = some m.cls := findClass_of_methodNamed B.named
  have hlocks := B.notSynchronized
  subst hsz
  have hD := hD0.self (sz := s.heap.size)
  generalize hAe : va_A (wM cs ad I G AN AI AL) s.heap.size = A at hD ⊢
  have hA : ∀ q : Nat, s.heap.size ≤ q → A q := fun q h => by rw [← hAe]; exact Or.inr h
  have hS : va_S A s.heap s.heap [] := va_S.rf
  have hl := lv_entry [.ref (ad 0), .long x, .long y] (n := 7) (Nat.le_of_ble_eq_true rfl)
  rw [lg_entry_eq]
  generalize (lg_sl [.ref (ad 0), .long x, .long y] ++ List.replicate (7 - (lg_sl [.ref (ad 0), .long x, .long y]).length) Slot.unset).toArray = ls at hl ⊢
  have hl : lv_has ls 7 [(0, .ref (ad 0)), (1, .long x), (3, .long y)] := hl
  generalize hargs : ([.ref (ad 0), .long x, .long y] : List Value).toArray = args at *
  show W p l e rmX3_lowest s m args below meth c s.heap [] 0 0 _ (F0 m 0 ls [])
  refine lv_lload_n hx hb dX3_lowest_0 rfl (lv_at hl 1 rfl) ?_
  refine lv_lload_n hx hb dX3_lowest_1 rfl (lv_at hl 2 rfl) ?_
  refine g_calll (va_runS (As := [.long x, .long y]) (rest := []) ⟨hx, hb, hml, hown, hts⟩ (ctX3_divisor l D cs ad I G AN AI AL _ x y hok.1) (va_cwS 2 hts (gi_S gw_672 gw_673 gw_57 gw_674) rfl rfl rfl (by decide +kernel) ⟨Nat.le_of_ble_eq_true rfl, Nat.le_of_ble_eq_true rfl⟩) ⟨g_blind, g_pre hP hK hD hN⟩ rfl rfl hl.1 rfl (lv_room (Nat.le_of_ble_eq_true rfl)) dX3_lowest_2 ⟨Nat.zero_le _, Nat.zero_le _⟩) hD hS hA (fun r u H locs hw hP hD hS => ?_)
  obtain ⟨rfl, rfl⟩ := hw
  have hP : va_P D vc (wM cs ad I G AN AI AL) H := hP
  have hD : va_D A (wM cs ad I G AN AI AL) := hD
  refine lv_lstore (lv' := [(5, .long (dv64 x y)), (0, .ref (ad 0)), (1, .long x), (3, .long y)]) hx hb dX3_lowest_5 hl (by decide) rfl (fun ls hl => ?_)
  refine lv_aload_n hx hb dX3_lowest_7 rfl (lv_at hl 1 rfl) ?_
  refine lv_lload_n hx hb dX3_lowest_8 rfl (lv_at hl 3 rfl) ?_
  refine lv_lconst (v := 0) hx hb dX3_lowest_9 (by decide) ?_
  refine b_lcge (tgt := 22) hx hb dX3_lowest_10 dX3_lowest_11 (by decide) (fun h1 => ?_) (fun h1 => ?_)
  · refine lv_lload_n hx hb dX3_lowest_22 rfl (lv_at hl 2 rfl) ?_
    refine lv_lload hx hb dX3_lowest_23 (lv_at hl 0 rfl) ?_
    refine lv_ldiv hx hb dX3_lowest_25 (hok.2) ?_
    refine lv_topl (fun y9 e9 => ?_)
    have e9 : y9 = upL x y := e9.trans (if_neg h1).symm
    subst e9
    refine b_put (own := RX3) (C := RX3) (T := TX3) (N := 23) (ci := 3) (v := .long (upL x y)) hx hb hts usX3 tyX3 tyX3_ok nmX3 hown hK hP hD hS 0 (by decide) rfl rfl 12 (by decide) (hts _ gw_516) rfl rfl rfl (Nat.le_of_ble_eq_true rfl) dX3_lowest_26 sM_G1 (fun H locs hP hD hS => ?_)
    refine lv_aload_n hx hb dX3_lowest_29 rfl (lv_at hl 1 rfl) ?_
    refine lv_lload_n hx hb dX3_lowest_30 rfl (lv_at hl 3 rfl) ?_
    refine lv_lconst (v := 0) hx hb dX3_lowest_31 (by decide) ?_
    refine b_lcge (tgt := 44) hx hb dX3_lowest_32 dX3_lowest_33 (by decide) (fun h2 => ?_) (fun h2 => ?_)
    · refine lv_lload_n hx hb dX3_lowest_44 rfl (lv_at hl 3 rfl) ?_
      refine lv_lload hx hb dX3_lowest_45 (lv_at hl 0 rfl) ?_
      refine lv_ldiv hx hb dX3_lowest_47 (hok.2) ?_
      refine lv_topl (fun y9 e9 => ?_)
      have e9 : y9 = dnL x y := e9.trans (if_neg h2).symm
      subst e9
      refine b_put (own := RX3) (C := RX3) (T := TX3) (N := 23) (ci := 3) (v := .long (dnL x y)) hx hb hts usX3 tyX3 tyX3_ok nmX3 hown hK hP hD hS 0 (by decide) rfl rfl 13 (by decide) (hts _ gw_517) rfl rfl rfl (Nat.le_of_ble_eq_true rfl) dX3_lowest_48 sM_G2 (fun H locs hP hD hS => ?_)
      exact g_vret hx hb hr hlocks (I, up1 (up1 G 1 (upL x y)) 2 (dnL x y), AN, AI, AL) (rfl) hK hP hD hS dX3_lowest_51
    · refine lv_lload_n hx hb dX3_lowest_36 rfl (lv_at hl 3 rfl) ?_
      refine lv_lload hx hb dX3_lowest_37 (lv_at hl 0 rfl) ?_
      refine lv_ldiv hx hb dX3_lowest_39 (hok.2) ?_
      refine lv_lneg hx hb dX3_lowest_40 ?_
      refine lv_goto (tgt := 48) hx hb dX3_lowest_41 (by decide) ?_
      refine lv_topl (fun y9 e9 => ?_)
      have e9 : y9 = dnL x y := e9.trans (if_pos h2).symm
      subst e9
      refine b_put (own := RX3) (C := RX3) (T := TX3) (N := 23) (ci := 3) (v := .long (dnL x y)) hx hb hts usX3 tyX3 tyX3_ok nmX3 hown hK hP hD hS 0 (by decide) rfl rfl 13 (by decide) (hts _ gw_517) rfl rfl rfl (Nat.le_of_ble_eq_true rfl) dX3_lowest_48 sM_G2 (fun H locs hP hD hS => ?_)
      exact g_vret hx hb hr hlocks (I, up1 (up1 G 1 (upL x y)) 2 (dnL x y), AN, AI, AL) (rfl) hK hP hD hS dX3_lowest_51
  · refine lv_lload_n hx hb dX3_lowest_14 rfl (lv_at hl 2 rfl) ?_
    refine lv_lload hx hb dX3_lowest_15 (lv_at hl 0 rfl) ?_
    refine lv_ldiv hx hb dX3_lowest_17 (hok.2) ?_
    refine lv_lneg hx hb dX3_lowest_18 ?_
    refine lv_goto (tgt := 26) hx hb dX3_lowest_19 (by decide) ?_
    refine lv_topl (fun y9 e9 => ?_)
    have e9 : y9 = upL x y := e9.trans (if_pos h1).symm
    subst e9
    refine b_put (own := RX3) (C := RX3) (T := TX3) (N := 23) (ci := 3) (v := .long (upL x y)) hx hb hts usX3 tyX3 tyX3_ok nmX3 hown hK hP hD hS 0 (by decide) rfl rfl 12 (by decide) (hts _ gw_516) rfl rfl rfl (Nat.le_of_ble_eq_true rfl) dX3_lowest_26 sM_G1 (fun H locs hP hD hS => ?_)
    refine lv_aload_n hx hb dX3_lowest_29 rfl (lv_at hl 1 rfl) ?_
    refine lv_lload_n hx hb dX3_lowest_30 rfl (lv_at hl 3 rfl) ?_
    refine lv_lconst (v := 0) hx hb dX3_lowest_31 (by decide) ?_
    refine b_lcge (tgt := 44) hx hb dX3_lowest_32 dX3_lowest_33 (by decide) (fun h2 => ?_) (fun h2 => ?_)
    · refine lv_lload_n hx hb dX3_lowest_44 rfl (lv_at hl 3 rfl) ?_
      refine lv_lload hx hb dX3_lowest_45 (lv_at hl 0 rfl) ?_
      refine lv_ldiv hx hb dX3_lowest_47 (hok.2) ?_
      refine lv_topl (fun y9 e9 => ?_)
      have e9 : y9 = dnL x y := e9.trans (if_neg h2).symm
      subst e9
      refine b_put (own := RX3) (C := RX3) (T := TX3) (N := 23) (ci := 3) (v := .long (dnL x y)) hx hb hts usX3 tyX3 tyX3_ok nmX3 hown hK hP hD hS 0 (by decide) rfl rfl 13 (by decide) (hts _ gw_517) rfl rfl rfl (Nat.le_of_ble_eq_true rfl) dX3_lowest_48 sM_G2 (fun H locs hP hD hS => ?_)
      exact g_vret hx hb hr hlocks (I, up1 (up1 G 1 (upL x y)) 2 (dnL x y), AN, AI, AL) (rfl) hK hP hD hS dX3_lowest_51
    · refine lv_lload_n hx hb dX3_lowest_36 rfl (lv_at hl 3 rfl) ?_
      refine lv_lload hx hb dX3_lowest_37 (lv_at hl 0 rfl) ?_
      refine lv_ldiv hx hb dX3_lowest_39 (hok.2) ?_
      refine lv_lneg hx hb dX3_lowest_40 ?_
      refine lv_goto (tgt := 48) hx hb dX3_lowest_41 (by decide) ?_
      refine lv_topl (fun y9 e9 => ?_)
      have e9 : y9 = dnL x y := e9.trans (if_pos h2).symm
      subst e9
      refine b_put (own := RX3) (C := RX3) (T := TX3) (N := 23) (ci := 3) (v := .long (dnL x y)) hx hb hts usX3 tyX3 tyX3_ok nmX3 hown hK hP hD hS 0 (by decide) rfl rfl 13 (by decide) (hts _ gw_517) rfl rfl rfl (Nat.le_of_ble_eq_true rfl) dX3_lowest_48 sM_G2 (fun H locs hP hD hS => ?_)
      exact g_vret hx hb hr hlocks (I, up1 (up1 G 1 (upL x y)) 2 (dnL x y), AN, AI, AL) (rfl) hK hP hD hS dX3_lowest_51

abbrev rmX3_told : Room := { frames := 0, cells := 0, slots := 0, locals := 0 }
set_option maxHeartbeats 4000000 in
set_option maxRecDepth 100000 in
theorem ctX3_told (l : Launch) (D : va_G) (cs : Nat → ClassId) (ad : Nat → Nat) (I : Nat → Nat) (G : Nat → Int64) (AN : Nat → Nat → Nat) (AI : Nat → Int32) (AL : Nat → Nat → Int64) (sz : Nat) (q : Int32)  : Met l yX3_told (Cond.code yX3_told cX3_told 2 (some FieldType.long) :: GW) rmX3_told (va_Pc [.ref (ad 0), .int q] (gP D cs (wM cs ad I G AN AI AL) sz)) (va_Ql (fun (r : Int64) (u : MS) => u = (I, G, AN, AI, AL) ∧ r = if q = 0 then G 1 else G 2) (gB D cs (va_A (wM cs ad I G AN AI AL) sz) (wMs cs ad)) (va_A (wM cs ad I G AN AI AL) sz)) 0 0 (va_A (wM cs ad I G AN AI AL) sz) := by
  refine Met.ofW (cc := cX3_told) (maxL := 2) (ret := (some FieldType.long)) (by decide) rfl ?_
  intro p e s m args below meth c s₁ B hml hv
  obtain ⟨rfl, hsz, hP, hK, hD0, hN⟩ := hv
  have hx := B.exec
  have hb := B.bytes
  have hr := B.returns
  have hts : ∀ w ∈ GW, w.before _ s = true := fun w h => atoms_spec (ws := Cond.code yX3_told cX3_told 2 (some FieldType.long) :: GW) B.pre w (List.mem_cons_of_mem _ h)
  have hown : s.vm.findClass RX3 = some m.cls := findClass_of_methodNamed B.named
  have hlocks := B.notSynchronized
  subst hsz
  have hD := hD0.self (sz := s.heap.size)
  generalize hAe : va_A (wM cs ad I G AN AI AL) s.heap.size = A at hD ⊢
  have hA : ∀ q : Nat, s.heap.size ≤ q → A q := fun q h => by rw [← hAe]; exact Or.inr h
  have hS : va_S A s.heap s.heap [] := va_S.rf
  have hl := lv_entry [.ref (ad 0), .int q] (n := 2) (Nat.le_of_ble_eq_true rfl)
  rw [lg_entry_eq]
  generalize (lg_sl [.ref (ad 0), .int q] ++ List.replicate (2 - (lg_sl [.ref (ad 0), .int q]).length) Slot.unset).toArray = ls at hl ⊢
  have hl : lv_has ls 2 [(0, .ref (ad 0)), (1, .int q)] := hl
  generalize hargs : ([.ref (ad 0), .int q] : List Value).toArray = args at *
  show W p l e rmX3_told s m args below meth c s.heap [] 0 0 _ (F0 m 0 ls [])
  refine lv_iload_n hx hb dX3_told_0 rfl (lv_at hl 1 rfl) ?_
  refine lv_if_ne (tgt := 11) hx hb dX3_told_1 (by decide) (fun h => ?_) (fun h => ?_)
  · refine lv_aload_n hx hb dX3_told_11 rfl (lv_at hl 0 rfl) ?_
    refine b_get (own := RX3) (C := RX3) (T := TX3) (N := 23) (ci := 3) (v := .long (G 2)) hx hb hts usX3 hown hK hP 0 (by decide) rfl rfl 13 (by decide) (hts _ gw_517) rfl dX3_told_12 ?_
    exact g_lret hx hb hr hlocks (I, G, AN, AI, AL) (⟨rfl, by rw [if_neg h]⟩) hK hP hD hS dX3_told_15
  · refine lv_aload_n hx hb dX3_told_4 rfl (lv_at hl 0 rfl) ?_
    refine b_get (own := RX3) (C := RX3) (T := TX3) (N := 23) (ci := 3) (v := .long (G 1)) hx hb hts usX3 hown hK hP 0 (by decide) rfl rfl 12 (by decide) (hts _ gw_516) rfl dX3_told_5 ?_
    refine lv_goto (tgt := 15) hx hb dX3_told_8 (by decide) ?_
    exact g_lret hx hb hr hlocks (I, G, AN, AI, AL) (⟨rfl, by rw [if_pos h]⟩) hK hP hD hS dX3_told_15

abbrev rmX3_clear : Room := { frames := 0, cells := 0, slots := 0, locals := 0 }
set_option maxHeartbeats 4000000 in
set_option maxRecDepth 100000 in
theorem ctX3_clear (l : Launch) (D : va_G) (cs : Nat → ClassId) (ad : Nat → Nat) (I : Nat → Nat) (G : Nat → Int64) (AN : Nat → Nat → Nat) (AI : Nat → Int32) (AL : Nat → Nat → Int64) (sz : Nat)   : Met l yX3_clear (Cond.code yX3_clear cX3_clear 1 none :: GW) rmX3_clear (va_Pc [.ref (ad 0)] (gP D cs (wM cs ad I G AN AI AL) sz)) (va_Qv (fun u : MS => u = (up1 (up1 I 0 0) 2 0, G, AN, AI, AL)) (gB D cs (va_A (wM cs ad I G AN AI AL) sz) (wMs cs ad)) (va_A (wM cs ad I G AN AI AL) sz)) 0 0 (va_A (wM cs ad I G AN AI AL) sz) := by
  refine Met.ofW (cc := cX3_clear) (maxL := 1) (ret := none) (by decide) rfl ?_
  intro p e s m args below meth c s₁ B hml hv
  obtain ⟨rfl, hsz, hP, hK, hD0, hN⟩ := hv
  have hx := B.exec
  have hb := B.bytes
  have hr := B.returns
  have hts : ∀ w ∈ GW, w.before _ s = true := fun w h => atoms_spec (ws := Cond.code yX3_clear cX3_clear 1 none :: GW) B.pre w (List.mem_cons_of_mem _ h)
  have hown : s.vm.findClass RX3 = some m.cls := findClass_of_methodNamed B.named
  have hlocks := B.notSynchronized
  subst hsz
  have hD := hD0.self (sz := s.heap.size)
  generalize hAe : va_A (wM cs ad I G AN AI AL) s.heap.size = A at hD ⊢
  have hA : ∀ q : Nat, s.heap.size ≤ q → A q := fun q h => by rw [← hAe]; exact Or.inr h
  have hS : va_S A s.heap s.heap [] := va_S.rf
  have hl := lv_entry [.ref (ad 0)] (n := 1) (Nat.le_of_ble_eq_true rfl)
  rw [lg_entry_eq]
  generalize (lg_sl [.ref (ad 0)] ++ List.replicate (1 - (lg_sl [.ref (ad 0)]).length) Slot.unset).toArray = ls at hl ⊢
  have hl : lv_has ls 1 [(0, .ref (ad 0))] := hl
  generalize hargs : ([.ref (ad 0)] : List Value).toArray = args at *
  show W p l e rmX3_clear s m args below meth c s.heap [] 0 0 _ (F0 m 0 ls [])
  refine lv_aload_n hx hb dX3_clear_0 rfl (lv_at hl 0 rfl) ?_
  refine lv_iconst (v := nI 0) hx hb dX3_clear_1 (by decide) ?_
  refine b_put (own := RX3) (C := RX3) (T := TX3) (N := 23) (ci := 3) (v := .int (nI 0)) hx hb hts usX3 tyX3 tyX3_ok nmX3 hown hK hP hD hS 0 (by decide) rfl rfl 0 (by decide) (hts _ gw_504) rfl rfl rfl (Nat.le_of_ble_eq_true rfl) dX3_clear_2 sM_I0 (fun H locs hP hD hS => ?_)
  refine lv_aload_n hx hb dX3_clear_5 rfl (lv_at hl 0 rfl) ?_
  refine lv_iconst (v := nI 0) hx hb dX3_clear_6 (by decide) ?_
  refine b_put (own := RX3) (C := RX3) (T := TX3) (N := 23) (ci := 3) (v := .int (nI 0)) hx hb hts usX3 tyX3 tyX3_ok nmX3 hown hK hP hD hS 0 (by decide) rfl rfl 2 (by decide) (hts _ gw_506) rfl rfl rfl (Nat.le_of_ble_eq_true rfl) dX3_clear_7 sM_I2 (fun H locs hP hD hS => ?_)
  exact g_vret hx hb hr hlocks (up1 (up1 I 0 0) 2 0, G, AN, AI, AL) (rfl) hK hP hD hS dX3_clear_10

abbrev rmX3_count : Room := { frames := 0, cells := 0, slots := 0, locals := 0 }
set_option maxHeartbeats 4000000 in
set_option maxRecDepth 100000 in
theorem ctX3_count (l : Launch) (D : va_G) (cs : Nat → ClassId) (ad : Nat → Nat) (I : Nat → Nat) (G : Nat → Int64) (AN : Nat → Nat → Nat) (AI : Nat → Int32) (AL : Nat → Nat → Int64) (sz : Nat) (q : Int32)  : Met l yX3_count (Cond.code yX3_count cX3_count 2 (some FieldType.int) :: GW) rmX3_count (va_Pc [.ref (ad 0), .int q] (gP D cs (wM cs ad I G AN AI AL) sz)) (va_Qi (fun (r : Int32) (u : MS) => u = (up1 I 0 0, G, AN, AI, AL) ∧ r = if q = 0 then nI (I 2) else if q = nI 1 then nI (I 1) else -1) (gB D cs (va_A (wM cs ad I G AN AI AL) sz) (wMs cs ad)) (va_A (wM cs ad I G AN AI AL) sz)) 0 0 (va_A (wM cs ad I G AN AI AL) sz) := by
  refine Met.ofW (cc := cX3_count) (maxL := 2) (ret := (some FieldType.int)) (by decide) rfl ?_
  intro p e s m args below meth c s₁ B hml hv
  obtain ⟨rfl, hsz, hP, hK, hD0, hN⟩ := hv
  have hx := B.exec
  have hb := B.bytes
  have hr := B.returns
  have hts : ∀ w ∈ GW, w.before _ s = true := fun w h => atoms_spec (ws := Cond.code yX3_count cX3_count 2 (some FieldType.int) :: GW) B.pre w (List.mem_cons_of_mem _ h)
  have hown : s.vm.findClass RX3 = some m.cls := findClass_of_methodNamed B.named
  have hlocks := B.notSynchronized
  subst hsz
  have hD := hD0.self (sz := s.heap.size)
  generalize hAe : va_A (wM cs ad I G AN AI AL) s.heap.size = A at hD ⊢
  have hA : ∀ q : Nat, s.heap.size ≤ q → A q := fun q h => by rw [← hAe]; exact Or.inr h
  have hS : va_S A s.heap s.heap [] := va_S.rf
  have hl := lv_entry [.ref (ad 0), .int q] (n := 2) (Nat.le_of_ble_eq_true rfl)
  rw [lg_entry_eq]
  generalize (lg_sl [.ref (ad 0), .int q] ++ List.replicate (2 - (lg_sl [.ref (ad 0), .int q]).length) Slot.unset).toArray = ls at hl ⊢
  have hl : lv_has ls 2 [(0, .ref (ad 0)), (1, .int q)] := hl
  generalize hargs : ([.ref (ad 0), .int q] : List Value).toArray = args at *
  show W p l e rmX3_count s m args below meth c s.heap [] 0 0 _ (F0 m 0 ls [])
  refine lv_aload_n hx hb dX3_count_0 rfl (lv_at hl 0 rfl) ?_
  refine lv_iconst (v := nI 0) hx hb dX3_count_1 (by decide) ?_
  refine b_put (own := RX3) (C := RX3) (T := TX3) (N := 23) (ci := 3) (v := .int (nI 0)) hx hb hts usX3 tyX3 tyX3_ok nmX3 hown hK hP hD hS 0 (by decide) rfl rfl 0 (by decide) (hts _ gw_504) rfl rfl rfl (Nat.le_of_ble_eq_true rfl) dX3_count_2 sM_I0 (fun H locs hP hD hS => ?_)
  refine lv_iload_n hx hb dX3_count_5 rfl (lv_at hl 1 rfl) ?_
  refine lv_if_ne (tgt := 16) hx hb dX3_count_6 (by decide) (fun h1 => ?_) (fun h1 => ?_)
  · refine lv_iload_n hx hb dX3_count_16 rfl (lv_at hl 1 rfl) ?_
    refine lv_iconst (v := nI 1) hx hb dX3_count_17 (by decide) ?_
    refine lv_icmp_ne (tgt := 28) hx hb dX3_count_18 (by decide) (fun h2 => ?_) (fun h2 => ?_)
    · refine lv_iconst (v := -1) hx hb dX3_count_28 (by decide) ?_
      exact g_iret hx hb hr hlocks (up1 I 0 0, G, AN, AI, AL) (⟨rfl, by rw [if_neg h1, if_neg h2]⟩) hK hP hD hS dX3_count_29
    · refine lv_aload_n hx hb dX3_count_21 rfl (lv_at hl 0 rfl) ?_
      refine b_get (own := RX3) (C := RX3) (T := TX3) (N := 23) (ci := 3) (v := .int (nI (I 1))) hx hb hts usX3 hown hK hP 0 (by decide) rfl rfl 1 (by decide) (hts _ gw_505) rfl dX3_count_22 ?_
      refine lv_goto (tgt := 29) hx hb dX3_count_25 (by decide) ?_
      exact g_iret hx hb hr hlocks (up1 I 0 0, G, AN, AI, AL) (⟨rfl, by rw [if_neg h1, if_pos h2]⟩) hK hP hD hS dX3_count_29
  · refine lv_aload_n hx hb dX3_count_9 rfl (lv_at hl 0 rfl) ?_
    refine b_get (own := RX3) (C := RX3) (T := TX3) (N := 23) (ci := 3) (v := .int (nI (I 2))) hx hb hts usX3 hown hK hP 0 (by decide) rfl rfl 2 (by decide) (hts _ gw_506) rfl dX3_count_10 ?_
    refine lv_goto (tgt := 29) hx hb dX3_count_13 (by decide) ?_
    exact g_iret hx hb hr hlocks (up1 I 0 0, G, AN, AI, AL) (⟨rfl, by rw [if_pos h1]⟩) hK hP hD hS dX3_count_29

abbrev rmX3_isUnknown : Room := { frames := 1, cells := 0, slots := 0, locals := 25 }
set_option maxHeartbeats 4000000 in
set_option maxRecDepth 100000 in
theorem ctX3_isUnknown (l : Launch) (D : va_G) (cs : Nat → ClassId) (ad : Nat → Nat) (I : Nat → Nat) (G : Nat → Int64) (AN : Nat → Nat → Nat) (AI : Nat → Int32) (AL : Nat → Nat → Int64) (sz : Nat) (u : Int32)  : Met l yX3_isUnknown (Cond.code yX3_isUnknown cX3_isUnknown 2 (some FieldType.boolean) :: GW) rmX3_isUnknown (va_Pc [.ref (ad 0), .int u] (gP D cs (wM cs ad I G AN AI AL) sz)) (va_Qi (fun (r : Int32) (v : MS) => v = (I, G, AN, AI, AL) ∧ r = bz (inL (Int32.toInt64 u) 0 (Int32.toInt64 (nI (I 1) - nI 1)))) (gB D cs (va_A (wM cs ad I G AN AI AL) sz) (wMs cs ad)) (va_A (wM cs ad I G AN AI AL) sz)) 0 0 (va_A (wM cs ad I G AN AI AL) sz) := by
  refine Met.ofW (cc := cX3_isUnknown) (maxL := 2) (ret := (some FieldType.boolean)) (by decide) rfl ?_
  intro p e s m args below meth c s₁ B hml hv
  obtain ⟨rfl, hsz, hP, hK, hD0, hN⟩ := hv
  have hx := B.exec
  have hb := B.bytes
  have hr := B.returns
  have hts : ∀ w ∈ GW, w.before _ s = true := fun w h => atoms_spec (ws := Cond.code yX3_isUnknown cX3_isUnknown 2 (some FieldType.boolean) :: GW) B.pre w (List.mem_cons_of_mem _ h)
  have hown : s.vm.findClass RX3 = some m.cls := findClass_of_methodNamed B.named
  have hlocks := B.notSynchronized
  subst hsz
  have hD := hD0.self (sz := s.heap.size)
  generalize hAe : va_A (wM cs ad I G AN AI AL) s.heap.size = A at hD ⊢
  have hA : ∀ q : Nat, s.heap.size ≤ q → A q := fun q h => by rw [← hAe]; exact Or.inr h
  have hS : va_S A s.heap s.heap [] := va_S.rf
  have hl := lv_entry [.ref (ad 0), .int u] (n := 2) (Nat.le_of_ble_eq_true rfl)
  rw [lg_entry_eq]
  generalize (lg_sl [.ref (ad 0), .int u] ++ List.replicate (2 - (lg_sl [.ref (ad 0), .int u]).length) Slot.unset).toArray = ls at hl ⊢
  have hl : lv_has ls 2 [(0, .ref (ad 0)), (1, .int u)] := hl
  generalize hargs : ([.ref (ad 0), .int u] : List Value).toArray = args at *
  show W p l e rmX3_isUnknown s m args below meth c s.heap [] 0 0 _ (F0 m 0 ls [])
  refine lv_iload_n hx hb dX3_isUnknown_0 rfl (lv_at hl 1 rfl) ?_
  refine lv_i2l (v := Int32.toInt64 u) hx hb dX3_isUnknown_1 rfl ?_
  refine lv_lconst (v := 0) hx hb dX3_isUnknown_2 (by decide) ?_
  refine lv_aload_n hx hb dX3_isUnknown_3 rfl (lv_at hl 0 rfl) ?_
  refine b_get (own := RX3) (C := RX3) (T := TX3) (N := 23) (ci := 3) (v := .int (nI (I 1))) hx hb hts usX3 hown hK hP 0 (by decide) rfl rfl 1 (by decide) (hts _ gw_505) rfl dX3_isUnknown_4 ?_
  refine lv_iconst (v := nI 1) hx hb dX3_isUnknown_7 (by decide) ?_
  refine lv_isub hx hb dX3_isUnknown_8 ?_
  refine lv_i2l (v := Int32.toInt64 ((nI (I 1)) - (nI 1))) hx hb dX3_isUnknown_9 rfl ?_
  refine g_calli (va_runS (As := [.long (Int32.toInt64 u), .long 0, .long (Int32.toInt64 ((nI (I 1)) - (nI 1)))]) (rest := []) ⟨hx, hb, hml, hown, hts⟩ (ctX3_in l D cs ad I G AN AI AL _ (Int32.toInt64 u) 0 (Int32.toInt64 ((nI (I 1)) - (nI 1)))) (va_cwS 3 hts (gi_S gw_591 gw_592 gw_57 gw_593) rfl rfl rfl (by decide +kernel) ⟨Nat.le_of_ble_eq_true rfl, Nat.le_of_ble_eq_true rfl⟩) ⟨g_blind, g_pre hP hK hD hN⟩ rfl rfl hl.1 rfl (lv_room (Nat.le_of_ble_eq_true rfl)) dX3_isUnknown_10 ⟨Nat.zero_le _, Nat.zero_le _⟩) hD hS hA (fun r u H locs hw hP hD hS => ?_)
  obtain ⟨rfl, rfl⟩ := hw
  have hP : va_P D vc (wM cs ad I G AN AI AL) H := hP
  have hD : va_D A (wM cs ad I G AN AI AL) := hD
  exact g_zret hx hb hr hlocks (bz_n _) (I, G, AN, AI, AL) (⟨rfl, rfl⟩) hK hP hD hS dX3_isUnknown_13

theorem bz_t {b : Bool} (h : ¬ bz b = 0) : b = true := by cases b with | false => exact absurd rfl h | true => rfl

abbrev rmX3_isPlace : Room := { frames := 1, cells := 0, slots := 0, locals := 25 }
set_option maxHeartbeats 4000000 in
set_option maxRecDepth 100000 in
theorem ctX3_isPlace (l : Launch) (D : va_G) (cs : Nat → ClassId) (ad : Nat → Nat) (I : Nat → Nat) (G : Nat → Int64) (AN : Nat → Nat → Nat) (AI : Nat → Int32) (AL : Nat → Nat → Int64) (sz : Nat) (g u : Int32)  : Met l yX3_isPlace (Cond.code yX3_isPlace cX3_isPlace 3 (some FieldType.boolean) :: GW) rmX3_isPlace (va_Pc [.ref (ad 0), .int g, .int u] (gP D cs (wM cs ad I G AN AI AL) sz)) (va_Qi (fun (r : Int32) (v : MS) => v = (up1 I 0 (if plM I g u then 0 else 1), G, AN, AI, AL) ∧ r = bz (plM I g u)) (gB D cs (va_A (wM cs ad I G AN AI AL) sz) (wMs cs ad)) (va_A (wM cs ad I G AN AI AL) sz)) 0 0 (va_A (wM cs ad I G AN AI AL) sz) := by
  refine Met.ofW (cc := cX3_isPlace) (maxL := 3) (ret := (some FieldType.boolean)) (by decide) rfl ?_
  intro p e s m args below meth c s₁ B hml hv
  obtain ⟨rfl, hsz, hP, hK, hD0, hN⟩ := hv
  have hx := B.exec
  have hb := B.bytes
  have hr := B.returns
  have hts : ∀ w ∈ GW, w.before _ s = true := fun w h => atoms_spec (ws := Cond.code yX3_isPlace cX3_isPlace 3 (some FieldType.boolean) :: GW) B.pre w (List.mem_cons_of_mem _ h)
  have hown : s.vm.findClass RX3 = some m.cls := findClass_of_methodNamed B.named
  have hlocks := B.notSynchronized
  subst hsz
  have hD := hD0.self (sz := s.heap.size)
  generalize hAe : va_A (wM cs ad I G AN AI AL) s.heap.size = A at hD ⊢
  have hA : ∀ q : Nat, s.heap.size ≤ q → A q := fun q h => by rw [← hAe]; exact Or.inr h
  have hS : va_S A s.heap s.heap [] := va_S.rf
  have hl := lv_entry [.ref (ad 0), .int g, .int u] (n := 3) (Nat.le_of_ble_eq_true rfl)
  rw [lg_entry_eq]
  generalize (lg_sl [.ref (ad 0), .int g, .int u] ++ List.replicate (3 - (lg_sl [.ref (ad 0), .int g, .int u]).length) Slot.unset).toArray = ls at hl ⊢
  have hl : lv_has ls 3 [(0, .ref (ad 0)), (1, .int g), (2, .int u)] := hl
  generalize hargs : ([.ref (ad 0), .int g, .int u] : List Value).toArray = args at *
  show W p l e rmX3_isPlace s m args below meth c s.heap [] 0 0 _ (F0 m 0 ls [])
  refine lv_aload_n hx hb dX3_isPlace_0 rfl (lv_at hl 0 rfl) ?_
  refine lv_iload_n hx hb dX3_isPlace_1 rfl (lv_at hl 1 rfl) ?_
  refine lv_i2l (v := Int32.toInt64 g) hx hb dX3_isPlace_2 rfl ?_
  refine lv_lconst (v := 0) hx hb dX3_isPlace_3 (by decide) ?_
  refine lv_aload_n hx hb dX3_isPlace_4 rfl (lv_at hl 0 rfl) ?_
  refine b_get (own := RX3) (C := RX3) (T := TX3) (N := 23) (ci := 3) (v := .int (nI (I 2))) hx hb hts usX3 hown hK hP 0 (by decide) rfl rfl 2 (by decide) (hts _ gw_506) rfl dX3_isPlace_5 ?_
  refine lv_iconst (v := nI 1) hx hb dX3_isPlace_8 (by decide) ?_
  refine lv_isub hx hb dX3_isPlace_9 ?_
  refine lv_i2l (v := Int32.toInt64 ((nI (I 2)) - (nI 1))) hx hb dX3_isPlace_10 rfl ?_
  refine g_calli (va_runS (As := [.long (Int32.toInt64 g), .long 0, .long (Int32.toInt64 ((nI (I 2)) - (nI 1)))]) (rest := [.ref (ad 0)]) ⟨hx, hb, hml, hown, hts⟩ (ctX3_in l D cs ad I G AN AI AL _ (Int32.toInt64 g) 0 (Int32.toInt64 ((nI (I 2)) - (nI 1)))) (va_cwS 3 hts (gi_S gw_591 gw_592 gw_57 gw_593) rfl rfl rfl (by decide +kernel) ⟨Nat.le_of_ble_eq_true rfl, Nat.le_of_ble_eq_true rfl⟩) ⟨g_blind, g_pre hP hK hD hN⟩ rfl rfl hl.1 rfl (lv_room (Nat.le_of_ble_eq_true rfl)) dX3_isPlace_11 ⟨Nat.zero_le _, Nat.zero_le _⟩) hD hS hA (fun r u H locs hw hP hD hS => ?_)
  obtain ⟨rfl, rfl⟩ := hw
  have hP : va_P D vc (wM cs ad I G AN AI AL) H := hP
  have hD : va_D A (wM cs ad I G AN AI AL) := hD
  refine lv_if_eq (tgt := 35) hx hb dX3_isPlace_14 (by decide) (fun h1 => ?_) (fun h1 => ?_)
  · refine lv_iconst (v := nI 1) hx hb dX3_isPlace_35 (by decide) ?_
    refine b_put (own := RX3) (C := RX3) (T := TX3) (N := 23) (ci := 3) (v := .int (nI 1)) hx hb hts usX3 tyX3 tyX3_ok nmX3 hown hK hP hD hS 0 (by decide) rfl rfl 0 (by decide) (hts _ gw_504) rfl rfl rfl (Nat.le_of_ble_eq_true rfl) dX3_isPlace_36 sM_I0 (fun H locs hP hD hS => ?_)
    refine lv_aload_n hx hb dX3_isPlace_39 rfl (lv_at hl 0 rfl) ?_
    refine b_get (own := RX3) (C := RX3) (T := TX3) (N := 23) (ci := 3) (v := .int (nI 1)) hx hb hts usX3 hown hK hP 0 (by decide) rfl rfl 0 (by decide) (hts _ gw_504) rfl dX3_isPlace_40 ?_
    refine lv_if_ne (tgt := 50) hx hb dX3_isPlace_43 (by decide) (fun h9 => ?_) (fun h9 => ?_)
    · refine lv_iconst (v := nI 0) hx hb dX3_isPlace_50 (by decide) ?_
      exact g_zret hx hb hr hlocks rfl (up1 I 0 1, G, AN, AI, AL) (by have e9 : plM I g u = false := (by unfold plM; rw [bz_1.mp h1]; rfl); rw [e9]; exact ⟨rfl, rfl⟩) hK hP hD hS dX3_isPlace_51
    · exact absurd h9 (by decide)
  · refine lv_iload_n hx hb dX3_isPlace_17 rfl (lv_at hl 2 rfl) ?_
    refine lv_i2l (v := Int32.toInt64 u) hx hb dX3_isPlace_18 rfl ?_
    refine lv_lconst (v := 0) hx hb dX3_isPlace_19 (by decide) ?_
    refine lv_aload_n hx hb dX3_isPlace_20 rfl (lv_at hl 0 rfl) ?_
    refine b_get (own := RX3) (C := RX3) (T := TX3) (N := 23) (ci := 3) (v := .int (nI (I 1))) hx hb hts usX3 hown hK hP 0 (by decide) rfl rfl 1 (by decide) (hts _ gw_505) rfl dX3_isPlace_21 ?_
    refine lv_i2l (v := Int32.toInt64 (nI (I 1))) hx hb dX3_isPlace_24 rfl ?_
    refine g_calli (va_runS (As := [.long (Int32.toInt64 u), .long 0, .long (Int32.toInt64 (nI (I 1)))]) (rest := [.ref (ad 0)]) ⟨hx, hb, hml, hown, hts⟩ (ctX3_in l D cs ad I G AN AI AL _ (Int32.toInt64 u) 0 (Int32.toInt64 (nI (I 1)))) (va_cwS 3 hts (gi_S gw_591 gw_592 gw_57 gw_593) rfl rfl rfl (by decide +kernel) ⟨Nat.le_of_ble_eq_true rfl, Nat.le_of_ble_eq_true rfl⟩) ⟨g_blind, g_pre hP hK hD hN⟩ rfl rfl hl.1 rfl (lv_room (Nat.le_of_ble_eq_true rfl)) dX3_isPlace_25 ⟨Nat.zero_le _, Nat.zero_le _⟩) hD hS hA (fun r u H locs hw hP hD hS => ?_)
    obtain ⟨rfl, rfl⟩ := hw
    have hP : va_P D vc (wM cs ad I G AN AI AL) H := hP
    have hD : va_D A (wM cs ad I G AN AI AL) := hD
    refine lv_if_eq (tgt := 35) hx hb dX3_isPlace_28 (by decide) (fun h2 => ?_) (fun h2 => ?_)
    · refine lv_iconst (v := nI 1) hx hb dX3_isPlace_35 (by decide) ?_
      refine b_put (own := RX3) (C := RX3) (T := TX3) (N := 23) (ci := 3) (v := .int (nI 1)) hx hb hts usX3 tyX3 tyX3_ok nmX3 hown hK hP hD hS 0 (by decide) rfl rfl 0 (by decide) (hts _ gw_504) rfl rfl rfl (Nat.le_of_ble_eq_true rfl) dX3_isPlace_36 sM_I0 (fun H locs hP hD hS => ?_)
      refine lv_aload_n hx hb dX3_isPlace_39 rfl (lv_at hl 0 rfl) ?_
      refine b_get (own := RX3) (C := RX3) (T := TX3) (N := 23) (ci := 3) (v := .int (nI 1)) hx hb hts usX3 hown hK hP 0 (by decide) rfl rfl 0 (by decide) (hts _ gw_504) rfl dX3_isPlace_40 ?_
      refine lv_if_ne (tgt := 50) hx hb dX3_isPlace_43 (by decide) (fun h9 => ?_) (fun h9 => ?_)
      · refine lv_iconst (v := nI 0) hx hb dX3_isPlace_50 (by decide) ?_
        exact g_zret hx hb hr hlocks rfl (up1 I 0 1, G, AN, AI, AL) (by have e9 : plM I g u = false := (by unfold plM; rw [bz_1.mp h2, Bool.and_false]); rw [e9]; exact ⟨rfl, rfl⟩) hK hP hD hS dX3_isPlace_51
      · exact absurd h9 (by decide)
    · refine lv_iconst (v := nI 0) hx hb dX3_isPlace_31 (by decide) ?_
      refine lv_goto (tgt := 36) hx hb dX3_isPlace_32 (by decide) ?_
      refine b_put (own := RX3) (C := RX3) (T := TX3) (N := 23) (ci := 3) (v := .int (nI 0)) hx hb hts usX3 tyX3 tyX3_ok nmX3 hown hK hP hD hS 0 (by decide) rfl rfl 0 (by decide) (hts _ gw_504) rfl rfl rfl (Nat.le_of_ble_eq_true rfl) dX3_isPlace_36 sM_I0 (fun H locs hP hD hS => ?_)
      refine lv_aload_n hx hb dX3_isPlace_39 rfl (lv_at hl 0 rfl) ?_
      refine b_get (own := RX3) (C := RX3) (T := TX3) (N := 23) (ci := 3) (v := .int (nI 0)) hx hb hts usX3 hown hK hP 0 (by decide) rfl rfl 0 (by decide) (hts _ gw_504) rfl dX3_isPlace_40 ?_
      refine lv_if_ne (tgt := 50) hx hb dX3_isPlace_43 (by decide) (fun h9 => ?_) (fun h9 => ?_)
      · exact absurd rfl h9
      · refine lv_iconst (v := nI 1) hx hb dX3_isPlace_46 (by decide) ?_
        refine lv_goto (tgt := 51) hx hb dX3_isPlace_47 (by decide) ?_
        exact g_zret hx hb hr hlocks rfl (up1 I 0 0, G, AN, AI, AL) (by have e9 : plM I g u = true := (by unfold plM; rw [bz_t h1, bz_t h2]; rfl); rw [e9]; exact ⟨rfl, rfl⟩) hK hP hD hS dX3_isPlace_51

abbrev rmX3_place : Room := { frames := 0, cells := 0, slots := 0, locals := 0 }
set_option maxHeartbeats 4000000 in
set_option maxRecDepth 100000 in
theorem ctX3_place (l : Launch) (D : va_G) (cs : Nat → ClassId) (ad : Nat → Nat) (I : Nat → Nat) (G : Nat → Int64) (AN : Nat → Nat → Nat) (AI : Nat → Int32) (AL : Nat → Nat → Int64) (sz : Nat) (g u : Nat) (hn3 : I 1 ≤ 3) (hu : u < 2 ^ 31) : Met l yX3_place (Cond.code yX3_place cX3_place 3 (some FieldType.int) :: GW) rmX3_place (va_Pc [.ref (ad 0), .int (nI g), .int (nI u)] (gP D cs (wM cs ad I G AN AI AL) sz)) (va_Qi (fun (r : Int32) (v : MS) => v = (I, G, AN, AI, AL) ∧ r = nI (plc (I 1) g u)) (gB D cs (va_A (wM cs ad I G AN AI AL) sz) (wMs cs ad)) (va_A (wM cs ad I G AN AI AL) sz)) 0 0 (va_A (wM cs ad I G AN AI AL) sz) := by
  refine Met.ofW (cc := cX3_place) (maxL := 3) (ret := (some FieldType.int)) (by decide) rfl ?_
  intro p e s m args below meth c s₁ B hml hv
  obtain ⟨rfl, hsz, hP, hK, hD0, hN⟩ := hv
  have hx := B.exec
  have hb := B.bytes
  have hr := B.returns
  have hts : ∀ w ∈ GW, w.before _ s = true := fun w h => atoms_spec (ws := Cond.code yX3_place cX3_place 3 (some FieldType.int) :: GW) B.pre w (List.mem_cons_of_mem _ h)
  have hown : s.vm.findClass RX3 = some m.cls := findClass_of_methodNamed B.named
  have hlocks := B.notSynchronized
  subst hsz
  have hD := hD0.self (sz := s.heap.size)
  generalize hAe : va_A (wM cs ad I G AN AI AL) s.heap.size = A at hD ⊢
  have hA : ∀ q : Nat, s.heap.size ≤ q → A q := fun q h => by rw [← hAe]; exact Or.inr h
  have hS : va_S A s.heap s.heap [] := va_S.rf
  have hl := lv_entry [.ref (ad 0), .int (nI g), .int (nI u)] (n := 3) (Nat.le_of_ble_eq_true rfl)
  rw [lg_entry_eq]
  generalize (lg_sl [.ref (ad 0), .int (nI g), .int (nI u)] ++ List.replicate (3 - (lg_sl [.ref (ad 0), .int (nI g), .int (nI u)]).length) Slot.unset).toArray = ls at hl ⊢
  have hl : lv_has ls 3 [(0, .ref (ad 0)), (1, .int (nI g)), (2, .int (nI u))] := hl
  generalize hargs : ([.ref (ad 0), .int (nI g), .int (nI u)] : List Value).toArray = args at *
  show W p l e rmX3_place s m args below meth c s.heap [] 0 0 _ (F0 m 0 ls [])
  refine lv_iconst (v := nI 4) hx hb dX3_place_0 (by decide) ?_
  refine lv_iload_n hx hb dX3_place_1 rfl (lv_at hl 1 rfl) ?_
  refine b_muln hx hb dX3_place_2 ?_
  refine lv_iload_n hx hb dX3_place_3 rfl (lv_at hl 2 rfl) ?_
  refine lv_aload_n hx hb dX3_place_4 rfl (lv_at hl 0 rfl) ?_
  refine b_get (own := RX3) (C := RX3) (T := TX3) (N := 23) (ci := 3) (v := .int (nI (I 1))) hx hb hts usX3 hown hK hP 0 (by decide) rfl rfl 1 (by decide) (hts _ gw_505) rfl dX3_place_5 ?_
  by_cases h : u = I 1
  · refine b_ne_f (tgt := 15) hx hb dX3_place_8 (by decide) (h)  ?_
    refine lv_iconst (v := nI 3) hx hb dX3_place_11 (by decide) ?_
    refine lv_goto (tgt := 16) hx hb dX3_place_12 (by decide) ?_
    refine b_addn hx hb dX3_place_16 ?_
    exact g_iret hx hb hr hlocks (I, G, AN, AI, AL) (⟨rfl, by unfold plc; rw [if_pos h]⟩) hK hP hD hS dX3_place_17
  · refine b_ne_t (tgt := 15) hx hb dX3_place_8 (by decide) (h) (by omega) (by omega) ?_
    refine lv_iload_n hx hb dX3_place_15 rfl (lv_at hl 2 rfl) ?_
    refine b_addn hx hb dX3_place_16 ?_
    exact g_iret hx hb hr hlocks (I, G, AN, AI, AL) (⟨rfl, by unfold plc; rw [if_neg h]⟩) hK hP hD hS dX3_place_17

abbrev rmX3_determinant : Room := { frames := 0, cells := 0, slots := 0, locals := 0 }
set_option maxHeartbeats 4000000 in
set_option maxRecDepth 100000 in
theorem ctX3_determinant (l : Launch) (D : va_G) (cs : Nat → ClassId) (ad : Nat → Nat) (I : Nat → Nat) (G : Nat → Int64) (AN : Nat → Nat → Nat) (AI : Nat → Int32) (AL : Nat → Nat → Int64) (sz : Nat) (k : Nat) (hk : k ≤ 3) : Met l yX3_determinant (Cond.code yX3_determinant cX3_determinant 3 (some FieldType.long) :: GW) rmX3_determinant (va_Pc [.ref (ad 0), .int (nI k)] (gP D cs (wM cs ad I G AN AI AL) sz)) (va_Ql (fun (r : Int64) (u : MS) => u = (I, G, AN, AI, AL) ∧ r = det k (AL 5)) (gB D cs (va_A (wM cs ad I G AN AI AL) sz) (wMs cs ad)) (va_A (wM cs ad I G AN AI AL) sz)) 0 0 (va_A (wM cs ad I G AN AI AL) sz) := by
  refine Met.ofW (cc := cX3_determinant) (maxL := 3) (ret := (some FieldType.long)) (by decide) rfl ?_
  intro p e s m args below meth c s₁ B hml hv
  obtain ⟨rfl, hsz, hP, hK, hD0, hN⟩ := hv
  have hx := B.exec
  have hb := B.bytes
  have hr := B.returns
  have hts : ∀ w ∈ GW, w.before _ s = true := fun w h => atoms_spec (ws := Cond.code yX3_determinant cX3_determinant 3 (some FieldType.long) :: GW) B.pre w (List.mem_cons_of_mem _ h)
  have hown : s.vm.findClass RX3 = some m.cls := findClass_of_methodNamed B.named
  have hlocks := B.notSynchronized
  subst hsz
  have hD := hD0.self (sz := s.heap.size)
  generalize hAe : va_A (wM cs ad I G AN AI AL) s.heap.size = A at hD ⊢
  have hA : ∀ q : Nat, s.heap.size ≤ q → A q := fun q h => by rw [← hAe]; exact Or.inr h
  have hS : va_S A s.heap s.heap [] := va_S.rf
  have hl := lv_entry [.ref (ad 0), .int (nI k)] (n := 3) (Nat.le_of_ble_eq_true rfl)
  rw [lg_entry_eq]
  generalize (lg_sl [.ref (ad 0), .int (nI k)] ++ List.replicate (3 - (lg_sl [.ref (ad 0), .int (nI k)]).length) Slot.unset).toArray = ls at hl ⊢
  have hl : lv_has ls 3 [(0, .ref (ad 0)), (1, .int (nI k))] := hl
  generalize hargs : ([.ref (ad 0), .int (nI k)] : List Value).toArray = args at *
  show W p l e rmX3_determinant s m args below meth c s.heap [] 0 0 _ (F0 m 0 ls [])
  refine lv_aload_n hx hb dX3_determinant_0 rfl (lv_at hl 0 rfl) ?_
  refine b_get (own := RX3) (C := RX3) (T := TX3) (N := 23) (ci := 3) (v := .ref (ad 5)) hx hb hts usX3 hown hK hP 0 (by decide) rfl rfl 8 (by decide) (hts _ gw_512) rfl dX3_determinant_1 ?_
  refine lv_astore_n (lv' := [(2, .ref (ad 5)), (0, .ref (ad 0)), (1, .int (nI k))]) hx hb dX3_determinant_4 rfl hl (by decide) rfl (fun ls hl => ?_)
  refine lv_iload_n hx hb dX3_determinant_5 rfl (lv_at hl 2 rfl) ?_
  have hk9 : k = 0 ∨ k = 1 ∨ k = 2 ∨ k = 3 := by omega
  rcases hk9 with rfl | rfl | rfl | rfl
  · refine lv_if_ne (tgt := 11) hx hb dX3_determinant_6 (by decide) (fun q => absurd rfl q) (fun _ => ?_)
    refine lv_lconst (v := 1) hx hb dX3_determinant_9 (by decide) ?_
    exact g_lret hx hb hr hlocks (I, G, AN, AI, AL) (⟨rfl, rfl⟩) hK hP hD hS dX3_determinant_10
  · refine lv_if_ne (tgt := 11) hx hb dX3_determinant_6 (by decide) (fun _ => ?_) (fun q => absurd q (by decide))
    refine lv_iload_n hx hb dX3_determinant_11 rfl (lv_at hl 2 rfl) ?_
    refine lv_iconst (v := nI 1) hx hb dX3_determinant_12 (by decide) ?_
    refine b_ne_f (tgt := 20) hx hb dX3_determinant_13 (by decide) (rfl)  ?_
    refine lv_aload_n hx hb dX3_determinant_16 rfl (lv_at hl 0 rfl) ?_
    refine lv_iconst (v := nI 0) hx hb dX3_determinant_17 (by decide) ?_
    refine b_lald hx hb hK hP 5 1 (by decide) rfl rfl (by omega) (by decide) dX3_determinant_18 ?_
    exact g_lret hx hb hr hlocks (I, G, AN, AI, AL) (⟨rfl, rfl⟩) hK hP hD hS dX3_determinant_19
  · refine lv_if_ne (tgt := 11) hx hb dX3_determinant_6 (by decide) (fun _ => ?_) (fun q => absurd q (by decide))
    refine lv_iload_n hx hb dX3_determinant_11 rfl (lv_at hl 2 rfl) ?_
    refine lv_iconst (v := nI 1) hx hb dX3_determinant_12 (by decide) ?_
    refine b_ne_t (tgt := 20) hx hb dX3_determinant_13 (by decide) (by decide) (by omega) (by omega) ?_
    refine lv_iload_n hx hb dX3_determinant_20 rfl (lv_at hl 2 rfl) ?_
    refine lv_iconst (v := nI 2) hx hb dX3_determinant_21 (by decide) ?_
    refine b_ne_f (tgt := 41) hx hb dX3_determinant_22 (by decide) (rfl)  ?_
    refine lv_aload_n hx hb dX3_determinant_25 rfl (lv_at hl 0 rfl) ?_
    refine lv_iconst (v := nI 0) hx hb dX3_determinant_26 (by decide) ?_
    refine b_lald hx hb hK hP 5 1 (by decide) rfl rfl (by omega) (by decide) dX3_determinant_27 ?_
    refine lv_aload_n hx hb dX3_determinant_28 rfl (lv_at hl 0 rfl) ?_
    refine lv_iconst (v := nI 4) hx hb dX3_determinant_29 (by decide) ?_
    refine b_lald hx hb hK hP 5 1 (by decide) rfl rfl (by omega) (by decide) dX3_determinant_30 ?_
    refine lv_lmul hx hb dX3_determinant_31 ?_
    refine lv_aload_n hx hb dX3_determinant_32 rfl (lv_at hl 0 rfl) ?_
    refine lv_iconst (v := nI 1) hx hb dX3_determinant_33 (by decide) ?_
    refine b_lald hx hb hK hP 5 1 (by decide) rfl rfl (by omega) (by decide) dX3_determinant_34 ?_
    refine lv_aload_n hx hb dX3_determinant_35 rfl (lv_at hl 0 rfl) ?_
    refine lv_iconst (v := nI 3) hx hb dX3_determinant_36 (by decide) ?_
    refine b_lald hx hb hK hP 5 1 (by decide) rfl rfl (by omega) (by decide) dX3_determinant_37 ?_
    refine lv_lmul hx hb dX3_determinant_38 ?_
    refine lv_lsub hx hb dX3_determinant_39 ?_
    exact g_lret hx hb hr hlocks (I, G, AN, AI, AL) (⟨rfl, rfl⟩) hK hP hD hS dX3_determinant_40
  · refine lv_if_ne (tgt := 11) hx hb dX3_determinant_6 (by decide) (fun _ => ?_) (fun q => absurd q (by decide))
    refine lv_iload_n hx hb dX3_determinant_11 rfl (lv_at hl 2 rfl) ?_
    refine lv_iconst (v := nI 1) hx hb dX3_determinant_12 (by decide) ?_
    refine b_ne_t (tgt := 20) hx hb dX3_determinant_13 (by decide) (by decide) (by omega) (by omega) ?_
    refine lv_iload_n hx hb dX3_determinant_20 rfl (lv_at hl 2 rfl) ?_
    refine lv_iconst (v := nI 2) hx hb dX3_determinant_21 (by decide) ?_
    refine b_ne_t (tgt := 41) hx hb dX3_determinant_22 (by decide) (by decide) (by omega) (by omega) ?_
    refine lv_aload_n hx hb dX3_determinant_41 rfl (lv_at hl 0 rfl) ?_
    refine lv_iconst (v := nI 0) hx hb dX3_determinant_42 (by decide) ?_
    refine b_lald hx hb hK hP 5 1 (by decide) rfl rfl (by omega) (by decide) dX3_determinant_43 ?_
    refine lv_aload_n hx hb dX3_determinant_44 rfl (lv_at hl 0 rfl) ?_
    refine lv_iconst (v := nI 4) hx hb dX3_determinant_45 (by decide) ?_
    refine b_lald hx hb hK hP 5 1 (by decide) rfl rfl (by omega) (by decide) dX3_determinant_46 ?_
    refine lv_aload_n hx hb dX3_determinant_47 rfl (lv_at hl 0 rfl) ?_
    refine lv_bipush (v := nI 8) hx hb dX3_determinant_48 (by decide) ?_
    refine b_lald hx hb hK hP 5 1 (by decide) rfl rfl (by omega) (by decide) dX3_determinant_50 ?_
    refine lv_lmul hx hb dX3_determinant_51 ?_
    refine lv_aload_n hx hb dX3_determinant_52 rfl (lv_at hl 0 rfl) ?_
    refine lv_iconst (v := nI 5) hx hb dX3_determinant_53 (by decide) ?_
    refine b_lald hx hb hK hP 5 1 (by decide) rfl rfl (by omega) (by decide) dX3_determinant_54 ?_
    refine lv_aload_n hx hb dX3_determinant_55 rfl (lv_at hl 0 rfl) ?_
    refine lv_bipush (v := nI 7) hx hb dX3_determinant_56 (by decide) ?_
    refine b_lald hx hb hK hP 5 1 (by decide) rfl rfl (by omega) (by decide) dX3_determinant_58 ?_
    refine lv_lmul hx hb dX3_determinant_59 ?_
    refine lv_lsub hx hb dX3_determinant_60 ?_
    refine lv_lmul hx hb dX3_determinant_61 ?_
    refine lv_aload_n hx hb dX3_determinant_62 rfl (lv_at hl 0 rfl) ?_
    refine lv_iconst (v := nI 1) hx hb dX3_determinant_63 (by decide) ?_
    refine b_lald hx hb hK hP 5 1 (by decide) rfl rfl (by omega) (by decide) dX3_determinant_64 ?_
    refine lv_aload_n hx hb dX3_determinant_65 rfl (lv_at hl 0 rfl) ?_
    refine lv_iconst (v := nI 3) hx hb dX3_determinant_66 (by decide) ?_
    refine b_lald hx hb hK hP 5 1 (by decide) rfl rfl (by omega) (by decide) dX3_determinant_67 ?_
    refine lv_aload_n hx hb dX3_determinant_68 rfl (lv_at hl 0 rfl) ?_
    refine lv_bipush (v := nI 8) hx hb dX3_determinant_69 (by decide) ?_
    refine b_lald hx hb hK hP 5 1 (by decide) rfl rfl (by omega) (by decide) dX3_determinant_71 ?_
    refine lv_lmul hx hb dX3_determinant_72 ?_
    refine lv_aload_n hx hb dX3_determinant_73 rfl (lv_at hl 0 rfl) ?_
    refine lv_iconst (v := nI 5) hx hb dX3_determinant_74 (by decide) ?_
    refine b_lald hx hb hK hP 5 1 (by decide) rfl rfl (by omega) (by decide) dX3_determinant_75 ?_
    refine lv_aload_n hx hb dX3_determinant_76 rfl (lv_at hl 0 rfl) ?_
    refine lv_bipush (v := nI 6) hx hb dX3_determinant_77 (by decide) ?_
    refine b_lald hx hb hK hP 5 1 (by decide) rfl rfl (by omega) (by decide) dX3_determinant_79 ?_
    refine lv_lmul hx hb dX3_determinant_80 ?_
    refine lv_lsub hx hb dX3_determinant_81 ?_
    refine lv_lmul hx hb dX3_determinant_82 ?_
    refine lv_lsub hx hb dX3_determinant_83 ?_
    refine lv_aload_n hx hb dX3_determinant_84 rfl (lv_at hl 0 rfl) ?_
    refine lv_iconst (v := nI 2) hx hb dX3_determinant_85 (by decide) ?_
    refine b_lald hx hb hK hP 5 1 (by decide) rfl rfl (by omega) (by decide) dX3_determinant_86 ?_
    refine lv_aload_n hx hb dX3_determinant_87 rfl (lv_at hl 0 rfl) ?_
    refine lv_iconst (v := nI 3) hx hb dX3_determinant_88 (by decide) ?_
    refine b_lald hx hb hK hP 5 1 (by decide) rfl rfl (by omega) (by decide) dX3_determinant_89 ?_
    refine lv_aload_n hx hb dX3_determinant_90 rfl (lv_at hl 0 rfl) ?_
    refine lv_bipush (v := nI 7) hx hb dX3_determinant_91 (by decide) ?_
    refine b_lald hx hb hK hP 5 1 (by decide) rfl rfl (by omega) (by decide) dX3_determinant_93 ?_
    refine lv_lmul hx hb dX3_determinant_94 ?_
    refine lv_aload_n hx hb dX3_determinant_95 rfl (lv_at hl 0 rfl) ?_
    refine lv_iconst (v := nI 4) hx hb dX3_determinant_96 (by decide) ?_
    refine b_lald hx hb hK hP 5 1 (by decide) rfl rfl (by omega) (by decide) dX3_determinant_97 ?_
    refine lv_aload_n hx hb dX3_determinant_98 rfl (lv_at hl 0 rfl) ?_
    refine lv_bipush (v := nI 6) hx hb dX3_determinant_99 (by decide) ?_
    refine b_lald hx hb hK hP 5 1 (by decide) rfl rfl (by omega) (by decide) dX3_determinant_101 ?_
    refine lv_lmul hx hb dX3_determinant_102 ?_
    refine lv_lsub hx hb dX3_determinant_103 ?_
    refine lv_lmul hx hb dX3_determinant_104 ?_
    refine lv_ladd hx hb dX3_determinant_105 ?_
    exact g_lret hx hb hr hlocks (I, G, AN, AI, AL) (⟨rfl, rfl⟩) hK hP hD hS dX3_determinant_106
