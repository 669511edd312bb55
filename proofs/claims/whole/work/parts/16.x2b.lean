theorem el_le2 {w h : Nat} : ∀ (n q : Nat) (x : Nat × (Nat → Nat → Nat) × (Nat → Nat → Int64)), (fo (estep w h) n q x).1 ≤ x.1 + n
  | 0, _, x => Nat.le_refl x.1
  | n + 1, q, x => by
    rw [fo_s]
    have h1 := el_le2 (w := w) (h := h) n (q + 1) (estep w h q x)
    have h2 : (estep w h q x).1 ≤ x.1 + 1 := by
      by_cases hd : x.1 < h
      · cases hf : fnd (fun k => x.2.2 (k + 11) q ≠ 0) (h - x.1) x.1 with
        | none => rw [estep_none hd hf]; omega
        | some k => rw [estep_some hd hf]; exact Nat.le_refl _
      · rw [estep_out hd]; omega
    omega
/-- whether the rows behind the deciding ones come to 0 -/
def agr (w h : Nat) (x : Nat × (Nat → Nat → Nat) × (Nat → Nat → Int64)) : Bool := (fnd (fun k => x.2.2 (k + 11) w ≠ 0) (h - x.1) x.1).isNone
theorem eqE_le {n e : Nat} {AN : Nat → Nat → Nat} {AI : Nat → Nat → Int32} {AL : Nat → Nat → Int64} : (eqE n e AN AI AL).1 ≤ e := el_le n 0 _ (Nat.zero_le _)
theorem eqE_le2 {n e : Nat} {AN : Nat → Nat → Nat} {AI : Nat → Nat → Int32} {AL : Nat → Nat → Int64} : (eqE n e AN AI AL).1 ≤ n := by
  have h := el_le2 (w := n) (h := e) n 0 (0, AN, eqfill n e AI (zer n e AL))
  have h2 : (eqE n e AN AI AL).1 ≤ 0 + n := h
  omega
theorem eqE_dc {n e : Nat} {AN : Nat → Nat → Nat} {AI : Nat → Nat → Int32} {AL : Nat → Nat → Int64} (hn : n ≤ 3) (hx : ∀ k, k < 7 → AN 5 k < 2 ^ 31) : ∀ k, k < 7 → (eqE n e AN AI AL).2.1 5 k < 2 ^ 31 := el_dc n 0 (0, AN, eqfill n e AI (zer n e AL)) (by omega) hx
theorem bz_1 {b : Bool} : bz b = 0 ↔ b = false := by cases b <;> decide
def nefill1 (n e : Nat) (AI : Nat → Nat → Int32) (AL : Nat → Nat → Int64) : Nat → Nat → Int64 := fo (fun i X => up2 (up2 (fo (fun j Y => up2 Y (i + 11) j (cpr e AI i j)) n 0 X) (i + 11) n (if i = n then 1 else 0)) (i + 11) (n + 1) (cpr e AI i n)) (n + 1) 0 AL
def nefill2 (n mb : Nat) (AL : Nat → Nat → Int64) : Nat → Nat → Int64 := fo (fun k X => fo (fun j Y => up2 Y (n + 1 + k + 11) j (Y (n - mb + k + 18) (3 + j))) n 0 X) mb 0 AL
def neE (n e : Nat) (AN : Nat → Nat → Nat) (AI : Nat → Nat → Int32) (AL : Nat → Nat → Int64) : Nat × (Nat → Nat → Nat) × (Nat → Nat → Int64) :=
  fo (estep (n + 1) (n + 1 + mbs (spL n e AN AI AL).1 n)) (n + 1) 0 (0, (spL n e AN AI AL).1, nefill2 n (mbs (spL n e AN AI AL).1 n) (nefill1 n e AI (zer (n + 1) (n + 1 + mbs (spL n e AN AI AL).1 n) (spL n e AN AI AL).2)))
/-- how many first numbers fit -/
def fitf (n : Nat) (AI : Nat → Nat → Int32) (y z : Int32) : Nat → Nat → Int32 → Int32 → Int32
  | 0, _, fr, tt => if tt < fr then nI 0 else tt - fr + nI 1
  | c + 1, g, fr, tt =>
    if AI (g + 8) 0 = 0 then
      if Int64.toInt32 (-(exc n AI g 0 (Int32.toInt64 y) (Int32.toInt64 z))) = 0 then fitf n AI y z c (g + 1) fr tt else nI 0
    else if Int64.toInt32 (-(exc n AI g 0 (Int32.toInt64 y) (Int32.toInt64 z))) - Int64.toInt32 (-(exc n AI g 0 (Int32.toInt64 y) (Int32.toInt64 z))) / AI (g + 8) 0 * AI (g + 8) 0 = 0 then
      fitf n AI y z c (g + 1) (if fr < Int64.toInt32 (-(exc n AI g 0 (Int32.toInt64 y) (Int32.toInt64 z))) / AI (g + 8) 0 then Int64.toInt32 (-(exc n AI g 0 (Int32.toInt64 y) (Int32.toInt64 z))) / AI (g + 8) 0 else fr) (if Int64.toInt32 (-(exc n AI g 0 (Int32.toInt64 y) (Int32.toInt64 z))) / AI (g + 8) 0 < tt then Int64.toInt32 (-(exc n AI g 0 (Int32.toInt64 y) (Int32.toInt64 z))) / AI (g + 8) 0 else tt)
    else nI 0

abbrev rmX2_rank : Room := { frames := 6, cells := 0, slots := 0, locals := 147 }
set_option maxHeartbeats 4000000 in
set_option maxRecDepth 100000 in
/-- rank -/
theorem ctX2_rank (l : Launch) (D : va_G) (cs : Nat → ClassId) (ad : Nat → Nat) (I : Nat → Nat) (AN : Nat → Nat → Nat) (AI : Nat → Nat → Int32) (AL : Nat → Nat → Int64) (sz : Nat)  (hn3 : I 0 ≤ 3) (he3 : I 1 ≤ 3) : Met l yX2_rank (Cond.code yX2_rank cX2_rank 1 (some FieldType.int) :: GW) rmX2_rank (va_Pc [.ref (ad 0)] (gP D cs (wT cs ad I AN AI AL) sz)) (va_Qi (fun (r : Int32) (u : TS) => u = (Ieq I (I 0) (I 1) (eqE (I 0) (I 1) AN AI AL).1, (eqE (I 0) (I 1) AN AI AL).2.1, AI, (eqE (I 0) (I 1) AN AI AL).2.2) ∧ r = nI (eqE (I 0) (I 1) AN AI AL).1) (gB D cs (va_A (wT cs ad I AN AI AL) sz) (wTs cs ad)) (va_A (wT cs ad I AN AI AL) sz)) 0 0 (va_A (wT cs ad I AN AI AL) sz) := by
  refine Met.ofW (cc := cX2_rank) (maxL := 1) (ret := (some FieldType.int)) (by decide) rfl ?_
  intro p e s m args below meth c s₁ B hml hv
  obtain ⟨rfl, hsz, hP, hK, hD0, hN⟩ := hv
  have hx := B.exec
  have hb := B.bytes
  have hr := B.returns
  have hts : ∀ w ∈ GW, w.before _ s = true := fun w h => atoms_spec (ws := Cond.code yX2_rank cX2_rank 1 (some FieldType.int) :: GW) B.pre w (List.mem_cons_of_mem _ h)
  have hown : s.vm.findClass RX2 = some m.cls := findClass_of_methodNamed B.named
  have hlocks := B.notSynchronized
  subst hsz
  have hD := hD0.self (sz := s.heap.size)
  generalize hAe : va_A (wT cs ad I AN AI AL) s.heap.size = A at hD ⊢
  have hA : ∀ q : Nat, s.heap.size ≤ q → A q := fun q h => by rw [← hAe]; exact Or.inr h
  have hS : va_S A s.heap s.heap [] := va_S.rf
  have hl := lv_entry [.ref (ad 0)] (n := 1) (Nat.le_of_ble_eq_true rfl)
  rw [lg_entry_eq]
  generalize (lg_sl [.ref (ad 0)] ++ List.replicate (1 - (lg_sl [.ref (ad 0)]).length) Slot.unset).toArray = ls at hl ⊢
  have hl : lv_has ls 1 [(0, .ref (ad 0))] := hl
  generalize hargs : ([.ref (ad 0)] : List Value).toArray = args at *
  show W p l e rmX2_rank s m args below meth c s.heap [] 0 0 _ (F0 m 0 ls [])
  refine lv_aload_n hx hb dX2_rank_0 rfl (lv_at hl 0 rfl) ?_
  refine g_callv (va_runV (As := []) (rest := []) ⟨hx, hb, hml, hown, hts⟩ (ctX2_eliminateEquations l D cs ad I AN AI AL _ hn3 he3) (cwV 0 hts (gi_V gw_150 gw_152 gw_0 gw_53 gw_153) rfl rfl rfl (by decide +kernel) ⟨Nat.le_of_ble_eq_true rfl, Nat.le_of_ble_eq_true rfl⟩) ⟨g_blind, va_recv hK hP (ci := 2) (q0 := 0) rfl (wm_at (by decide) rfl), g_pre hP hK hD hN⟩ rfl rfl hl.1 rfl (lv_room (Nat.le_of_ble_eq_true rfl)) dX2_rank_1 ⟨Nat.zero_le _, Nat.zero_le _⟩) hD hS hA (fun u H locs hw hP hD hS => ?_)
  obtain rfl := hw
  have hP : va_P D vc (wT cs ad (Ieq I (I 0) (I 1) (eqE (I 0) (I 1) AN AI AL).1) ((eqE (I 0) (I 1) AN AI AL).2.1) AI ((eqE (I 0) (I 1) AN AI AL).2.2)) H := hP
  have hD : va_D A (wT cs ad (Ieq I (I 0) (I 1) (eqE (I 0) (I 1) AN AI AL).1) ((eqE (I 0) (I 1) AN AI AL).2.1) AI ((eqE (I 0) (I 1) AN AI AL).2.2)) := hD
  have hle : (eqE (I 0) (I 1) AN AI AL).1 ≤ I 1 := eqE_le
  have hle2 : (eqE (I 0) (I 1) AN AI AL).1 ≤ I 0 := eqE_le2
  refine lv_aload_n hx hb dX2_rank_4 rfl (lv_at hl 0 rfl) ?_
  refine b_get (own := RX2) (C := RX2) (T := TX2) (N := 5) (ci := 2) (v := .ref (ad 2)) hx hb hts usX2 hown hK hP 0 (by decide) rfl rfl 2 (by decide) (hts _ gw_132) rfl dX2_rank_5 ?_
  refine b_getN (own := RX2) (C := RX0) (host := RX2) (T := TX0) (N := 5) (ci := 0) (v := .int (nI ((eqE (I 0) (I 1) AN AI AL).1))) hx hb hts usX0 hown hK hP 2 (by decide) rfl rfl 4 (by decide) (hN _ (by decide +kernel)) rfl dX2_rank_8 ?_
  exact g_iret hx hb hr hlocks (Ieq I (I 0) (I 1) (eqE (I 0) (I 1) AN AI AL).1, (eqE (I 0) (I 1) AN AI AL).2.1, AI, (eqE (I 0) (I 1) AN AI AL).2.2) (⟨rfl, rfl⟩) hK hP hD hS dX2_rank_11

abbrev rmX2_solutions : Room := { frames := 6, cells := 0, slots := 0, locals := 147 }
set_option maxHeartbeats 4000000 in
set_option maxRecDepth 100000 in
/-- solutions -/
theorem ctX2_solutions (l : Launch) (D : va_G) (cs : Nat → ClassId) (ad : Nat → Nat) (I : Nat → Nat) (AN : Nat → Nat → Nat) (AI : Nat → Nat → Int32) (AL : Nat → Nat → Int64) (sz : Nat)  (hn3 : I 0 ≤ 3) (he3 : I 1 ≤ 3) : Met l yX2_solutions (Cond.code yX2_solutions cX2_solutions 1 (some FieldType.int) :: GW) rmX2_solutions (va_Pc [.ref (ad 0)] (gP D cs (wT cs ad I AN AI AL) sz)) (va_Qi (fun (r : Int32) (u : TS) => u = (Ieq I (I 0) (I 1) (eqE (I 0) (I 1) AN AI AL).1, (eqE (I 0) (I 1) AN AI AL).2.1, AI, (eqE (I 0) (I 1) AN AI AL).2.2) ∧ r = if agr (I 0) (I 1) (eqE (I 0) (I 1) AN AI AL) then nI (I 0 - (eqE (I 0) (I 1) AN AI AL).1) else -1) (gB D cs (va_A (wT cs ad I AN AI AL) sz) (wTs cs ad)) (va_A (wT cs ad I AN AI AL) sz)) 0 0 (va_A (wT cs ad I AN AI AL) sz) := by
  refine Met.ofW (cc := cX2_solutions) (maxL := 1) (ret := (some FieldType.int)) (by decide) rfl ?_
  intro p e s m args below meth c s₁ B hml hv
  obtain ⟨rfl, hsz, hP, hK, hD0, hN⟩ := hv
  have hx := B.exec
  have hb := B.bytes
  have hr := B.returns
  have hts : ∀ w ∈ GW, w.before _ s = true := fun w h => atoms_spec (ws := Cond.code yX2_solutions cX2_solutions 1 (some FieldType.int) :: GW) B.pre w (List.mem_cons_of_mem _ h)
  have hown : s.vm.findClass RX2 = some m.cls := findClass_of_methodNamed B.named
  have hlocks := B.notSynchronized
  subst hsz
  have hD := hD0.self (sz := s.heap.size)
  generalize hAe : va_A (wT cs ad I AN AI AL) s.heap.size = A at hD ⊢
  have hA : ∀ q : Nat, s.heap.size ≤ q → A q := fun q h => by rw [← hAe]; exact Or.inr h
  have hS : va_S A s.heap s.heap [] := va_S.rf
  have hl := lv_entry [.ref (ad 0)] (n := 1) (Nat.le_of_ble_eq_true rfl)
  rw [lg_entry_eq]
  generalize (lg_sl [.ref (ad 0)] ++ List.replicate (1 - (lg_sl [.ref (ad 0)]).length) Slot.unset).toArray = ls at hl ⊢
  have hl : lv_has ls 1 [(0, .ref (ad 0))] := hl
  generalize hargs : ([.ref (ad 0)] : List Value).toArray = args at *
  show W p l e rmX2_solutions s m args below meth c s.heap [] 0 0 _ (F0 m 0 ls [])
  refine lv_aload_n hx hb dX2_solutions_0 rfl (lv_at hl 0 rfl) ?_
  refine g_callv (va_runV (As := []) (rest := []) ⟨hx, hb, hml, hown, hts⟩ (ctX2_eliminateEquations l D cs ad I AN AI AL _ hn3 he3) (cwV 0 hts (gi_V gw_150 gw_152 gw_0 gw_53 gw_153) rfl rfl rfl (by decide +kernel) ⟨Nat.le_of_ble_eq_true rfl, Nat.le_of_ble_eq_true rfl⟩) ⟨g_blind, va_recv hK hP (ci := 2) (q0 := 0) rfl (wm_at (by decide) rfl), g_pre hP hK hD hN⟩ rfl rfl hl.1 rfl (lv_room (Nat.le_of_ble_eq_true rfl)) dX2_solutions_1 ⟨Nat.zero_le _, Nat.zero_le _⟩) hD hS hA (fun u H locs hw hP hD hS => ?_)
  obtain rfl := hw
  have hP : va_P D vc (wT cs ad (Ieq I (I 0) (I 1) (eqE (I 0) (I 1) AN AI AL).1) ((eqE (I 0) (I 1) AN AI AL).2.1) AI ((eqE (I 0) (I 1) AN AI AL).2.2)) H := hP
  have hD : va_D A (wT cs ad (Ieq I (I 0) (I 1) (eqE (I 0) (I 1) AN AI AL).1) ((eqE (I 0) (I 1) AN AI AL).2.1) AI ((eqE (I 0) (I 1) AN AI AL).2.2)) := hD
  have hle : (eqE (I 0) (I 1) AN AI AL).1 ≤ I 1 := eqE_le
  have hle2 : (eqE (I 0) (I 1) AN AI AL).1 ≤ I 0 := eqE_le2
  refine lv_aload_n hx hb dX2_solutions_4 rfl (lv_at hl 0 rfl) ?_
  refine b_get (own := RX2) (C := RX2) (T := TX2) (N := 5) (ci := 2) (v := .ref (ad 2)) hx hb hts usX2 hown hK hP 0 (by decide) rfl rfl 2 (by decide) (hts _ gw_132) rfl dX2_solutions_5 ?_
  refine g_calli (va_runVN (C := RX0) (As := []) (rest := []) ⟨hx, hb, hml, hown, hts⟩ (ctX0_agrees l D cs ad (Ieq I (I 0) (I 1) (eqE (I 0) (I 1) AN AI AL).1) ((eqE (I 0) (I 1) AN AI AL).2.1) AI ((eqE (I 0) (I 1) AN AI AL).2.2) _ (show I 0 ≤ 4 by omega) (show I 1 ≤ 7 by omega) hle) ⟨va_cnB 0 hts (gi_C gw_197) rfl rfl rfl (hN _ (by decide +kernel) : va_Nw (Cond.methodLinkNest "TriangularSystems" 71 ⟨"TriangularSystems$Elimination", "agrees", "()Z"⟩ "TriangularSystems") s) (hts _ gw_55) (by decide +kernel) ⟨Nat.le_of_ble_eq_true rfl, Nat.le_of_ble_eq_true rfl⟩, hts _ gw_196, hts _ gw_8⟩ ⟨g_blind, va_recv hK hP (ci := 0) (q0 := 2) rfl (wm_at (by decide) rfl), g_pre hP hK hD hN⟩ rfl rfl hl.1 rfl (lv_room (Nat.le_of_ble_eq_true rfl)) dX2_solutions_8 ⟨Nat.zero_le _, Nat.zero_le _⟩) hD hS hA (fun r u H locs hw hP hD hS => ?_)
  obtain ⟨rfl, hw2⟩ := hw
  have hP : va_P D vc (wT cs ad (Ieq I (I 0) (I 1) (eqE (I 0) (I 1) AN AI AL).1) ((eqE (I 0) (I 1) AN AI AL).2.1) AI ((eqE (I 0) (I 1) AN AI AL).2.2)) H := hP
  have hD : va_D A (wT cs ad (Ieq I (I 0) (I 1) (eqE (I 0) (I 1) AN AI AL).1) ((eqE (I 0) (I 1) AN AI AL).2.1) AI ((eqE (I 0) (I 1) AN AI AL).2.2)) := hD
  have hw2 : r = bz (agr (I 0) (I 1) (eqE (I 0) (I 1) AN AI AL)) := hw2
  subst hw2
  refine lv_if_eq (tgt := 29) hx hb dX2_solutions_11 (by decide) (fun h => ?_) (fun h => ?_)
  · refine lv_iconst (v := -1) hx hb dX2_solutions_29 (by decide) ?_
    exact g_iret hx hb hr hlocks (Ieq I (I 0) (I 1) (eqE (I 0) (I 1) AN AI AL).1, (eqE (I 0) (I 1) AN AI AL).2.1, AI, (eqE (I 0) (I 1) AN AI AL).2.2) (⟨rfl, by rw [bz_1.mp h]; rfl⟩) hK hP hD hS dX2_solutions_30
  · refine lv_aload_n hx hb dX2_solutions_14 rfl (lv_at hl 0 rfl) ?_
    refine b_get (own := RX2) (C := RX2) (T := TX2) (N := 5) (ci := 2) (v := .int (nI (I 0))) hx hb hts usX2 hown hK hP 0 (by decide) rfl rfl 0 (by decide) (hts _ gw_130) rfl dX2_solutions_15 ?_
    refine lv_aload_n hx hb dX2_solutions_18 rfl (lv_at hl 0 rfl) ?_
    refine b_get (own := RX2) (C := RX2) (T := TX2) (N := 5) (ci := 2) (v := .ref (ad 2)) hx hb hts usX2 hown hK hP 0 (by decide) rfl rfl 2 (by decide) (hts _ gw_132) rfl dX2_solutions_19 ?_
    refine b_getN (own := RX2) (C := RX0) (host := RX2) (T := TX0) (N := 5) (ci := 0) (v := .int (nI ((eqE (I 0) (I 1) AN AI AL).1))) hx hb hts usX0 hown hK hP 2 (by decide) rfl rfl 4 (by decide) (hN _ (by decide +kernel)) rfl dX2_solutions_22 ?_
    refine b_subn hx hb dX2_solutions_25 (by omega) ?_
    refine lv_goto (tgt := 30) hx hb dX2_solutions_26 (by decide) ?_
    exact g_iret hx hb hr hlocks (Ieq I (I 0) (I 1) (eqE (I 0) (I 1) AN AI AL).1, (eqE (I 0) (I 1) AN AI AL).2.1, AI, (eqE (I 0) (I 1) AN AI AL).2.2) (⟨rfl, by rw [if_pos (Bool.not_eq_false _ ▸ (fun z => h (bz_1.mpr z)))]⟩) hK hP hD hS dX2_solutions_30

abbrev rmX2_free : Room := { frames := 6, cells := 0, slots := 0, locals := 147 }
set_option maxHeartbeats 4000000 in
set_option maxRecDepth 100000 in
/-- free -/
theorem ctX2_free (l : Launch) (D : va_G) (cs : Nat → ClassId) (ad : Nat → Nat) (I : Nat → Nat) (AN : Nat → Nat → Nat) (AI : Nat → Nat → Int32) (AL : Nat → Nat → Int64) (sz : Nat) (k : Int32) (hn3 : I 0 ≤ 3) (he3 : I 1 ≤ 3) (hdc : ∀ k, k < 7 → AN 5 k < 2 ^ 31) : Met l yX2_free (Cond.code yX2_free cX2_free 2 (some FieldType.int) :: GW) rmX2_free (va_Pc [.ref (ad 0), .int k] (gP D cs (wT cs ad I AN AI AL) sz)) (va_Qi (fun (r : Int32) (u : TS) => u = (Ieq I (I 0) (I 1) (eqE (I 0) (I 1) AN AI AL).1, (eqE (I 0) (I 1) AN AI AL).2.1, AI, (eqE (I 0) (I 1) AN AI AL).2.2) ∧ r = enc (fre (eqE (I 0) (I 1) AN AI AL).2.1 (eqE (I 0) (I 1) AN AI AL).1 k (I 0) 0 0)) (gB D cs (va_A (wT cs ad I AN AI AL) sz) (wTs cs ad)) (va_A (wT cs ad I AN AI AL) sz)) 0 0 (va_A (wT cs ad I AN AI AL) sz) := by
  refine Met.ofW (cc := cX2_free) (maxL := 2) (ret := (some FieldType.int)) (by decide) rfl ?_
  intro p e s m args below meth c s₁ B hml hv
  obtain ⟨rfl, hsz, hP, hK, hD0, hN⟩ := hv
  have hx := B.exec
  have hb := B.bytes
  have hr := B.returns
  have hts : ∀ w ∈ GW, w.before _ s = true := fun w h => atoms_spec (ws := Cond.code yX2_free cX2_free 2 (some FieldType.int) :: GW) B.pre w (List.mem_cons_of_mem _ h)
  have hown : s.vm.findClass RX2 = some m.cls := findClass_of_methodNamed B.named
  have hlocks := B.notSynchronized
  subst hsz
  have hD := hD0.self (sz := s.heap.size)
  generalize hAe : va_A (wT cs ad I AN AI AL) s.heap.size = A at hD ⊢
  have hA : ∀ q : Nat, s.heap.size ≤ q → A q := fun q h => by rw [← hAe]; exact Or.inr h
  have hS : va_S A s.heap s.heap [] := va_S.rf
  have hl := lv_entry [.ref (ad 0), .int k] (n := 2) (Nat.le_of_ble_eq_true rfl)
  rw [lg_entry_eq]
  generalize (lg_sl [.ref (ad 0), .int k] ++ List.replicate (2 - (lg_sl [.ref (ad 0), .int k]).length) Slot.unset).toArray = ls at hl ⊢
  have hl : lv_has ls 2 [(0, .ref (ad 0)), (1, .int k)] := hl
  generalize hargs : ([.ref (ad 0), .int k] : List Value).toArray = args at *
  show W p l e rmX2_free s m args below meth c s.heap [] 0 0 _ (F0 m 0 ls [])
  refine lv_aload_n hx hb dX2_free_0 rfl (lv_at hl 0 rfl) ?_
  refine g_callv (va_runV (As := []) (rest := []) ⟨hx, hb, hml, hown, hts⟩ (ctX2_eliminateEquations l D cs ad I AN AI AL _ hn3 he3) (cwV 0 hts (gi_V gw_150 gw_152 gw_0 gw_53 gw_153) rfl rfl rfl (by decide +kernel) ⟨Nat.le_of_ble_eq_true rfl, Nat.le_of_ble_eq_true rfl⟩) ⟨g_blind, va_recv hK hP (ci := 2) (q0 := 0) rfl (wm_at (by decide) rfl), g_pre hP hK hD hN⟩ rfl rfl hl.1 rfl (lv_room (Nat.le_of_ble_eq_true rfl)) dX2_free_1 ⟨Nat.zero_le _, Nat.zero_le _⟩) hD hS hA (fun u H locs hw hP hD hS => ?_)
  obtain rfl := hw
  have hP : va_P D vc (wT cs ad (Ieq I (I 0) (I 1) (eqE (I 0) (I 1) AN AI AL).1) ((eqE (I 0) (I 1) AN AI AL).2.1) AI ((eqE (I 0) (I 1) AN AI AL).2.2)) H := hP
  have hD : va_D A (wT cs ad (Ieq I (I 0) (I 1) (eqE (I 0) (I 1) AN AI AL).1) ((eqE (I 0) (I 1) AN AI AL).2.1) AI ((eqE (I 0) (I 1) AN AI AL).2.2)) := hD
  have hle : (eqE (I 0) (I 1) AN AI AL).1 ≤ I 1 := eqE_le
  have hle2 : (eqE (I 0) (I 1) AN AI AL).1 ≤ I 0 := eqE_le2
  refine lv_aload_n hx hb dX2_free_4 rfl (lv_at hl 0 rfl) ?_
  refine b_get (own := RX2) (C := RX2) (T := TX2) (N := 5) (ci := 2) (v := .ref (ad 2)) hx hb hts usX2 hown hK hP 0 (by decide) rfl rfl 2 (by decide) (hts _ gw_132) rfl dX2_free_5 ?_
  refine lv_iload_n hx hb dX2_free_8 rfl (lv_at hl 1 rfl) ?_
  refine g_calli (va_runVN (C := RX0) (As := [.int k]) (rest := []) ⟨hx, hb, hml, hown, hts⟩ (ctX0_freeUnknown l D cs ad (Ieq I (I 0) (I 1) (eqE (I 0) (I 1) AN AI AL).1) ((eqE (I 0) (I 1) AN AI AL).2.1) AI ((eqE (I 0) (I 1) AN AI AL).2.2) _ k (show I 0 ≤ 4 by omega) (show (eqE (I 0) (I 1) AN AI AL).1 ≤ 7 by omega) (eqE_dc hn3 hdc)) ⟨va_cnB 1 hts (gi_C gw_205) rfl rfl rfl (hN _ (by decide +kernel) : va_Nw (Cond.methodLinkNest "TriangularSystems" 75 ⟨"TriangularSystems$Elimination", "freeUnknown", "(I)I"⟩ "TriangularSystems") s) (hts _ gw_55) (by decide +kernel) ⟨Nat.le_of_ble_eq_true rfl, Nat.le_of_ble_eq_true rfl⟩, hts _ gw_204, hts _ gw_9⟩ ⟨g_blind, va_recv hK hP (ci := 0) (q0 := 2) rfl (wm_at (by decide) rfl), g_pre hP hK hD hN⟩ rfl rfl hl.1 rfl (lv_room (Nat.le_of_ble_eq_true rfl)) dX2_free_9 ⟨Nat.zero_le _, Nat.zero_le _⟩) hD hS hA (fun r u H locs hw hP hD hS => ?_)
  obtain ⟨rfl, hw2⟩ := hw
  have hP : va_P D vc (wT cs ad (Ieq I (I 0) (I 1) (eqE (I 0) (I 1) AN AI AL).1) ((eqE (I 0) (I 1) AN AI AL).2.1) AI ((eqE (I 0) (I 1) AN AI AL).2.2)) H := hP
  have hD : va_D A (wT cs ad (Ieq I (I 0) (I 1) (eqE (I 0) (I 1) AN AI AL).1) ((eqE (I 0) (I 1) AN AI AL).2.1) AI ((eqE (I 0) (I 1) AN AI AL).2.2)) := hD
  exact g_iret hx hb hr hlocks (Ieq I (I 0) (I 1) (eqE (I 0) (I 1) AN AI AL).1, (eqE (I 0) (I 1) AN AI AL).2.1, AI, (eqE (I 0) (I 1) AN AI AL).2.2) (⟨rfl, hw2⟩) hK hP hD hS dX2_free_12

theorem bz_n (b : Bool) : narrow .boolean (.int (bz b)) = .int (bz b) := by cases b <;> rfl

abbrev rmX2_whole : Room := { frames := 5, cells := 0, slots := 0, locals := 115 }
set_option maxHeartbeats 4000000 in
set_option maxRecDepth 100000 in
/-- whole -/
theorem ctX2_whole (l : Launch) (D : va_G) (cs : Nat → ClassId) (ad : Nat → Nat) (I : Nat → Nat) (AN : Nat → Nat → Nat) (AI : Nat → Nat → Int32) (AL : Nat → Nat → Int64) (sz : Nat)  (hn3 : I 0 ≤ 3) (he3 : I 1 ≤ 3) (hbg : ∀ r, r < 3 → AN 7 r < 6) : Met l yX2_whole (Cond.code yX2_whole cX2_whole 1 (some FieldType.boolean) :: GW) rmX2_whole (va_Pc [.ref (ad 0)] (gP D cs (wT cs ad I AN AI AL) sz)) (va_Qi (fun (r : Int32) (u : TS) => u = (up1 I 5 (I 0), (spL (I 0) (I 1) AN AI AL).1, AI, (spL (I 0) (I 1) AN AI AL).2) ∧ r = bz (fnd (fun k => (spL (I 0) (I 1) AN AI AL).2 21 k ≠ 0) 3 0).isNone) (gB D cs (va_A (wT cs ad I AN AI AL) sz) (wTs cs ad)) (va_A (wT cs ad I AN AI AL) sz)) 0 0 (va_A (wT cs ad I AN AI AL) sz) := by
  refine Met.ofW (cc := cX2_whole) (maxL := 1) (ret := (some FieldType.boolean)) (by decide) rfl ?_
  intro p e s m args below meth c s₁ B hml hv
  obtain ⟨rfl, hsz, hP, hK, hD0, hN⟩ := hv
  have hx := B.exec
  have hb := B.bytes
  have hr := B.returns
  have hts : ∀ w ∈ GW, w.before _ s = true := fun w h => atoms_spec (ws := Cond.code yX2_whole cX2_whole 1 (some FieldType.boolean) :: GW) B.pre w (List.mem_cons_of_mem _ h)
  have hown : s.vm.findClass RX2 = some m.cls := findClass_of_methodNamed B.named
  have hlocks := B.notSynchronized
  subst hsz
  have hD := hD0.self (sz := s.heap.size)
  generalize hAe : va_A (wT cs ad I AN AI AL) s.heap.size = A at hD ⊢
  have hA : ∀ q : Nat, s.heap.size ≤ q → A q := fun q h => by rw [← hAe]; exact Or.inr h
  have hS : va_S A s.heap s.heap [] := va_S.rf
  have hl := lv_entry [.ref (ad 0)] (n := 1) (Nat.le_of_ble_eq_true rfl)
  rw [lg_entry_eq]
  generalize (lg_sl [.ref (ad 0)] ++ List.replicate (1 - (lg_sl [.ref (ad 0)]).length) Slot.unset).toArray = ls at hl ⊢
  have hl : lv_has ls 1 [(0, .ref (ad 0))] := hl
  generalize hargs : ([.ref (ad 0)] : List Value).toArray = args at *
  show W p l e rmX2_whole s m args below meth c s.heap [] 0 0 _ (F0 m 0 ls [])
  refine lv_aload_n hx hb dX2_whole_0 rfl (lv_at hl 0 rfl) ?_
  refine g_callv (va_runV (As := []) (rest := []) ⟨hx, hb, hml, hown, hts⟩ (ctX2_spanLattice l D cs ad I AN AI AL _ hn3 he3 hbg) (cwV 0 hts (gi_V gw_214 gw_216 gw_11 gw_53 gw_217) rfl rfl rfl (by decide +kernel) ⟨Nat.le_of_ble_eq_true rfl, Nat.le_of_ble_eq_true rfl⟩) ⟨g_blind, va_recv hK hP (ci := 2) (q0 := 0) rfl (wm_at (by decide) rfl), g_pre hP hK hD hN⟩ rfl rfl hl.1 rfl (lv_room (Nat.le_of_ble_eq_true rfl)) dX2_whole_1 ⟨Nat.zero_le _, Nat.zero_le _⟩) hD hS hA (fun u H locs hw hP hD hS => ?_)
  obtain rfl := hw
  have hP : va_P D vc (wT cs ad (up1 I 5 (I 0)) ((spL (I 0) (I 1) AN AI AL).1) AI ((spL (I 0) (I 1) AN AI AL).2)) H := hP
  have hD : va_D A (wT cs ad (up1 I 5 (I 0)) ((spL (I 0) (I 1) AN AI AL).1) AI ((spL (I 0) (I 1) AN AI AL).2)) := hD
  have hbg2 : ∀ r, r < 3 → (spL (I 0) (I 1) AN AI AL).1 7 r < 6 := sp_bg hbg
  refine lv_aload_n hx hb dX2_whole_4 rfl (lv_at hl 0 rfl) ?_
  refine b_get (own := RX2) (C := RX2) (T := TX2) (N := 5) (ci := 2) (v := .ref (ad 3)) hx hb hts usX2 hown hK hP 0 (by decide) rfl rfl 3 (by decide) (hts _ gw_133) rfl dX2_whole_5 ?_
  refine g_calli (va_runVN (C := RX1) (As := []) (rest := []) ⟨hx, hb, hml, hown, hts⟩ (ctX1_isReached l D cs ad (up1 I 5 (I 0)) ((spL (I 0) (I 1) AN AI AL).1) AI ((spL (I 0) (I 1) AN AI AL).2) _ ) ⟨va_cnB 0 hts (gi_C gw_254) rfl rfl rfl (hN _ (by decide +kernel) : va_Nw (Cond.methodLinkNest "TriangularSystems" 105 ⟨"TriangularSystems$Lattice", "isReached", "()Z"⟩ "TriangularSystems") s) (hts _ gw_56) (by decide +kernel) ⟨Nat.le_of_ble_eq_true rfl, Nat.le_of_ble_eq_true rfl⟩, hts _ gw_253, hts _ gw_16⟩ ⟨g_blind, va_recv hK hP (ci := 1) (q0 := 3) rfl (wm_at (by decide) rfl), g_pre hP hK hD hN⟩ rfl rfl hl.1 rfl (lv_room (Nat.le_of_ble_eq_true rfl)) dX2_whole_8 ⟨Nat.zero_le _, Nat.zero_le _⟩) hD hS hA (fun r u H locs hw hP hD hS => ?_)
  obtain ⟨rfl, hw2⟩ := hw
  have hP : va_P D vc (wT cs ad (up1 I 5 (I 0)) ((spL (I 0) (I 1) AN AI AL).1) AI ((spL (I 0) (I 1) AN AI AL).2)) H := hP
  have hD : va_D A (wT cs ad (up1 I 5 (I 0)) ((spL (I 0) (I 1) AN AI AL).1) AI ((spL (I 0) (I 1) AN AI AL).2)) := hD
  subst hw2
  exact g_zret hx hb hr hlocks (bz_n _) (up1 I 5 (I 0), (spL (I 0) (I 1) AN AI AL).1, AI, (spL (I 0) (I 1) AN AI AL).2) (⟨rfl, rfl⟩) hK hP hD hS dX2_whole_11

abbrev rmX2_fittingFirsts : Room := { frames := 1, cells := 0, slots := 0, locals := 30 }
set_option maxHeartbeats 4000000 in
set_option maxRecDepth 100000 in
/-- fittingFirsts -/
theorem ctX2_fittingFirsts (l : Launch) (D : va_G) (cs : Nat → ClassId) (ad : Nat → Nat) (I : Nat → Nat) (AN : Nat → Nat → Nat) (AI : Nat → Nat → Int32) (AL : Nat → Nat → Int64) (sz : Nat) (y z mo : Int32) (hn3 : I 0 ≤ 3) (he3 : I 1 ≤ 3) : Met l yX2_fittingFirsts (Cond.code yX2_fittingFirsts cX2_fittingFirsts 9 (some FieldType.int) :: GW) rmX2_fittingFirsts (va_Pc [.ref (ad 0), .int y, .int z, .int mo] (gP D cs (wT cs ad I AN AI AL) sz)) (va_Qi (fun (r : Int32) (u : TS) => u = (I, AN, AI, AL) ∧ r = fitf (I 0) AI y z (I 1) 0 (-mo) mo) (gB D cs (va_A (wT cs ad I AN AI AL) sz) (wTs cs ad)) (va_A (wT cs ad I AN AI AL) sz)) 0 0 (va_A (wT cs ad I AN AI AL) sz) := by
  refine Met.ofW (cc := cX2_fittingFirsts) (maxL := 9) (ret := (some FieldType.int)) (by decide) rfl ?_
  intro p e s m args below meth c s₁ B hml hv
  obtain ⟨rfl, hsz, hP, hK, hD0, hN⟩ := hv
  have hx := B.exec
  have hb := B.bytes
  have hr := B.returns
  have hts : ∀ w ∈ GW, w.before _ s = true := fun w h => atoms_spec (ws := Cond.code yX2_fittingFirsts cX2_fittingFirsts 9 (some FieldType.int) :: GW) B.pre w (List.mem_cons_of_mem _ h)
  have hown : s.vm.findClass RX2 = some m.cls := findClass_of_methodNamed B.named
  have hlocks := B.notSynchronized
  subst hsz
  have hD := hD0.self (sz := s.heap.size)
  generalize hAe : va_A (wT cs ad I AN AI AL) s.heap.size = A at hD ⊢
  have hA : ∀ q : Nat, s.heap.size ≤ q → A q := fun q h => by rw [← hAe]; exact Or.inr h
  have hS : va_S A s.heap s.heap [] := va_S.rf
  have hl := lv_entry [.ref (ad 0), .int y, .int z, .int mo] (n := 9) (Nat.le_of_ble_eq_true rfl)
  rw [lg_entry_eq]
  generalize (lg_sl [.ref (ad 0), .int y, .int z, .int mo] ++ List.replicate (9 - (lg_sl [.ref (ad 0), .int y, .int z, .int mo]).length) Slot.unset).toArray = ls at hl ⊢
  have hl : lv_has ls 9 [(0, .ref (ad 0)), (1, .int y), (2, .int z), (3, .int mo)] := hl
  generalize hargs : ([.ref (ad 0), .int y, .int z, .int mo] : List Value).toArray = args at *
  show W p l e rmX2_fittingFirsts s m args below meth c s.heap [] 0 0 _ (F0 m 0 ls [])
  refine lv_iload_n hx hb dX2_fittingFirsts_0 rfl (lv_at hl 3 rfl) ?_
  refine lv_ineg hx hb dX2_fittingFirsts_1 ?_
  refine lv_istore (lv' := [(4, .int (-mo)), (0, .ref (ad 0)), (1, .int y), (2, .int z), (3, .int mo)]) hx hb dX2_fittingFirsts_2 hl (by decide) rfl (fun ls hl => ?_)
  refine lv_iload_n hx hb dX2_fittingFirsts_4 rfl (lv_at hl 4 rfl) ?_
  refine lv_istore (lv' := [(5, .int mo), (4, .int (-mo)), (0, .ref (ad 0)), (1, .int y), (2, .int z), (3, .int mo)]) hx hb dX2_fittingFirsts_5 hl (by decide) rfl (fun ls hl => ?_)
  refine lv_iconst (v := nI 0) hx hb dX2_fittingFirsts_7 (by decide) ?_
  refine lv_istore (lv' := [(6, .int (nI 0)), (5, .int mo), (4, .int (-mo)), (0, .ref (ad 0)), (1, .int y), (2, .int z), (3, .int mo)]) hx hb dX2_fittingFirsts_8 hl (by decide) rfl (fun ls hl => ?_)
  have lp10 : ∀ (n g : Nat) (fr tt : Int32) (H : Heap) (locs : List Loc) (ls : Array Slot), g + n = I 1 → va_P D vc (wT cs ad I AN AI AL) H → va_D A (wT cs ad I AN AI AL) → va_S A s.heap H locs → lv_has ls 9 [(6, .int (nI g)), (5, .int tt), (4, .int fr), (0, .ref (ad 0)), (1, .int y), (2, .int z), (3, .int mo)] → W p l e rmX2_fittingFirsts s m args below meth c H locs 0 0 (MQ below (va_Qi (fun (r : Int32) (u : TS) => u = (I, AN, AI, AL) ∧ r = fitf (I 0) AI y z n g fr tt) (gB D cs A (wTs cs ad)) A) args s 0 0 A) (F0 m 10 ls []) := by
    intro n
    induction n with
    | zero =>
      intro g fr tt H locs ls hn hP hD hS hl
      have hi : g = I 1 := by omega
      refine lv_iload hx hb dX2_fittingFirsts_10 (lv_at hl 0 rfl) ?_
      refine lv_aload_n hx hb dX2_fittingFirsts_12 rfl (lv_at hl 3 rfl) ?_
      refine b_get (own := RX2) (C := RX2) (T := TX2) (N := 5) (ci := 2) (v := .int (nI (I 1))) hx hb hts usX2 hown hK hP 0 (by decide) rfl rfl 4 (by decide) (hts _ gw_134) rfl dX2_fittingFirsts_13 ?_
      refine b_ge_t (tgt := 97) hx hb dX2_fittingFirsts_16 (by decide) (by omega) (by omega) ?_
      refine lv_iload hx hb dX2_fittingFirsts_97 (lv_at hl 2 rfl) ?_
      refine lv_iload hx hb dX2_fittingFirsts_99 (lv_at hl 1 rfl) ?_
      refine lv_icmp_gt (tgt := 114) hx hb dX2_fittingFirsts_101 (by decide) (fun h => ?_) (fun h => ?_)
      · refine lv_iconst (v := nI 0) hx hb dX2_fittingFirsts_114 (by decide) ?_
        exact g_iret hx hb hr hlocks (I, AN, AI, AL) (⟨rfl, by rw [fitf, if_pos h]⟩) hK hP hD hS dX2_fittingFirsts_115
      · refine lv_iload hx hb dX2_fittingFirsts_104 (lv_at hl 1 rfl) ?_
        refine lv_iload hx hb dX2_fittingFirsts_106 (lv_at hl 2 rfl) ?_
        refine lv_isub hx hb dX2_fittingFirsts_108 ?_
        refine lv_iconst (v := nI 1) hx hb dX2_fittingFirsts_109 (by decide) ?_
        refine lv_iadd hx hb dX2_fittingFirsts_110 ?_
        refine lv_goto (tgt := 115) hx hb dX2_fittingFirsts_111 (by decide) ?_
        exact g_iret hx hb hr hlocks (I, AN, AI, AL) (⟨rfl, by rw [fitf, if_neg h]⟩) hK hP hD hS dX2_fittingFirsts_115
    | succ n ih =>
      intro g fr tt H locs ls hn hP hD hS hl
      have hi : g < I 1 := by omega
      refine lv_iload hx hb dX2_fittingFirsts_10 (lv_at hl 0 rfl) ?_
      refine lv_aload_n hx hb dX2_fittingFirsts_12 rfl (lv_at hl 3 rfl) ?_
      refine b_get (own := RX2) (C := RX2) (T := TX2) (N := 5) (ci := 2) (v := .int (nI (I 1))) hx hb hts usX2 hown hK hP 0 (by decide) rfl rfl 4 (by decide) (hts _ gw_134) rfl dX2_fittingFirsts_13 ?_
      refine b_ge_f (tgt := 97) hx hb dX2_fittingFirsts_16 (by decide) (by omega) (by omega) ?_
      refine lv_aload_n hx hb dX2_fittingFirsts_19 rfl (lv_at hl 3 rfl) ?_
      refine b_get (own := RX2) (C := RX2) (T := TX2) (N := 5) (ci := 2) (v := .ref (ad 1)) hx hb hts usX2 hown hK hP 0 (by decide) rfl rfl 1 (by decide) (hts _ gw_131) rfl dX2_fittingFirsts_20 ?_
      refine lv_iload hx hb dX2_fittingFirsts_23 (lv_at hl 0 rfl) ?_
      refine tN_r hx hb hK hP (by omega) dX2_fittingFirsts_25 ?_
      refine lv_iconst (v := nI 0) hx hb dX2_fittingFirsts_26 (by decide) ?_
      refine tN_ld (i := g) hx hb hK hP (by omega) (by omega) dX2_fittingFirsts_27 ?_
      refine lv_istore (lv' := [(7, .int (AI (g + 8) 0)), (6, .int (nI g)), (5, .int tt), (4, .int fr), (0, .ref (ad 0)), (1, .int y), (2, .int z), (3, .int mo)]) hx hb dX2_fittingFirsts_28 hl (by decide) rfl (fun ls hl => ?_)
      refine lv_aload_n hx hb dX2_fittingFirsts_30 rfl (lv_at hl 4 rfl) ?_
      refine lv_iload hx hb dX2_fittingFirsts_31 (lv_at hl 1 rfl) ?_
      refine lv_lconst (v := 0) hx hb dX2_fittingFirsts_33 (by decide) ?_
      refine lv_iload_n hx hb dX2_fittingFirsts_34 rfl (lv_at hl 5 rfl) ?_
      refine lv_i2l (v := Int32.toInt64 y) hx hb dX2_fittingFirsts_35 rfl ?_
      refine lv_iload_n hx hb dX2_fittingFirsts_36 rfl (lv_at hl 6 rfl) ?_
      refine lv_i2l (v := Int32.toInt64 z) hx hb dX2_fittingFirsts_37 rfl ?_
      refine g_calll (va_runV (As := [.int (nI g), .long 0, .long (Int32.toInt64 y), .long (Int32.toInt64 z)]) (rest := []) ⟨hx, hb, hml, hown, hts⟩ (ctX2_excess l D cs ad I AN AI AL _ g 0 (Int32.toInt64 y) (Int32.toInt64 z) (by omega) hn3) (cwV 4 hts (gi_V gw_259 gw_261 gw_17 gw_53 gw_262) rfl rfl rfl (by decide +kernel) ⟨Nat.le_of_ble_eq_true rfl, Nat.le_of_ble_eq_true rfl⟩) ⟨g_blind, va_recv hK hP (ci := 2) (q0 := 0) rfl (wm_at (by decide) rfl), g_pre hP hK hD hN⟩ rfl rfl hl.1 rfl (lv_room (Nat.le_of_ble_eq_true rfl)) dX2_fittingFirsts_38 ⟨Nat.zero_le _, Nat.zero_le _⟩) hD hS hA (fun r u H locs hw hP hD hS => ?_)
      obtain ⟨rfl, rfl⟩ := hw
      have hP : va_P D vc (wT cs ad I AN AI AL) H := hP
      have hD : va_D A (wT cs ad I AN AI AL) := hD
      refine lv_lneg hx hb dX2_fittingFirsts_41 ?_
      refine lv_l2i (v := Int64.toInt32 (-(exc (I 0) AI g 0 (Int32.toInt64 y) (Int32.toInt64 z)))) hx hb dX2_fittingFirsts_42 rfl ?_
      refine lv_istore (lv' := [(8, .int (Int64.toInt32 (-(exc (I 0) AI g 0 (Int32.toInt64 y) (Int32.toInt64 z))))), (7, .int (AI (g + 8) 0)), (6, .int (nI g)), (5, .int tt), (4, .int fr), (0, .ref (ad 0)), (1, .int y), (2, .int z), (3, .int mo)]) hx hb dX2_fittingFirsts_43 hl (by decide) rfl (fun ls hl => ?_)
      refine lv_iload hx hb dX2_fittingFirsts_45 (lv_at hl 1 rfl) ?_
      refine lv_if_ne (tgt := 57) hx hb dX2_fittingFirsts_47 (by decide) (fun h1 => ?_) (fun h1 => ?_)
      · refine lv_iload hx hb dX2_fittingFirsts_57 (lv_at hl 0 rfl) ?_
        refine lv_iload hx hb dX2_fittingFirsts_59 (lv_at hl 1 rfl) ?_
        refine lv_irem hx hb dX2_fittingFirsts_61 (h1) ?_
        refine lv_if_eq (tgt := 67) hx hb dX2_fittingFirsts_62 (by decide) (fun h2 => ?_) (fun h2 => ?_)
        · refine lv_iload hx hb dX2_fittingFirsts_67 (lv_at hl 4 rfl) ?_
          refine lv_iload hx hb dX2_fittingFirsts_69 (lv_at hl 0 rfl) ?_
          refine lv_iload hx hb dX2_fittingFirsts_71 (lv_at hl 1 rfl) ?_
          refine lv_idiv hx hb dX2_fittingFirsts_73 (h1) ?_
          refine va_mmax hx hb (by rw [hml]; exact hl.1.symm) hown (hts _ gw_75) (hts _ gw_76) (hts _ gw_54) (hts _ gw_77) (Nat.le_of_ble_eq_true rfl) (Nat.le_of_ble_eq_true rfl) (Nat.zero_le _) (Nat.zero_le _) dX2_fittingFirsts_74 ?_
          refine lv_istore (lv' := [(4, .int (if fr < ((Int64.toInt32 (-(exc (I 0) AI g 0 (Int32.toInt64 y) (Int32.toInt64 z)))) / (AI (g + 8) 0)) then ((Int64.toInt32 (-(exc (I 0) AI g 0 (Int32.toInt64 y) (Int32.toInt64 z)))) / (AI (g + 8) 0)) else fr)), (8, .int (Int64.toInt32 (-(exc (I 0) AI g 0 (Int32.toInt64 y) (Int32.toInt64 z))))), (7, .int (AI (g + 8) 0)), (6, .int (nI g)), (5, .int tt), (0, .ref (ad 0)), (1, .int y), (2, .int z), (3, .int mo)]) hx hb dX2_fittingFirsts_77 hl (by decide) rfl (fun ls hl => ?_)
          refine lv_iload hx hb dX2_fittingFirsts_79 (lv_at hl 4 rfl) ?_
          refine lv_iload hx hb dX2_fittingFirsts_81 (lv_at hl 1 rfl) ?_
          refine lv_iload hx hb dX2_fittingFirsts_83 (lv_at hl 2 rfl) ?_
          refine lv_idiv hx hb dX2_fittingFirsts_85 (h1) ?_
          refine va_mmin hx hb (by rw [hml]; exact hl.1.symm) hown (hts _ gw_72) (hts _ gw_73) (hts _ gw_54) (hts _ gw_74) (Nat.le_of_ble_eq_true rfl) (Nat.le_of_ble_eq_true rfl) (Nat.zero_le _) (Nat.zero_le _) dX2_fittingFirsts_86 ?_
          refine lv_istore (lv' := [(5, .int (if ((Int64.toInt32 (-(exc (I 0) AI g 0 (Int32.toInt64 y) (Int32.toInt64 z)))) / (AI (g + 8) 0)) < tt then ((Int64.toInt32 (-(exc (I 0) AI g 0 (Int32.toInt64 y) (Int32.toInt64 z)))) / (AI (g + 8) 0)) else tt)), (4, .int (if fr < ((Int64.toInt32 (-(exc (I 0) AI g 0 (Int32.toInt64 y) (Int32.toInt64 z)))) / (AI (g + 8) 0)) then ((Int64.toInt32 (-(exc (I 0) AI g 0 (Int32.toInt64 y) (Int32.toInt64 z)))) / (AI (g + 8) 0)) else fr)), (8, .int (Int64.toInt32 (-(exc (I 0) AI g 0 (Int32.toInt64 y) (Int32.toInt64 z))))), (7, .int (AI (g + 8) 0)), (6, .int (nI g)), (0, .ref (ad 0)), (1, .int y), (2, .int z), (3, .int mo)]) hx hb dX2_fittingFirsts_89 hl (by decide) rfl (fun ls hl => ?_)
          refine b_iinc (lv' := [(6, .int (nI (g + 1))), (5, .int (if ((Int64.toInt32 (-(exc (I 0) AI g 0 (Int32.toInt64 y) (Int32.toInt64 z)))) / (AI (g + 8) 0)) < tt then ((Int64.toInt32 (-(exc (I 0) AI g 0 (Int32.toInt64 y) (Int32.toInt64 z)))) / (AI (g + 8) 0)) else tt)), (4, .int (if fr < ((Int64.toInt32 (-(exc (I 0) AI g 0 (Int32.toInt64 y) (Int32.toInt64 z)))) / (AI (g + 8) 0)) then ((Int64.toInt32 (-(exc (I 0) AI g 0 (Int32.toInt64 y) (Int32.toInt64 z)))) / (AI (g + 8) 0)) else fr)), (8, .int (Int64.toInt32 (-(exc (I 0) AI g 0 (Int32.toInt64 y) (Int32.toInt64 z))))), (7, .int (AI (g + 8) 0)), (0, .ref (ad 0)), (1, .int y), (2, .int z), (3, .int mo)]) hx hb dX2_fittingFirsts_91 hl (k := 4) rfl (by decide) rfl (fun ls hl => ?_)
          refine lv_goto (tgt := 10) hx hb dX2_fittingFirsts_94 (by decide) ?_
          rw [show fitf (I 0) AI y z (n + 1) g fr tt = fitf (I 0) AI y z n (g + 1) (if fr < ((Int64.toInt32 (-(exc (I 0) AI g 0 (Int32.toInt64 y) (Int32.toInt64 z)))) / (AI (g + 8) 0)) then ((Int64.toInt32 (-(exc (I 0) AI g 0 (Int32.toInt64 y) (Int32.toInt64 z)))) / (AI (g + 8) 0)) else fr) (if ((Int64.toInt32 (-(exc (I 0) AI g 0 (Int32.toInt64 y) (Int32.toInt64 z)))) / (AI (g + 8) 0)) < tt then ((Int64.toInt32 (-(exc (I 0) AI g 0 (Int32.toInt64 y) (Int32.toInt64 z)))) / (AI (g + 8) 0)) else tt) from (if_neg h1).trans (if_pos h2)]
          exact ih (g + 1) _ _ H locs ls (by omega) hP hD hS (lv_sub hl [0, 1, 2, 5, 6, 7, 8] rfl)
        · refine lv_iconst (v := nI 0) hx hb dX2_fittingFirsts_65 (by decide) ?_
          exact g_iret hx hb hr hlocks (I, AN, AI, AL) (⟨rfl, ((if_neg h1).trans (if_neg h2)).symm⟩) hK hP hD hS dX2_fittingFirsts_66
      · refine lv_iload hx hb dX2_fittingFirsts_50 (lv_at hl 0 rfl) ?_
        refine lv_if_eq (tgt := 91) hx hb dX2_fittingFirsts_52 (by decide) (fun h2 => ?_) (fun h2 => ?_)
        · refine b_iinc (lv' := [(6, .int (nI (g + 1))), (8, .int (Int64.toInt32 (-(exc (I 0) AI g 0 (Int32.toInt64 y) (Int32.toInt64 z))))), (7, .int (AI (g + 8) 0)), (5, .int tt), (4, .int fr), (0, .ref (ad 0)), (1, .int y), (2, .int z), (3, .int mo)]) hx hb dX2_fittingFirsts_91 hl (k := 2) rfl (by decide) rfl (fun ls hl => ?_)
          refine lv_goto (tgt := 10) hx hb dX2_fittingFirsts_94 (by decide) ?_
          rw [show fitf (I 0) AI y z (n + 1) g fr tt = fitf (I 0) AI y z n (g + 1) fr tt from (if_pos h1).trans (if_pos h2)]
          exact ih (g + 1) _ _ H locs ls (by omega) hP hD hS (lv_sub hl [0, 3, 4, 5, 6, 7, 8] rfl)
        · refine lv_iconst (v := nI 0) hx hb dX2_fittingFirsts_55 (by decide) ?_
          exact g_iret hx hb hr hlocks (I, AN, AI, AL) (⟨rfl, ((if_pos h1).trans (if_neg h2)).symm⟩) hK hP hD hS dX2_fittingFirsts_56
  exact lp10 ((I 1) - 0) 0 (-mo) mo _ _ ls (by omega) hP hD hS (lv_sub hl [0, 1, 2, 3, 4, 5, 6] rfl)

abbrev rmX2_eliminateNearest : Room := { frames := 5, cells := 0, slots := 0, locals := 125 }
set_option maxHeartbeats 4000000 in
set_option maxRecDepth 100000 in
/-- eliminateNearest -/
theorem ctX2_eliminateNearest (l : Launch) (D : va_G) (cs : Nat → ClassId) (ad : Nat → Nat) (I : Nat → Nat) (AN : Nat → Nat → Nat) (AI : Nat → Nat → Int32) (AL : Nat → Nat → Int64) (sz : Nat)  (hn3 : I 0 ≤ 3) (he3 : I 1 ≤ 3) (hbg : ∀ r, r < 3 → AN 7 r < 6) : Met l yX2_eliminateNearest (Cond.code yX2_eliminateNearest cX2_eliminateNearest 4 none :: GW) rmX2_eliminateNearest (va_Pc [.ref (ad 0)] (gP D cs (wT cs ad I AN AI AL) sz)) (va_Qv (fun u : TS => u = (Ieq (up1 I 5 (I 0)) (I 0 + 1) (I 0 + 1 + mbs (spL (I 0) (I 1) AN AI AL).1 (I 0)) (neE (I 0) (I 1) AN AI AL).1, (neE (I 0) (I 1) AN AI AL).2.1, AI, (neE (I 0) (I 1) AN AI AL).2.2)) (gB D cs (va_A (wT cs ad I AN AI AL) sz) (wTs cs ad)) (va_A (wT cs ad I AN AI AL) sz)) 0 0 (va_A (wT cs ad I AN AI AL) sz) := by
  refine Met.ofW (cc := cX2_eliminateNearest) (maxL := 4) (ret := none) (by decide) rfl ?_
  intro p e s m args below meth c s₁ B hml hv
  obtain ⟨rfl, hsz, hP, hK, hD0, hN⟩ := hv
  have hx := B.exec
  have hb := B.bytes
  have hr := B.returns
  have hts : ∀ w ∈ GW, w.before _ s = true := fun w h => atoms_spec (ws := Cond.code yX2_eliminateNearest cX2_eliminateNearest 4 none :: GW) B.pre w (List.mem_cons_of_mem _ h)
  have hown : s.vm.findClass RX2 = some m.cls := findClass_of_methodNamed B.named
  have hlocks := B.notSynchronized
  subst hsz
  have hD := hD0.self (sz := s.heap.size)
  generalize hAe : va_A (wT cs ad I AN AI AL) s.heap.size = A at hD ⊢
  have hA : ∀ q : Nat, s.heap.size ≤ q → A q := fun q h => by rw [← hAe]; exact Or.inr h
  have hS : va_S A s.heap s.heap [] := va_S.rf
  have hl := lv_entry [.ref (ad 0)] (n := 4) (Nat.le_of_ble_eq_true rfl)
  rw [lg_entry_eq]
  generalize (lg_sl [.ref (ad 0)] ++ List.replicate (4 - (lg_sl [.ref (ad 0)]).length) Slot.unset).toArray = ls at hl ⊢
  have hl : lv_has ls 4 [(0, .ref (ad 0))] := hl
  generalize hargs : ([.ref (ad 0)] : List Value).toArray = args at *
  show W p l e rmX2_eliminateNearest s m args below meth c s.heap [] 0 0 _ (F0 m 0 ls [])
  refine lv_aload_n hx hb dX2_eliminateNearest_0 rfl (lv_at hl 0 rfl) ?_
  refine g_callv (va_runV (As := []) (rest := []) ⟨hx, hb, hml, hown, hts⟩ (ctX2_spanLattice l D cs ad I AN AI AL _ hn3 he3 hbg) (cwV 0 hts (gi_V gw_214 gw_216 gw_11 gw_53 gw_217) rfl rfl rfl (by decide +kernel) ⟨Nat.le_of_ble_eq_true rfl, Nat.le_of_ble_eq_true rfl⟩) ⟨g_blind, va_recv hK hP (ci := 2) (q0 := 0) rfl (wm_at (by decide) rfl), g_pre hP hK hD hN⟩ rfl rfl hl.1 rfl (lv_room (Nat.le_of_ble_eq_true rfl)) dX2_eliminateNearest_1 ⟨Nat.zero_le _, Nat.zero_le _⟩) hD hS hA (fun u H locs hw hP hD hS => ?_)
  obtain rfl := hw
  have hP : va_P D vc (wT cs ad (up1 I 5 (I 0)) ((spL (I 0) (I 1) AN AI AL).1) AI ((spL (I 0) (I 1) AN AI AL).2)) H := hP
  have hD : va_D A (wT cs ad (up1 I 5 (I 0)) ((spL (I 0) (I 1) AN AI AL).1) AI ((spL (I 0) (I 1) AN AI AL).2)) := hD
  have hbg2 : ∀ r, r < 3 → (spL (I 0) (I 1) AN AI AL).1 7 r < 6 := sp_bg hbg
  refine lv_aload_n hx hb dX2_eliminateNearest_4 rfl (lv_at hl 0 rfl) ?_
  refine b_get (own := RX2) (C := RX2) (T := TX2) (N := 5) (ci := 2) (v := .ref (ad 3)) hx hb hts usX2 hown hK hP 0 (by decide) rfl rfl 3 (by decide) (hts _ gw_133) rfl dX2_eliminateNearest_5 ?_
  refine g_calli (va_runVN (C := RX1) (As := []) (rest := []) ⟨hx, hb, hml, hown, hts⟩ (ctX1_members l D cs ad (up1 I 5 (I 0)) ((spL (I 0) (I 1) AN AI AL).1) AI ((spL (I 0) (I 1) AN AI AL).2) _ (show I 0 ≤ 3 from hn3) hbg2) ⟨va_cnB 0 hts (gi_C gw_449) rfl rfl rfl (hN _ (by decide +kernel) : va_Nw (Cond.methodLinkNest "TriangularSystems" 108 ⟨"TriangularSystems$Lattice", "members", "()I"⟩ "TriangularSystems") s) (hts _ gw_56) (by decide +kernel) ⟨Nat.le_of_ble_eq_true rfl, Nat.le_of_ble_eq_true rfl⟩, hts _ gw_448, hts _ gw_23⟩ ⟨g_blind, va_recv hK hP (ci := 1) (q0 := 3) rfl (wm_at (by decide) rfl), g_pre hP hK hD hN⟩ rfl rfl hl.1 rfl (lv_room (Nat.le_of_ble_eq_true rfl)) dX2_eliminateNearest_8 ⟨Nat.zero_le _, Nat.zero_le _⟩) hD hS hA (fun r u H locs hw hP hD hS => ?_)
  obtain ⟨rfl, hw2⟩ := hw
  have hP : va_P D vc (wT cs ad (up1 I 5 (I 0)) ((spL (I 0) (I 1) AN AI AL).1) AI ((spL (I 0) (I 1) AN AI AL).2)) H := hP
  have hD : va_D A (wT cs ad (up1 I 5 (I 0)) ((spL (I 0) (I 1) AN AI AL).1) AI ((spL (I 0) (I 1) AN AI AL).2)) := hD
  have hw2 : r = nI (mbs (spL (I 0) (I 1) AN AI AL).1 (I 0)) := hw2
  subst hw2
  have hmb : mbs (spL (I 0) (I 1) AN AI AL).1 (I 0) ≤ 0 + I 0 := mbs_le (AN := (spL (I 0) (I 1) AN AI AL).1) (I 0) 0 0
  obtain ⟨mb, hmbe⟩ : ∃ mb, mb = mbs (spL (I 0) (I 1) AN AI AL).1 (I 0) := ⟨_, rfl⟩
  rw [← hmbe] at hmb ⊢
  obtain ⟨AN9, AL9, hS9⟩ : ∃ AN9 AL9, (spL (I 0) (I 1) AN AI AL) = (AN9, AL9) := ⟨_, _, rfl⟩
  have hP : va_P D vc (wT cs ad (up1 I 5 (I 0)) AN9 AI AL9) H := by rw [hS9] at hP; exact hP
  have hD : va_D A (wT cs ad (up1 I 5 (I 0)) AN9 AI AL9) := by rw [hS9] at hD; exact hD
  rw [hS9] at hbg2 hmbe
  refine lv_istore_n (lv' := [(1, .int (nI mb)), (0, .ref (ad 0))]) hx hb dX2_eliminateNearest_11 rfl hl (by decide) rfl (fun ls hl => ?_)
  refine lv_aload_n hx hb dX2_eliminateNearest_12 rfl (lv_at hl 1 rfl) ?_
  refine b_get (own := RX2) (C := RX2) (T := TX2) (N := 5) (ci := 2) (v := .ref (ad 2)) hx hb hts usX2 hown hK hP 0 (by decide) rfl rfl 2 (by decide) (hts _ gw_132) rfl dX2_eliminateNearest_13 ?_
  refine lv_aload_n hx hb dX2_eliminateNearest_16 rfl (lv_at hl 1 rfl) ?_
  refine b_get (own := RX2) (C := RX2) (T := TX2) (N := 5) (ci := 2) (v := .int (nI (I 0))) hx hb hts usX2 hown hK hP 0 (by decide) rfl rfl 0 (by decide) (hts _ gw_130) rfl dX2_eliminateNearest_17 ?_
  refine lv_iconst (v := nI 1) hx hb dX2_eliminateNearest_20 (by decide) ?_
  refine b_addn hx hb dX2_eliminateNearest_21 ?_
  refine lv_aload_n hx hb dX2_eliminateNearest_22 rfl (lv_at hl 1 rfl) ?_
  refine b_get (own := RX2) (C := RX2) (T := TX2) (N := 5) (ci := 2) (v := .int (nI (I 0))) hx hb hts usX2 hown hK hP 0 (by decide) rfl rfl 0 (by decide) (hts _ gw_130) rfl dX2_eliminateNearest_23 ?_
  refine lv_iconst (v := nI 1) hx hb dX2_eliminateNearest_26 (by decide) ?_
  refine b_addn hx hb dX2_eliminateNearest_27 ?_
  refine lv_iload_n hx hb dX2_eliminateNearest_28 rfl (lv_at hl 0 rfl) ?_
  refine b_addn hx hb dX2_eliminateNearest_29 ?_
  refine g_callv (va_runVN (C := RX0) (As := [.int (nI ((I 0) + 1)), .int (nI (((I 0) + 1) + mb))]) (rest := []) ⟨hx, hb, hml, hown, hts⟩ (ctX0_begin l D cs ad (up1 I 5 (I 0)) AN9 AI AL9 _ (I 0 + 1) (I 0 + 1 + mb) (by omega) (by omega)) ⟨va_cnB 2 hts (gi_C gw_157) rfl rfl rfl (hN _ (by decide +kernel) : va_Nw (Cond.methodLinkNest "TriangularSystems" 136 ⟨"TriangularSystems$Elimination", "begin", "(II)V"⟩ "TriangularSystems") s) (hts _ gw_55) (by decide +kernel) ⟨Nat.le_of_ble_eq_true rfl, Nat.le_of_ble_eq_true rfl⟩, hts _ gw_156, hts _ gw_1⟩ ⟨g_blind, va_recv hK hP (ci := 0) (q0 := 2) rfl (wm_at (by decide) rfl), g_pre hP hK hD hN⟩ rfl rfl hl.1 rfl (lv_room (Nat.le_of_ble_eq_true rfl)) dX2_eliminateNearest_30 ⟨Nat.zero_le _, Nat.zero_le _⟩) hD hS hA (fun u H locs hw hP hD hS => ?_)
  obtain rfl := hw
  have hP : va_P D vc (wT cs ad (up1 (up1 (up1 (up1 I 5 (I 0)) 2 (I 0 + 1)) 3 (I 0 + 1 + mb)) 4 0) AN9 AI (zer (I 0 + 1) (I 0 + 1 + mb) AL9)) H := hP
  have hD : va_D A (wT cs ad (up1 (up1 (up1 (up1 I 5 (I 0)) 2 (I 0 + 1)) 3 (I 0 + 1 + mb)) 4 0) AN9 AI (zer (I 0 + 1) (I 0 + 1 + mb) AL9)) := hD
  refine lv_iconst (v := nI 0) hx hb dX2_eliminateNearest_33 (by decide) ?_
  refine lv_istore_n (lv' := [(2, .int (nI 0)), (1, .int (nI mb)), (0, .ref (ad 0))]) hx hb dX2_eliminateNearest_34 rfl hl (by decide) rfl (fun ls hl => ?_)
  have lp35 : ∀ (Q : State → Prop) (n i : Nat) (X : Nat → Nat → Int64) (H : Heap) (locs : List Loc) (ls : Array Slot), i + n = I 0 + 1 → va_P D vc (wT cs ad (up1 (up1 (up1 (up1 I 5 (I 0)) 2 (I 0 + 1)) 3 (I 0 + 1 + mb)) 4 0) AN9 AI X) H → va_D A (wT cs ad (up1 (up1 (up1 (up1 I 5 (I 0)) 2 (I 0 + 1)) 3 (I 0 + 1 + mb)) 4 0) AN9 AI X) → va_S A s.heap H locs → lv_has ls 4 [(2, .int (nI i)), (1, .int (nI mb)), (0, .ref (ad 0))] → (∀ (H : Heap) (locs : List Loc) (ls : Array Slot), va_P D vc (wT cs ad (up1 (up1 (up1 (up1 I 5 (I 0)) 2 (I 0 + 1)) 3 (I 0 + 1 + mb)) 4 0) AN9 AI (fo (fun i X => up2 (up2 (fo (fun j Y => up2 Y (i + 11) j (cpr (I 1) AI i j)) (I 0) 0 X) (i + 11) (I 0) (if i = I 0 then 1 else 0)) (i + 11) (I 0 + 1) (cpr (I 1) AI i (I 0))) n i X)) H → va_D A (wT cs ad (up1 (up1 (up1 (up1 I 5 (I 0)) 2 (I 0 + 1)) 3 (I 0 + 1 + mb)) 4 0) AN9 AI (fo (fun i X => up2 (up2 (fo (fun j Y => up2 Y (i + 11) j (cpr (I 1) AI i j)) (I 0) 0 X) (i + 11) (I 0) (if i = I 0 then 1 else 0)) (i + 11) (I 0 + 1) (cpr (I 1) AI i (I 0))) n i X)) → va_S A s.heap H locs → lv_has ls 4 [(2, .int (nI (I 0 + 1))), (1, .int (nI mb)), (0, .ref (ad 0))] → W p l e rmX2_eliminateNearest s m args below meth c H locs 0 0 Q (F0 m 134 ls [])) → W p l e rmX2_eliminateNearest s m args below meth c H locs 0 0 Q (F0 m 35 ls []) := by
    intro Q n
    induction n with
    | zero =>
      intro i X H locs ls hn hP hD hS hl kx
      have hi : i = I 0 + 1 := by omega
      refine lv_iload_n hx hb dX2_eliminateNearest_35 rfl (lv_at hl 0 rfl) ?_
      refine lv_aload_n hx hb dX2_eliminateNearest_36 rfl (lv_at hl 2 rfl) ?_
      refine b_get (own := RX2) (C := RX2) (T := TX2) (N := 5) (ci := 2) (v := .int (nI (I 0))) hx hb hts usX2 hown hK hP 0 (by decide) rfl rfl 0 (by decide) (hts _ gw_130) rfl dX2_eliminateNearest_37 ?_
      refine b_gt_t (tgt := 134) hx hb dX2_eliminateNearest_40 (by decide) (by omega) (by omega) ?_
      rw [hi] at hl
      exact kx H locs ls hP hD hS (lv_sub hl [0, 1, 2] rfl)
    | succ n ih =>
      intro i X H locs ls hn hP hD hS hl kx
      have hi : i < I 0 + 1 := by omega
      refine lv_iload_n hx hb dX2_eliminateNearest_35 rfl (lv_at hl 0 rfl) ?_
      refine lv_aload_n hx hb dX2_eliminateNearest_36 rfl (lv_at hl 2 rfl) ?_
      refine b_get (own := RX2) (C := RX2) (T := TX2) (N := 5) (ci := 2) (v := .int (nI (I 0))) hx hb hts usX2 hown hK hP 0 (by decide) rfl rfl 0 (by decide) (hts _ gw_130) rfl dX2_eliminateNearest_37 ?_
      refine b_gt_f (tgt := 134) hx hb dX2_eliminateNearest_40 (by decide) (by omega) (by omega) ?_
      refine lv_iconst (v := nI 0) hx hb dX2_eliminateNearest_43 (by decide) ?_
      refine lv_istore_n (lv' := [(3, .int (nI 0)), (2, .int (nI i)), (1, .int (nI mb)), (0, .ref (ad 0))]) hx hb dX2_eliminateNearest_44 rfl hl (by decide) rfl (fun ls hl => ?_)
      have lp45 : ∀ (Q : State → Prop) (n j : Nat) (Y : Nat → Nat → Int64) (H : Heap) (locs : List Loc) (ls : Array Slot), j + n = I 0 → va_P D vc (wT cs ad (up1 (up1 (up1 (up1 I 5 (I 0)) 2 (I 0 + 1)) 3 (I 0 + 1 + mb)) 4 0) AN9 AI Y) H → va_D A (wT cs ad (up1 (up1 (up1 (up1 I 5 (I 0)) 2 (I 0 + 1)) 3 (I 0 + 1 + mb)) 4 0) AN9 AI Y) → va_S A s.heap H locs → lv_has ls 4 [(3, .int (nI j)), (2, .int (nI i)), (1, .int (nI mb)), (0, .ref (ad 0))] → (∀ (H : Heap) (locs : List Loc) (ls : Array Slot), va_P D vc (wT cs ad (up1 (up1 (up1 (up1 I 5 (I 0)) 2 (I 0 + 1)) 3 (I 0 + 1 + mb)) 4 0) AN9 AI (fo (fun j Y => up2 Y (i + 11) j (cpr (I 1) AI i j)) n j Y)) H → va_D A (wT cs ad (up1 (up1 (up1 (up1 I 5 (I 0)) 2 (I 0 + 1)) 3 (I 0 + 1 + mb)) 4 0) AN9 AI (fo (fun j Y => up2 Y (i + 11) j (cpr (I 1) AI i j)) n j Y)) → va_S A s.heap H locs → lv_has ls 4 [(3, .int (nI (I 0))), (2, .int (nI i)), (1, .int (nI mb)), (0, .ref (ad 0))] → W p l e rmX2_eliminateNearest s m args below meth c H locs 0 0 Q (F0 m 76 ls [])) → W p l e rmX2_eliminateNearest s m args below meth c H locs 0 0 Q (F0 m 45 ls []) := by
        intro Q n
        induction n with
        | zero =>
          intro j Y H locs ls hn hP hD hS hl kx
          have hi : j = I 0 := by omega
          refine lv_iload_n hx hb dX2_eliminateNearest_45 rfl (lv_at hl 0 rfl) ?_
          refine lv_aload_n hx hb dX2_eliminateNearest_46 rfl (lv_at hl 3 rfl) ?_
          refine b_get (own := RX2) (C := RX2) (T := TX2) (N := 5) (ci := 2) (v := .int (nI (I 0))) hx hb hts usX2 hown hK hP 0 (by decide) rfl rfl 0 (by decide) (hts _ gw_130) rfl dX2_eliminateNearest_47 ?_
          refine b_ge_t (tgt := 76) hx hb dX2_eliminateNearest_50 (by decide) (by omega) (by omega) ?_
          rw [hi] at hl
          exact kx H locs ls hP hD hS (lv_sub hl [0, 1, 2, 3] rfl)
        | succ n ih =>
          intro j Y H locs ls hn hP hD hS hl kx
          have hi : j < I 0 := by omega
          refine lv_iload_n hx hb dX2_eliminateNearest_45 rfl (lv_at hl 0 rfl) ?_
          refine lv_aload_n hx hb dX2_eliminateNearest_46 rfl (lv_at hl 3 rfl) ?_
          refine b_get (own := RX2) (C := RX2) (T := TX2) (N := 5) (ci := 2) (v := .int (nI (I 0))) hx hb hts usX2 hown hK hP 0 (by decide) rfl rfl 0 (by decide) (hts _ gw_130) rfl dX2_eliminateNearest_47 ?_
          refine b_ge_f (tgt := 76) hx hb dX2_eliminateNearest_50 (by decide) (by omega) (by omega) ?_
          refine lv_aload_n hx hb dX2_eliminateNearest_53 rfl (lv_at hl 3 rfl) ?_
          refine b_get (own := RX2) (C := RX2) (T := TX2) (N := 5) (ci := 2) (v := .ref (ad 2)) hx hb hts usX2 hown hK hP 0 (by decide) rfl rfl 2 (by decide) (hts _ gw_132) rfl dX2_eliminateNearest_54 ?_
          refine b_getN (own := RX2) (C := RX0) (host := RX2) (T := TX0) (N := 5) (ci := 0) (v := .ref (ad 4)) hx hb hts usX0 hown hK hP 2 (by decide) rfl rfl 0 (by decide) (hN _ (by decide +kernel)) rfl dX2_eliminateNearest_57 ?_
          refine lv_iload_n hx hb dX2_eliminateNearest_60 rfl (lv_at hl 1 rfl) ?_
          refine tE_r hx hb hK hP (by omega) dX2_eliminateNearest_61 ?_
          refine lv_iload_n hx hb dX2_eliminateNearest_62 rfl (lv_at hl 0 rfl) ?_
          refine lv_aload_n hx hb dX2_eliminateNearest_63 rfl (lv_at hl 3 rfl) ?_
          refine lv_iload_n hx hb dX2_eliminateNearest_64 rfl (lv_at hl 1 rfl) ?_
          refine lv_iload_n hx hb dX2_eliminateNearest_65 rfl (lv_at hl 0 rfl) ?_
          refine g_calll (va_runV (As := [.int (nI i), .int (nI j)]) (rest := [.int (nI j), .ref (ad (i + 11))]) ⟨hx, hb, hml, hown, hts⟩ (ctX2_columnProduct l D cs ad (up1 (up1 (up1 (up1 I 5 (I 0)) 2 (I 0 + 1)) 3 (I 0 + 1 + mb)) 4 0) AN9 AI Y _ i j he3 (by omega) (by omega)) (cwV 2 hts (gi_V gw_475 gw_477 gw_26 gw_53 gw_478) rfl rfl rfl (by decide +kernel) ⟨Nat.le_of_ble_eq_true rfl, Nat.le_of_ble_eq_true rfl⟩) ⟨g_blind, va_recv hK hP (ci := 2) (q0 := 0) rfl (wm_at (by decide) rfl), g_pre hP hK hD hN⟩ rfl rfl hl.1 rfl (lv_room (Nat.le_of_ble_eq_true rfl)) dX2_eliminateNearest_66 ⟨Nat.zero_le _, Nat.zero_le _⟩) hD hS hA (fun r u H locs hw hP hD hS => ?_)
          obtain ⟨rfl, rfl⟩ := hw
          have hP : va_P D vc (wT cs ad (up1 (up1 (up1 (up1 I 5 (I 0)) 2 (I 0 + 1)) 3 (I 0 + 1 + mb)) 4 0) AN9 AI Y) H := hP
          have hD : va_D A (wT cs ad (up1 (up1 (up1 (up1 I 5 (I 0)) 2 (I 0 + 1)) 3 (I 0 + 1 + mb)) 4 0) AN9 AI Y) := hD
          refine tE_st (i := i) hx hb hK hP hD hS (by omega) (by omega) dX2_eliminateNearest_69 (fun H locs hP hD hS => ?_)
          refine b_iinc (lv' := [(3, .int (nI (j + 1))), (2, .int (nI i)), (1, .int (nI mb)), (0, .ref (ad 0))]) hx hb dX2_eliminateNearest_70 hl (k := 0) rfl (by decide) rfl (fun ls hl => ?_)
          refine lv_goto (tgt := 45) hx hb dX2_eliminateNearest_73 (by decide) ?_
          exact ih (j + 1) _ H locs ls (by omega) hP hD hS (lv_sub hl [0, 1, 2, 3] rfl) kx
      refine lp45 _ (I 0) 0 X _ _ ls (by omega) hP hD hS (lv_sub hl [0, 1, 2, 3] rfl) (fun H locs ls hP hD hS hl => ?_)
      refine lv_aload_n hx hb dX2_eliminateNearest_76 rfl (lv_at hl 3 rfl) ?_
      refine b_get (own := RX2) (C := RX2) (T := TX2) (N := 5) (ci := 2) (v := .ref (ad 2)) hx hb hts usX2 hown hK hP 0 (by decide) rfl rfl 2 (by decide) (hts _ gw_132) rfl dX2_eliminateNearest_77 ?_
      refine b_getN (own := RX2) (C := RX0) (host := RX2) (T := TX0) (N := 5) (ci := 0) (v := .ref (ad 4)) hx hb hts usX0 hown hK hP 2 (by decide) rfl rfl 0 (by decide) (hN _ (by decide +kernel)) rfl dX2_eliminateNearest_80 ?_
      refine lv_iload_n hx hb dX2_eliminateNearest_83 rfl (lv_at hl 1 rfl) ?_
      refine tE_r hx hb hK hP (by omega) dX2_eliminateNearest_84 ?_
      refine lv_aload_n hx hb dX2_eliminateNearest_85 rfl (lv_at hl 3 rfl) ?_
      refine b_get (own := RX2) (C := RX2) (T := TX2) (N := 5) (ci := 2) (v := .int (nI (I 0))) hx hb hts usX2 hown hK hP 0 (by decide) rfl rfl 0 (by decide) (hts _ gw_130) rfl dX2_eliminateNearest_86 ?_
      refine lv_iload_n hx hb dX2_eliminateNearest_89 rfl (lv_at hl 1 rfl) ?_
      refine lv_aload_n hx hb dX2_eliminateNearest_90 rfl (lv_at hl 3 rfl) ?_
      refine b_get (own := RX2) (C := RX2) (T := TX2) (N := 5) (ci := 2) (v := .int (nI (I 0))) hx hb hts usX2 hown hK hP 0 (by decide) rfl rfl 0 (by decide) (hts _ gw_130) rfl dX2_eliminateNearest_91 ?_
      by_cases hin : i = I 0
      · refine b_ne_f (tgt := 101) hx hb dX2_eliminateNearest_94 (by decide) (hin)  ?_
        refine lv_lconst (v := 1) hx hb dX2_eliminateNearest_97 (by decide) ?_
        refine lv_goto (tgt := 102) hx hb dX2_eliminateNearest_98 (by decide) ?_
        refine tE_st (i := i) hx hb hK hP hD hS (by omega) (by omega) dX2_eliminateNearest_102 (fun H locs hP hD hS => ?_)
        rw [show (1 : Int64) = (if i = I 0 then 1 else 0) from (if_pos hin).symm] at hP hD
        refine lv_aload_n hx hb dX2_eliminateNearest_103 rfl (lv_at hl 3 rfl) ?_
        refine b_get (own := RX2) (C := RX2) (T := TX2) (N := 5) (ci := 2) (v := .ref (ad 2)) hx hb hts usX2 hown hK hP 0 (by decide) rfl rfl 2 (by decide) (hts _ gw_132) rfl dX2_eliminateNearest_104 ?_
        refine b_getN (own := RX2) (C := RX0) (host := RX2) (T := TX0) (N := 5) (ci := 0) (v := .ref (ad 4)) hx hb hts usX0 hown hK hP 2 (by decide) rfl rfl 0 (by decide) (hN _ (by decide +kernel)) rfl dX2_eliminateNearest_107 ?_
        refine lv_iload_n hx hb dX2_eliminateNearest_110 rfl (lv_at hl 1 rfl) ?_
        refine tE_r hx hb hK hP (by omega) dX2_eliminateNearest_111 ?_
        refine lv_aload_n hx hb dX2_eliminateNearest_112 rfl (lv_at hl 3 rfl) ?_
        refine b_get (own := RX2) (C := RX2) (T := TX2) (N := 5) (ci := 2) (v := .int (nI (I 0))) hx hb hts usX2 hown hK hP 0 (by decide) rfl rfl 0 (by decide) (hts _ gw_130) rfl dX2_eliminateNearest_113 ?_
        refine lv_iconst (v := nI 1) hx hb dX2_eliminateNearest_116 (by decide) ?_
        refine b_addn hx hb dX2_eliminateNearest_117 ?_
        refine lv_aload_n hx hb dX2_eliminateNearest_118 rfl (lv_at hl 3 rfl) ?_
        refine lv_iload_n hx hb dX2_eliminateNearest_119 rfl (lv_at hl 1 rfl) ?_
        refine lv_aload_n hx hb dX2_eliminateNearest_120 rfl (lv_at hl 3 rfl) ?_
        refine b_get (own := RX2) (C := RX2) (T := TX2) (N := 5) (ci := 2) (v := .int (nI (I 0))) hx hb hts usX2 hown hK hP 0 (by decide) rfl rfl 0 (by decide) (hts _ gw_130) rfl dX2_eliminateNearest_121 ?_
        refine g_calll (va_runV (As := [.int (nI i), .int (nI (I 0))]) (rest := [.int (nI ((I 0) + 1)), .ref (ad (i + 11))]) ⟨hx, hb, hml, hown, hts⟩ (ctX2_columnProduct l D cs ad (up1 (up1 (up1 (up1 I 5 (I 0)) 2 (I 0 + 1)) 3 (I 0 + 1 + mb)) 4 0) AN9 AI (up2 (fo (fun j Y => up2 Y (i + 11) j (cpr (I 1) AI i j)) (I 0) 0 X) (i + 11) (I 0) (if i = I 0 then 1 else 0)) _ i (I 0) he3 (by omega) (by omega)) (cwV 2 hts (gi_V gw_475 gw_477 gw_26 gw_53 gw_478) rfl rfl rfl (by decide +kernel) ⟨Nat.le_of_ble_eq_true rfl, Nat.le_of_ble_eq_true rfl⟩) ⟨g_blind, va_recv hK hP (ci := 2) (q0 := 0) rfl (wm_at (by decide) rfl), g_pre hP hK hD hN⟩ rfl rfl hl.1 rfl (lv_room (Nat.le_of_ble_eq_true rfl)) dX2_eliminateNearest_124 ⟨Nat.zero_le _, Nat.zero_le _⟩) hD hS hA (fun r u H locs hw hP hD hS => ?_)
        obtain ⟨rfl, rfl⟩ := hw
        have hP : va_P D vc (wT cs ad (up1 (up1 (up1 (up1 I 5 (I 0)) 2 (I 0 + 1)) 3 (I 0 + 1 + mb)) 4 0) AN9 AI (up2 (fo (fun j Y => up2 Y (i + 11) j (cpr (I 1) AI i j)) (I 0) 0 X) (i + 11) (I 0) (if i = I 0 then 1 else 0))) H := hP
        have hD : va_D A (wT cs ad (up1 (up1 (up1 (up1 I 5 (I 0)) 2 (I 0 + 1)) 3 (I 0 + 1 + mb)) 4 0) AN9 AI (up2 (fo (fun j Y => up2 Y (i + 11) j (cpr (I 1) AI i j)) (I 0) 0 X) (i + 11) (I 0) (if i = I 0 then 1 else 0))) := hD
        refine tE_st (i := i) hx hb hK hP hD hS (by omega) (by omega) dX2_eliminateNearest_127 (fun H locs hP hD hS => ?_)
        refine b_iinc (lv' := [(2, .int (nI (i + 1))), (3, .int (nI (I 0))), (1, .int (nI mb)), (0, .ref (ad 0))]) hx hb dX2_eliminateNearest_128 hl (k := 1) rfl (by decide) rfl (fun ls hl => ?_)
        refine lv_goto (tgt := 35) hx hb dX2_eliminateNearest_131 (by decide) ?_
        exact ih (i + 1) _ H locs ls (by omega) hP hD hS (lv_sub hl [0, 2, 3] rfl) kx
      · refine b_ne_t (tgt := 101) hx hb dX2_eliminateNearest_94 (by decide) (hin) (by omega) (by omega) ?_
        refine lv_lconst (v := 0) hx hb dX2_eliminateNearest_101 (by decide) ?_
        refine tE_st (i := i) hx hb hK hP hD hS (by omega) (by omega) dX2_eliminateNearest_102 (fun H locs hP hD hS => ?_)
        rw [show up2 (fo (fun j Y => up2 Y (i + 11) j (cpr (I 1) AI i j)) (I 0) 0 X) (i + 11) (I 0) 0 = up2 (fo (fun j Y => up2 Y (i + 11) j (cpr (I 1) AI i j)) (I 0) 0 X) (i + 11) (I 0) (if i = I 0 then 1 else 0) by rw [if_neg hin]] at hP hD
        refine lv_aload_n hx hb dX2_eliminateNearest_103 rfl (lv_at hl 3 rfl) ?_
        refine b_get (own := RX2) (C := RX2) (T := TX2) (N := 5) (ci := 2) (v := .ref (ad 2)) hx hb hts usX2 hown hK hP 0 (by decide) rfl rfl 2 (by decide) (hts _ gw_132) rfl dX2_eliminateNearest_104 ?_
        refine b_getN (own := RX2) (C := RX0) (host := RX2) (T := TX0) (N := 5) (ci := 0) (v := .ref (ad 4)) hx hb hts usX0 hown hK hP 2 (by decide) rfl rfl 0 (by decide) (hN _ (by decide +kernel)) rfl dX2_eliminateNearest_107 ?_
        refine lv_iload_n hx hb dX2_eliminateNearest_110 rfl (lv_at hl 1 rfl) ?_
        refine tE_r hx hb hK hP (by omega) dX2_eliminateNearest_111 ?_
        refine lv_aload_n hx hb dX2_eliminateNearest_112 rfl (lv_at hl 3 rfl) ?_
        refine b_get (own := RX2) (C := RX2) (T := TX2) (N := 5) (ci := 2) (v := .int (nI (I 0))) hx hb hts usX2 hown hK hP 0 (by decide) rfl rfl 0 (by decide) (hts _ gw_130) rfl dX2_eliminateNearest_113 ?_
        refine lv_iconst (v := nI 1) hx hb dX2_eliminateNearest_116 (by decide) ?_
        refine b_addn hx hb dX2_eliminateNearest_117 ?_
        refine lv_aload_n hx hb dX2_eliminateNearest_118 rfl (lv_at hl 3 rfl) ?_
        refine lv_iload_n hx hb dX2_eliminateNearest_119 rfl (lv_at hl 1 rfl) ?_
        refine lv_aload_n hx hb dX2_eliminateNearest_120 rfl (lv_at hl 3 rfl) ?_
        refine b_get (own := RX2) (C := RX2) (T := TX2) (N := 5) (ci := 2) (v := .int (nI (I 0))) hx hb hts usX2 hown hK hP 0 (by decide) rfl rfl 0 (by decide) (hts _ gw_130) rfl dX2_eliminateNearest_121 ?_
        refine g_calll (va_runV (As := [.int (nI i), .int (nI (I 0))]) (rest := [.int (nI ((I 0) + 1)), .ref (ad (i + 11))]) ⟨hx, hb, hml, hown, hts⟩ (ctX2_columnProduct l D cs ad (up1 (up1 (up1 (up1 I 5 (I 0)) 2 (I 0 + 1)) 3 (I 0 + 1 + mb)) 4 0) AN9 AI (up2 (fo (fun j Y => up2 Y (i + 11) j (cpr (I 1) AI i j)) (I 0) 0 X) (i + 11) (I 0) (if i = I 0 then 1 else 0)) _ i (I 0) he3 (by omega) (by omega)) (cwV 2 hts (gi_V gw_475 gw_477 gw_26 gw_53 gw_478) rfl rfl rfl (by decide +kernel) ⟨Nat.le_of_ble_eq_true rfl, Nat.le_of_ble_eq_true rfl⟩) ⟨g_blind, va_recv hK hP (ci := 2) (q0 := 0) rfl (wm_at (by decide) rfl), g_pre hP hK hD hN⟩ rfl rfl hl.1 rfl (lv_room (Nat.le_of_ble_eq_true rfl)) dX2_eliminateNearest_124 ⟨Nat.zero_le _, Nat.zero_le _⟩) hD hS hA (fun r u H locs hw hP hD hS => ?_)
        obtain ⟨rfl, rfl⟩ := hw
        have hP : va_P D vc (wT cs ad (up1 (up1 (up1 (up1 I 5 (I 0)) 2 (I 0 + 1)) 3 (I 0 + 1 + mb)) 4 0) AN9 AI (up2 (fo (fun j Y => up2 Y (i + 11) j (cpr (I 1) AI i j)) (I 0) 0 X) (i + 11) (I 0) (if i = I 0 then 1 else 0))) H := hP
        have hD : va_D A (wT cs ad (up1 (up1 (up1 (up1 I 5 (I 0)) 2 (I 0 + 1)) 3 (I 0 + 1 + mb)) 4 0) AN9 AI (up2 (fo (fun j Y => up2 Y (i + 11) j (cpr (I 1) AI i j)) (I 0) 0 X) (i + 11) (I 0) (if i = I 0 then 1 else 0))) := hD
        refine tE_st (i := i) hx hb hK hP hD hS (by omega) (by omega) dX2_eliminateNearest_127 (fun H locs hP hD hS => ?_)
        refine b_iinc (lv' := [(2, .int (nI (i + 1))), (3, .int (nI (I 0))), (1, .int (nI mb)), (0, .ref (ad 0))]) hx hb dX2_eliminateNearest_128 hl (k := 1) rfl (by decide) rfl (fun ls hl => ?_)
        refine lv_goto (tgt := 35) hx hb dX2_eliminateNearest_131 (by decide) ?_
        exact ih (i + 1) _ H locs ls (by omega) hP hD hS (lv_sub hl [0, 2, 3] rfl) kx
  refine lp35 _ (I 0 + 1) 0 (zer (I 0 + 1) (I 0 + 1 + mb) AL9) _ _ ls (by omega) hP hD hS (lv_sub hl [0, 1, 2] rfl) (fun H locs ls hP hD hS hl => ?_)
  have hP : va_P D vc (wT cs ad (up1 (up1 (up1 (up1 I 5 (I 0)) 2 (I 0 + 1)) 3 (I 0 + 1 + mb)) 4 0) AN9 AI (nefill1 (I 0) (I 1) AI (zer (I 0 + 1) (I 0 + 1 + mb) AL9))) H := hP
  have hD : va_D A (wT cs ad (up1 (up1 (up1 (up1 I 5 (I 0)) 2 (I 0 + 1)) 3 (I 0 + 1 + mb)) 4 0) AN9 AI (nefill1 (I 0) (I 1) AI (zer (I 0 + 1) (I 0 + 1 + mb) AL9))) := hD
  refine lv_iconst (v := nI 0) hx hb dX2_eliminateNearest_134 (by decide) ?_
  refine lv_istore_n (lv' := [(2, .int (nI 0)), (1, .int (nI mb)), (0, .ref (ad 0))]) hx hb dX2_eliminateNearest_135 rfl hl (by decide) rfl (fun ls hl => ?_)
  have lp136 : ∀ (Q : State → Prop) (n k : Nat) (X : Nat → Nat → Int64) (H : Heap) (locs : List Loc) (ls : Array Slot), k + n = mb → va_P D vc (wT cs ad (up1 (up1 (up1 (up1 I 5 (I 0)) 2 (I 0 + 1)) 3 (I 0 + 1 + mb)) 4 0) AN9 AI X) H → va_D A (wT cs ad (up1 (up1 (up1 (up1 I 5 (I 0)) 2 (I 0 + 1)) 3 (I 0 + 1 + mb)) 4 0) AN9 AI X) → va_S A s.heap H locs → lv_has ls 4 [(2, .int (nI k)), (1, .int (nI mb)), (0, .ref (ad 0))] → (∀ (H : Heap) (locs : List Loc) (ls : Array Slot), va_P D vc (wT cs ad (up1 (up1 (up1 (up1 I 5 (I 0)) 2 (I 0 + 1)) 3 (I 0 + 1 + mb)) 4 0) AN9 AI (fo (fun k X => fo (fun j Y => up2 Y (I 0 + 1 + k + 11) j (Y (I 0 - mb + k + 18) (3 + j))) (I 0) 0 X) n k X)) H → va_D A (wT cs ad (up1 (up1 (up1 (up1 I 5 (I 0)) 2 (I 0 + 1)) 3 (I 0 + 1 + mb)) 4 0) AN9 AI (fo (fun k X => fo (fun j Y => up2 Y (I 0 + 1 + k + 11) j (Y (I 0 - mb + k + 18) (3 + j))) (I 0) 0 X) n k X)) → va_S A s.heap H locs → lv_has ls 4 [(2, .int (nI mb)), (1, .int (nI mb)), (0, .ref (ad 0))] → W p l e rmX2_eliminateNearest s m args below meth c H locs 0 0 Q (F0 m 190 ls [])) → W p l e rmX2_eliminateNearest s m args below meth c H locs 0 0 Q (F0 m 136 ls []) := by
    intro Q n
    induction n with
    | zero =>
      intro k X H locs ls hn hP hD hS hl kx
      have hi : k = mb := by omega
      refine lv_iload_n hx hb dX2_eliminateNearest_136 rfl (lv_at hl 0 rfl) ?_
      refine lv_iload_n hx hb dX2_eliminateNearest_137 rfl (lv_at hl 1 rfl) ?_
      refine b_ge_t (tgt := 190) hx hb dX2_eliminateNearest_138 (by decide) (by omega) (by omega) ?_
      rw [hi] at hl
      exact kx H locs ls hP hD hS (lv_sub hl [0, 1, 2] rfl)
    | succ n ih =>
      intro k X H locs ls hn hP hD hS hl kx
      have hi : k < mb := by omega
      refine lv_iload_n hx hb dX2_eliminateNearest_136 rfl (lv_at hl 0 rfl) ?_
      refine lv_iload_n hx hb dX2_eliminateNearest_137 rfl (lv_at hl 1 rfl) ?_
      refine b_ge_f (tgt := 190) hx hb dX2_eliminateNearest_138 (by decide) (by omega) (by omega) ?_
      refine lv_iconst (v := nI 0) hx hb dX2_eliminateNearest_141 (by decide) ?_
      refine lv_istore_n (lv' := [(3, .int (nI 0)), (2, .int (nI k)), (1, .int (nI mb)), (0, .ref (ad 0))]) hx hb dX2_eliminateNearest_142 rfl hl (by decide) rfl (fun ls hl => ?_)
      have lp143 : ∀ (Q : State → Prop) (n j : Nat) (Y : Nat → Nat → Int64) (H : Heap) (locs : List Loc) (ls : Array Slot), j + n = I 0 → va_P D vc (wT cs ad (up1 (up1 (up1 (up1 I 5 (I 0)) 2 (I 0 + 1)) 3 (I 0 + 1 + mb)) 4 0) AN9 AI Y) H → va_D A (wT cs ad (up1 (up1 (up1 (up1 I 5 (I 0)) 2 (I 0 + 1)) 3 (I 0 + 1 + mb)) 4 0) AN9 AI Y) → va_S A s.heap H locs → lv_has ls 4 [(3, .int (nI j)), (2, .int (nI k)), (1, .int (nI mb)), (0, .ref (ad 0))] → (∀ (H : Heap) (locs : List Loc) (ls : Array Slot), va_P D vc (wT cs ad (up1 (up1 (up1 (up1 I 5 (I 0)) 2 (I 0 + 1)) 3 (I 0 + 1 + mb)) 4 0) AN9 AI (fo (fun j Y => up2 Y (I 0 + 1 + k + 11) j (Y (I 0 - mb + k + 18) (3 + j))) n j Y)) H → va_D A (wT cs ad (up1 (up1 (up1 (up1 I 5 (I 0)) 2 (I 0 + 1)) 3 (I 0 + 1 + mb)) 4 0) AN9 AI (fo (fun j Y => up2 Y (I 0 + 1 + k + 11) j (Y (I 0 - mb + k + 18) (3 + j))) n j Y)) → va_S A s.heap H locs → lv_has ls 4 [(3, .int (nI (I 0))), (2, .int (nI k)), (1, .int (nI mb)), (0, .ref (ad 0))] → W p l e rmX2_eliminateNearest s m args below meth c H locs 0 0 Q (F0 m 184 ls [])) → W p l e rmX2_eliminateNearest s m args below meth c H locs 0 0 Q (F0 m 143 ls []) := by
        intro Q n
        induction n with
        | zero =>
          intro j Y H locs ls hn hP hD hS hl kx
          have hi : j = I 0 := by omega
          refine lv_iload_n hx hb dX2_eliminateNearest_143 rfl (lv_at hl 0 rfl) ?_
          refine lv_aload_n hx hb dX2_eliminateNearest_144 rfl (lv_at hl 3 rfl) ?_
          refine b_get (own := RX2) (C := RX2) (T := TX2) (N := 5) (ci := 2) (v := .int (nI (I 0))) hx hb hts usX2 hown hK hP 0 (by decide) rfl rfl 0 (by decide) (hts _ gw_130) rfl dX2_eliminateNearest_145 ?_
          refine b_ge_t (tgt := 184) hx hb dX2_eliminateNearest_148 (by decide) (by omega) (by omega) ?_
          rw [hi] at hl
          exact kx H locs ls hP hD hS (lv_sub hl [0, 1, 2, 3] rfl)
        | succ n ih =>
          intro j Y H locs ls hn hP hD hS hl kx
          have hi : j < I 0 := by omega
          refine lv_iload_n hx hb dX2_eliminateNearest_143 rfl (lv_at hl 0 rfl) ?_
          refine lv_aload_n hx hb dX2_eliminateNearest_144 rfl (lv_at hl 3 rfl) ?_
          refine b_get (own := RX2) (C := RX2) (T := TX2) (N := 5) (ci := 2) (v := .int (nI (I 0))) hx hb hts usX2 hown hK hP 0 (by decide) rfl rfl 0 (by decide) (hts _ gw_130) rfl dX2_eliminateNearest_145 ?_
          refine b_ge_f (tgt := 184) hx hb dX2_eliminateNearest_148 (by decide) (by omega) (by omega) ?_
          refine lv_aload_n hx hb dX2_eliminateNearest_151 rfl (lv_at hl 3 rfl) ?_
          refine b_get (own := RX2) (C := RX2) (T := TX2) (N := 5) (ci := 2) (v := .ref (ad 2)) hx hb hts usX2 hown hK hP 0 (by decide) rfl rfl 2 (by decide) (hts _ gw_132) rfl dX2_eliminateNearest_152 ?_
          refine b_getN (own := RX2) (C := RX0) (host := RX2) (T := TX0) (N := 5) (ci := 0) (v := .ref (ad 4)) hx hb hts usX0 hown hK hP 2 (by decide) rfl rfl 0 (by decide) (hN _ (by decide +kernel)) rfl dX2_eliminateNearest_155 ?_
          refine lv_aload_n hx hb dX2_eliminateNearest_158 rfl (lv_at hl 3 rfl) ?_
          refine b_get (own := RX2) (C := RX2) (T := TX2) (N := 5) (ci := 2) (v := .int (nI (I 0))) hx hb hts usX2 hown hK hP 0 (by decide) rfl rfl 0 (by decide) (hts _ gw_130) rfl dX2_eliminateNearest_159 ?_
          refine lv_iconst (v := nI 1) hx hb dX2_eliminateNearest_162 (by decide) ?_
          refine b_addn hx hb dX2_eliminateNearest_163 ?_
          refine lv_iload_n hx hb dX2_eliminateNearest_164 rfl (lv_at hl 1 rfl) ?_
          refine b_addn hx hb dX2_eliminateNearest_165 ?_
          refine tE_r hx hb hK hP (by omega) dX2_eliminateNearest_166 ?_
          refine lv_iload_n hx hb dX2_eliminateNearest_167 rfl (lv_at hl 0 rfl) ?_
          refine lv_aload_n hx hb dX2_eliminateNearest_168 rfl (lv_at hl 3 rfl) ?_
          refine b_get (own := RX2) (C := RX2) (T := TX2) (N := 5) (ci := 2) (v := .ref (ad 3)) hx hb hts usX2 hown hK hP 0 (by decide) rfl rfl 3 (by decide) (hts _ gw_133) rfl dX2_eliminateNearest_169 ?_
          refine lv_iload_n hx hb dX2_eliminateNearest_172 rfl (lv_at hl 1 rfl) ?_
          refine lv_iload_n hx hb dX2_eliminateNearest_173 rfl (lv_at hl 0 rfl) ?_
          refine g_calll (va_runVN (C := RX1) (As := [.int (nI k), .int (nI j)]) (rest := [.int (nI j), .ref (ad ((((I 0) + 1) + k) + 11))]) ⟨hx, hb, hml, hown, hts⟩ (ctX1_member l D cs ad (up1 (up1 (up1 (up1 I 5 (I 0)) 2 (I 0 + 1)) 3 (I 0 + 1 + mb)) 4 0) AN9 AI Y _ k j (show I 0 ≤ 3 from hn3) hbg2 (by have e8 : mb = mbs AN9 (I 0) := hmbe; show k < mbs AN9 (I 0); omega) (by omega)) ⟨va_cnB 2 hts (gi_C gw_454) rfl rfl rfl (hN _ (by decide +kernel) : va_Nw (Cond.methodLinkNest "TriangularSystems" 114 ⟨"TriangularSystems$Lattice", "member", "(II)J"⟩ "TriangularSystems") s) (hts _ gw_56) (by decide +kernel) ⟨Nat.le_of_ble_eq_true rfl, Nat.le_of_ble_eq_true rfl⟩, hts _ gw_453, hts _ gw_24⟩ ⟨g_blind, va_recv hK hP (ci := 1) (q0 := 3) rfl (wm_at (by decide) rfl), g_pre hP hK hD hN⟩ rfl rfl hl.1 rfl (lv_room (Nat.le_of_ble_eq_true rfl)) dX2_eliminateNearest_174 ⟨Nat.zero_le _, Nat.zero_le _⟩) hD hS hA (fun r u H locs hw hP hD hS => ?_)
          obtain ⟨rfl, hw2⟩ := hw
          have hP : va_P D vc (wT cs ad (up1 (up1 (up1 (up1 I 5 (I 0)) 2 (I 0 + 1)) 3 (I 0 + 1 + mb)) 4 0) AN9 AI Y) H := hP
          have hD : va_D A (wT cs ad (up1 (up1 (up1 (up1 I 5 (I 0)) 2 (I 0 + 1)) 3 (I 0 + 1 + mb)) 4 0) AN9 AI Y) := hD
          have hw2 : r = Y (I 0 - mb + k + 18) (3 + j) := by rw [hmbe]; exact hw2
          subst hw2
          refine tE_st (i := ((I 0) + 1) + k) hx hb hK hP hD hS (by omega) (by omega) dX2_eliminateNearest_177 (fun H locs hP hD hS => ?_)
          refine b_iinc (lv' := [(3, .int (nI (j + 1))), (2, .int (nI k)), (1, .int (nI mb)), (0, .ref (ad 0))]) hx hb dX2_eliminateNearest_178 hl (k := 0) rfl (by decide) rfl (fun ls hl => ?_)
          refine lv_goto (tgt := 143) hx hb dX2_eliminateNearest_181 (by decide) ?_
          exact ih (j + 1) _ H locs ls (by omega) hP hD hS (lv_sub hl [0, 1, 2, 3] rfl) kx
      refine lp143 _ (I 0) 0 X _ _ ls (by omega) hP hD hS (lv_sub hl [0, 1, 2, 3] rfl) (fun H locs ls hP hD hS hl => ?_)
      refine b_iinc (lv' := [(2, .int (nI (k + 1))), (3, .int (nI (I 0))), (1, .int (nI mb)), (0, .ref (ad 0))]) hx hb dX2_eliminateNearest_184 hl (k := 1) rfl (by decide) rfl (fun ls hl => ?_)
      refine lv_goto (tgt := 136) hx hb dX2_eliminateNearest_187 (by decide) ?_
      exact ih (k + 1) _ H locs ls (by omega) hP hD hS (lv_sub hl [0, 2, 3] rfl) kx
  refine lp136 _ (mb) 0 (nefill1 (I 0) (I 1) AI (zer (I 0 + 1) (I 0 + 1 + mb) AL9)) _ _ ls (by omega) hP hD hS (lv_sub hl [0, 1, 2] rfl) (fun H locs ls hP hD hS hl => ?_)
  have hP : va_P D vc (wT cs ad (up1 (up1 (up1 (up1 I 5 (I 0)) 2 (I 0 + 1)) 3 (I 0 + 1 + mb)) 4 0) AN9 AI (nefill2 (I 0) mb (nefill1 (I 0) (I 1) AI (zer (I 0 + 1) (I 0 + 1 + mb) AL9)))) H := hP
  have hD : va_D A (wT cs ad (up1 (up1 (up1 (up1 I 5 (I 0)) 2 (I 0 + 1)) 3 (I 0 + 1 + mb)) 4 0) AN9 AI (nefill2 (I 0) mb (nefill1 (I 0) (I 1) AI (zer (I 0 + 1) (I 0 + 1 + mb) AL9)))) := hD
  refine lv_aload_n hx hb dX2_eliminateNearest_190 rfl (lv_at hl 2 rfl) ?_
  refine b_get (own := RX2) (C := RX2) (T := TX2) (N := 5) (ci := 2) (v := .ref (ad 2)) hx hb hts usX2 hown hK hP 0 (by decide) rfl rfl 2 (by decide) (hts _ gw_132) rfl dX2_eliminateNearest_191 ?_
  refine g_callv (va_runVN (C := RX0) (As := []) (rest := []) ⟨hx, hb, hml, hown, hts⟩ (ctX0_eliminate l D cs ad (up1 (up1 (up1 (up1 I 5 (I 0)) 2 (I 0 + 1)) 3 (I 0 + 1 + mb)) 4 0) AN9 AI (nefill2 (I 0) mb (nefill1 (I 0) (I 1) AI (zer (I 0 + 1) (I 0 + 1 + mb) AL9))) _ (show I 0 + 1 ≤ 4 by omega) (show I 0 + 1 + mb ≤ 7 by omega) (Nat.zero_le _)) ⟨va_cnB 0 hts (gi_C gw_163) rfl rfl rfl (hN _ (by decide +kernel) : va_Nw (Cond.methodLinkNest "TriangularSystems" 144 ⟨"TriangularSystems$Elimination", "eliminate", "()V"⟩ "TriangularSystems") s) (hts _ gw_55) (by decide +kernel) ⟨Nat.le_of_ble_eq_true rfl, Nat.le_of_ble_eq_true rfl⟩, hts _ gw_162, hts _ gw_2⟩ ⟨g_blind, va_recv hK hP (ci := 0) (q0 := 2) rfl (wm_at (by decide) rfl), g_pre hP hK hD hN⟩ rfl rfl hl.1 rfl (lv_room (Nat.le_of_ble_eq_true rfl)) dX2_eliminateNearest_194 ⟨Nat.zero_le _, Nat.zero_le _⟩) hD hS hA (fun u H locs hw hP hD hS => ?_)
  obtain rfl := hw
  have hP : va_P D vc (wT cs ad (up1 (up1 (up1 (up1 (up1 I 5 (I 0)) 2 (I 0 + 1)) 3 (I 0 + 1 + mb)) 4 0) 4 (fo (estep (I 0 + 1) (I 0 + 1 + mb)) (I 0 + 1) 0 (0, AN9, nefill2 (I 0) mb (nefill1 (I 0) (I 1) AI (zer (I 0 + 1) (I 0 + 1 + mb) AL9)))).1) ((fo (estep (I 0 + 1) (I 0 + 1 + mb)) (I 0 + 1) 0 (0, AN9, nefill2 (I 0) mb (nefill1 (I 0) (I 1) AI (zer (I 0 + 1) (I 0 + 1 + mb) AL9)))).2.1) AI ((fo (estep (I 0 + 1) (I 0 + 1 + mb)) (I 0 + 1) 0 (0, AN9, nefill2 (I 0) mb (nefill1 (I 0) (I 1) AI (zer (I 0 + 1) (I 0 + 1 + mb) AL9)))).2.2)) H := hP
  have hD : va_D A (wT cs ad (up1 (up1 (up1 (up1 (up1 I 5 (I 0)) 2 (I 0 + 1)) 3 (I 0 + 1 + mb)) 4 0) 4 (fo (estep (I 0 + 1) (I 0 + 1 + mb)) (I 0 + 1) 0 (0, AN9, nefill2 (I 0) mb (nefill1 (I 0) (I 1) AI (zer (I 0 + 1) (I 0 + 1 + mb) AL9)))).1) ((fo (estep (I 0 + 1) (I 0 + 1 + mb)) (I 0 + 1) 0 (0, AN9, nefill2 (I 0) mb (nefill1 (I 0) (I 1) AI (zer (I 0 + 1) (I 0 + 1 + mb) AL9)))).2.1) AI ((fo (estep (I 0 + 1) (I 0 + 1 + mb)) (I 0 + 1) 0 (0, AN9, nefill2 (I 0) mb (nefill1 (I 0) (I 1) AI (zer (I 0 + 1) (I 0 + 1 + mb) AL9)))).2.2)) := hD
  rw [up1_1] at hP hD
  have e9 : fo (estep (I 0 + 1) (I 0 + 1 + mb)) (I 0 + 1) 0 (0, AN9, nefill2 (I 0) mb (nefill1 (I 0) (I 1) AI (zer (I 0 + 1) (I 0 + 1 + mb) AL9))) = neE (I 0) (I 1) AN AI AL := by unfold neE; rw [hS9]; dsimp only; rw [← hmbe]
  rw [e9] at hP hD
  exact g_vret hx hb hr hlocks (up1 (up1 (up1 (up1 I 5 (I 0)) 2 (I 0 + 1)) 3 (I 0 + 1 + mb)) 4 (neE (I 0) (I 1) AN AI AL).1, (neE (I 0) (I 1) AN AI AL).2.1, AI, (neE (I 0) (I 1) AN AI AL).2.2) rfl hK hP hD hS dX2_eliminateNearest_197
