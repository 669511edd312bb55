/-! The law's helpers: each calls one throwing method of the class and tells the throw's number. -/
abbrev E9 (u : TS) : Nat × (Nat → Nat → Nat) × (Nat → Nat → Int64) := eqE (u.1 0) (u.1 1) u.2.1 u.2.2.1 u.2.2.2
abbrev S9 (u : TS) : (Nat → Nat → Nat) × (Nat → Nat → Int64) := spL (u.1 0) (u.1 1) u.2.1 u.2.2.1 u.2.2.2
abbrev N9 (u : TS) : Nat × (Nat → Nat → Nat) × (Nat → Nat → Int64) := neE (u.1 0) (u.1 1) u.2.1 u.2.2.1 u.2.2.2
abbrev tE (u : TS) : TS := (Ieq u.1 (u.1 0) (u.1 1) (E9 u).1, (E9 u).2.1, u.2.2.1, (E9 u).2.2)
abbrev tS (u : TS) : TS := (up1 u.1 5 (u.1 0), (S9 u).1, u.2.2.1, (S9 u).2)
abbrev tN (u : TS) : TS := (Ieq (up1 u.1 5 (u.1 0)) (u.1 0 + 1) (u.1 0 + 1 + mbs (S9 u).1 (u.1 0)) (N9 u).1, (N9 u).2.1, u.2.2.1, (N9 u).2.2)
abbrev fr9 (u : TS) (k : Int32) : Option Nat := fre (E9 u).2.1 (E9 u).1 k (u.1 0) 0 0
abbrev re9 (u : TS) : Bool := (fnd (fun k => (S9 u).2 21 k ≠ 0) 3 0).isNone
def clEq (u : TS) : Nat × Int64 × TS := if u.1 1 < 3 then (0, Int32.toInt64 (nI (u.1 1)), (up1 u.1 1 (u.1 1 + 1), u.2.1, fo (fun j X => up2 X (u.1 1 + 8) j (nI 0)) (u.1 0 + 1) 0 u.2.2.1, u.2.2.2)) else (1, 0, u)
def clPut (u : TS) (g x v : Int32) : Nat × Int64 × TS := if plX (u.1 0) (u.1 1) g x = true then (if in9 v = true then (0, (if u.2.2.1 (g.toNatClampNeg + 8) x.toNatClampNeg = v then 0 else 1), (u.1, u.2.1, up2 u.2.2.1 (g.toNatClampNeg + 8) x.toNatClampNeg v, u.2.2.2)) else (2, 0, u)) else (1, 0, u)
def clAt (u : TS) (g x : Int32) : Nat × Int64 × TS := if plX (u.1 0) (u.1 1) g x = true then (0, Int32.toInt64 (u.2.2.1 (g.toNatClampNeg + 8) x.toNatClampNeg), u) else (1, 0, u)
def clPlain (u : TS) (x q : Int32) : Nat × Int64 × TS := if isU (u.1 0) x = true then (if agr (u.1 0) (u.1 1) (E9 u) = true then (if isPt q = true then (0, ppart (E9 u).2.1 (E9 u).2.2 (E9 u).1 (u.1 0) x.toNatClampNeg q, tE u) else (3, 0, tE u)) else (2, 0, tE u)) else (1, 0, u)
def clDir (u : TS) (k x q : Int32) : Nat × Int64 × TS := if fr9 u k ≠ none ∧ isU (u.1 0) x = true then (if isPt q = true then (0, dpart (E9 u).2.1 (E9 u).2.2 (E9 u).1 ((fr9 u k).getD 0) x.toNatClampNeg q, tE u) else (2, 0, tE u)) else (1, 0, tE u)
def clBase (u : TS) (k x : Int32) : Nat × Int64 × TS := if decide (¬ k < 0 ∧ k < nI (mbs (S9 u).1 (u.1 0))) = true ∧ isU (u.1 0) x = true then (0, (S9 u).2 (u.1 0 - mbs (S9 u).1 (u.1 0) + k.toNatClampNeg + 18) (3 + x.toNatClampNeg), tS u) else (1, 0, tS u)
def clLeast (u : TS) (x : Int32) : Nat × Int64 × TS := if isU (u.1 0) x = true then (if re9 u = true then (0, (S9 u).2 21 (3 + x.toNatClampNeg), tS u) else (2, 0, tS u)) else (1, 0, u)
def clNear (u : TS) (x q : Int32) : Nat × Int64 × TS := if isU (u.1 0) x = true then (if isPt q = true then (0, ppart (N9 u).2.1 (N9 u).2.2 (N9 u).1 (u.1 0 + 1) x.toNatClampNeg q, tN u) else (2, 0, u)) else (1, 0, u)
def clSqu (u : TS) (q : Int32) : Nat × Int64 × TS := if isPt q = true then (0, ppart (N9 u).2.1 (N9 u).2.2 (N9 u).1 (u.1 0 + 1) (u.1 0) q, tN u) else (1, 0, u)
def clBox (u : TS) (q : Int32) : Nat × Int64 × TS := if in12 q = true then (0, Int32.toInt64 (boxX (u.1 0) (u.1 1) q.toNatClampNeg u.2.2.1), u) else (1, 0, u)
theorem bf {b : Bool} (h : b = false) : ¬ b = true := by rw [h]; decide
section H47
variable {p : Program} {l : Launch} {e : Env} {R : Room} {s : State} {m : MethodId} {args : Array Value} {below : List Frame} {meth : Method} {c : Code} {H : Heap} {locs : List Loc} {cells slots : Nat} {Q : State → Prop}
variable {cc : ByteArray} {pc : Nat} {ls : Array Slot} {rest : List Value} {D : va_G} {cs : Nat → ClassId} {A : Nat → Prop} {H0 : Heap} {wa : va_W} {o n : Nat} {f : Nat → Int64}
theorem h_last (hx : p.tables.exec = Jvm.exec) (hb : c.code = cc) (hK : va_K D vc (tyK cs) s) (hP : va_P D vc (wa ++ [(o, .inl (cs 1, 1, .inr (.inl f)))]) H) (hD : va_D A (wa ++ [(o, .inl (cs 1, 1, .inr (.inl f)))])) (hS : va_S A H0 H locs) (hlen : wa.length = n) {x : Int64} (hdg : decode cc pc = .ok (.lastore, 1))
    (kk : ∀ (H1 : Heap) (locs1 : List Loc), va_P D vc (wa ++ [(o, .inl (cs 1, 1, .inr (.inl (vp_updL f 0 x))))]) H1 → va_D A (wa ++ [(o, .inl (cs 1, 1, .inr (.inl (vp_updL f 0 x))))]) → va_S A H0 H1 locs1 → W p l e R s m args below meth c H1 locs1 cells slots Q (F0 m (pc + 1) ls rest)) : W p l e R s m args below meth c H locs cells slots Q (F0 m pc ls (.long x :: .int (nI 0) :: .ref o :: rest)) := by
  refine va_last hx hb hK hP hD hS n 1 (h_at hlen) rfl (vp_in_nI (by decide) (by decide)) hdg ?_
  rw [nI_clamp (by decide), h_set hlen]
  exact kk
end H47

abbrev rmL_equation : Room := { frames := 7, cells := 1, slots := 6, locals := 103 }
set_option maxHeartbeats 4000000 in
set_option maxRecDepth 100000 in
theorem ctL_equation (l : Launch) (hlt : l.stackTraces = false) (D : va_G) (cs : Nat → ClassId) (ad : Nat → Nat) (I : Nat → Nat) (AN : Nat → Nat → Nat) (AI : Nat → Nat → Int32) (AL : Nat → Nat → Int64) (f : Nat → Int64) (o sz : Nat) (sa : Nat → Nat)  (hn3 : I 0 ≤ 3) (he3 : I 1 ≤ 3) : Met l yL_equation (Cond.codeWith yL_equation cL_equation 3 (some FieldType.int) [(0, 8, 11, 13)] :: GW) rmL_equation (va_Pc [.ref (ad 0), .ref o] (gH D cs (wH cs ad o ((I, AN, AI, AL), f)) sz sa)) (va_Qi (hPost (clEq (I, AN, AI, AL))) (gB D cs (va_A (wH cs ad o ((I, AN, AI, AL), f)) sz) (wH cs ad o)) (va_A (wH cs ad o ((I, AN, AI, AL), f)) sz)) 1 6 (va_A (wH cs ad o ((I, AN, AI, AL), f)) sz) := by
  refine va_MetW (cc := cL_equation) (maxL := 3) (ret := (some FieldType.int)) (hh := [(0, 8, 11, 13)]) (by decide) rfl ?_
  intro p e s m args below meth c s₁ B hml hv
  obtain ⟨rfl, ⟨⟨hsz, hP, hK, hD0, hN⟩, hX⟩, hXN⟩ := hv
  have hx := B.exec
  have hb := B.bytes
  have hr := B.returns
  have hts : ∀ w ∈ GW, w.before _ s = true := fun w h => atoms_spec (ws := Cond.codeWith yL_equation cL_equation 3 (some FieldType.int) [(0, 8, 11, 13)] :: GW) B.pre w (List.mem_cons_of_mem _ h)
  have htab : c.exceptionTable.toList = tableOf [(0, 8, 11, 13)] := vx_table (x := yL_equation) B (atoms_spec (ws := Cond.codeWith yL_equation cL_equation 3 (some FieldType.int) [(0, 8, 11, 13)] :: GW) B.pre _ List.mem_cons_self)
  have hown : s.vm.findClass RL = some m.cls := findClass_of_methodNamed B.named
  have hlocks := B.notSynchronized
  subst hsz
  have hD := hD0.self (sz := s.heap.size)
  generalize hAe : va_A (wH cs ad o ((I, AN, AI, AL), f)) s.heap.size = A at hD hX ⊢
  have hA : ∀ q : Nat, s.heap.size ≤ q → A q := fun q h => by rw [← hAe]; exact Or.inr h
  have hS : va_S A s.heap s.heap [] := va_S.rf
  have hl := lv_entry [.ref (ad 0), .ref o] (n := 3) (Nat.le_of_ble_eq_true rfl)
  rw [lg_entry_eq]
  generalize (lg_sl [.ref (ad 0), .ref o] ++ List.replicate (3 - (lg_sl [.ref (ad 0), .ref o]).length) Slot.unset).toArray = ls at hl ⊢
  have hl : lv_has ls 3 [(0, .ref (ad 0)), (1, .ref o)] := hl
  generalize hargs : ([.ref (ad 0), .ref o] : List Value).toArray = args at *
  show W p l e rmL_equation s m args below meth c s.heap [] 0 0 _ (F0 m 0 ls [])
  refine lv_aload_n hx hb dL_equation_0 rfl (lv_at hl 1 rfl) ?_
  refine lv_iconst (v := nI 0) hx hb dL_equation_1 (by decide) ?_
  refine lv_aload_n hx hb dL_equation_2 rfl (lv_at hl 0 rfl) ?_
  refine x_calli (wf := wTs cs ad) (wx := wTs cs ad) (vx_runV (As := []) (rest := [.int (nI 0), .ref o]) ⟨hx, hb, hml, hown, hts⟩ (ctX2_equation l hlt D cs ad I AN AI AL _ sa hn3 he3) (cwV 0 hts (gi_V gw_278 gw_279 gw_280 gw_53 gw_281) rfl rfl rfl (by decide +kernel) ⟨Nat.le_of_ble_eq_true rfl, Nat.le_of_ble_eq_true rfl⟩) ⟨gX_blind, va_recv hK (P_l hP) (ci := 2) (q0 := 0) rfl (wm_at (by decide) rfl), gX_pre (P_l hP) hK (D_l hD) hN hS hA hX⟩ rfl rfl hl.1 rfl (lv_room (Nat.le_of_ble_eq_true rfl)) dL_equation_3 ⟨Nat.le_of_ble_eq_true rfl, Nat.le_of_ble_eq_true rfl⟩) hP hD hS hA (fun _ => wm_ads) (fun _ => wm_ads) (fun ce q9 w H locs hw hP hD hS h1 h2 h3 => ?_) (fun r w H locs hw hP hD hS => ?_)
  · obtain ⟨h3n, rfl⟩ := hw
    refine vx_catch (own := RL) (name := xISE) (E := xISE) hown (tableOf []) ⟨0, 8, 11, 13⟩ (tableOf []) (by rw [htab]; rfl) (fun z hz => nomatch hz) (by decide) (by decide) (hts _ gw_277) (va_Nw.use rfl (hX.1 _ (by decide))) h1 h2 h3 ?_
    refine lv_astore_n (lv' := [(2, .ref q9), (0, .ref (ad 0)), (1, .ref o)]) hx hb dL_equation_11 rfl hl (by decide) rfl (fun ls hl => ?_)
    refine lv_iconst (v := nI 1) hx hb dL_equation_12 (by decide) ?_
    exact g_iret hx hb hr hlocks ((I, AN, AI, AL), f) (by rw [hPost, show clEq (I, AN, AI, AL) = (1, 0, (I, AN, AI, AL)) by unfold clEq; dsimp only; rw [if_neg h3n]]; exact ⟨rfl, rfl, fun h => absurd h (Nat.succ_ne_zero _)⟩) hK hP hD hS dL_equation_13
  · obtain ⟨h3, rfl, rfl⟩ := hw
    refine lv_i2l (v := Int32.toInt64 (nI (I 1))) hx hb dL_equation_6 rfl ?_
    refine h_last hx hb hK hP hD hS wT_len dL_equation_7 (fun H locs hP hD hS => ?_)
    refine lv_goto (tgt := 14) hx hb dL_equation_8 (by decide) ?_
    refine lv_iconst (v := nI 0) hx hb dL_equation_14 (by decide) ?_
    exact g_iret hx hb hr hlocks ((up1 I 1 (I 1 + 1), AN, fo (fun j X => up2 X (I 1 + 8) j (nI 0)) (I 0 + 1) 0 AI, AL), vp_updL f 0 (Int32.toInt64 (nI (I 1)))) (by rw [hPost, show clEq (I, AN, AI, AL) = (0, Int32.toInt64 (nI (I 1)), (up1 I 1 (I 1 + 1), AN, fo (fun j X => up2 X (I 1 + 8) j (nI 0)) (I 0 + 1) 0 AI, AL)) by unfold clEq; dsimp only; rw [if_pos h3]]; exact ⟨rfl, rfl, fun _ => rfl⟩) hK hP hD hS dL_equation_15

abbrev rmL_put : Room := { frames := 7, cells := 1, slots := 6, locals := 106 }
set_option maxHeartbeats 4000000 in
set_option maxRecDepth 100000 in
theorem ctL_put (l : Launch) (hlt : l.stackTraces = false) (D : va_G) (cs : Nat → ClassId) (ad : Nat → Nat) (I : Nat → Nat) (AN : Nat → Nat → Nat) (AI : Nat → Nat → Int32) (AL : Nat → Nat → Int64) (f : Nat → Int64) (o sz : Nat) (sa : Nat → Nat) (g x v : Int32) (hn3 : I 0 ≤ 3) (he3 : I 1 ≤ 3) : Met l yL_put (Cond.codeWith yL_put cL_put 6 (some FieldType.int) [(0, 19, 22, 19), (0, 19, 26, 21)] :: GW) rmL_put (va_Pc [.ref (ad 0), .int g, .int x, .int v, .ref o] (gH D cs (wH cs ad o ((I, AN, AI, AL), f)) sz sa)) (va_Qi (hPost (clPut (I, AN, AI, AL) g x v)) (gB D cs (va_A (wH cs ad o ((I, AN, AI, AL), f)) sz) (wH cs ad o)) (va_A (wH cs ad o ((I, AN, AI, AL), f)) sz)) 1 6 (va_A (wH cs ad o ((I, AN, AI, AL), f)) sz) := by
  refine va_MetW (cc := cL_put) (maxL := 6) (ret := (some FieldType.int)) (hh := [(0, 19, 22, 19), (0, 19, 26, 21)]) (by decide) rfl ?_
  intro p e s m args below meth c s₁ B hml hv
  obtain ⟨rfl, ⟨⟨hsz, hP, hK, hD0, hN⟩, hX⟩, hXN⟩ := hv
  have hx := B.exec
  have hb := B.bytes
  have hr := B.returns
  have hts : ∀ w ∈ GW, w.before _ s = true := fun w h => atoms_spec (ws := Cond.codeWith yL_put cL_put 6 (some FieldType.int) [(0, 19, 22, 19), (0, 19, 26, 21)] :: GW) B.pre w (List.mem_cons_of_mem _ h)
  have htab : c.exceptionTable.toList = tableOf [(0, 19, 22, 19), (0, 19, 26, 21)] := vx_table (x := yL_put) B (atoms_spec (ws := Cond.codeWith yL_put cL_put 6 (some FieldType.int) [(0, 19, 22, 19), (0, 19, 26, 21)] :: GW) B.pre _ List.mem_cons_self)
  have hown : s.vm.findClass RL = some m.cls := findClass_of_methodNamed B.named
  have hlocks := B.notSynchronized
  subst hsz
  have hD := hD0.self (sz := s.heap.size)
  generalize hAe : va_A (wH cs ad o ((I, AN, AI, AL), f)) s.heap.size = A at hD hX ⊢
  have hA : ∀ q : Nat, s.heap.size ≤ q → A q := fun q h => by rw [← hAe]; exact Or.inr h
  have hS : va_S A s.heap s.heap [] := va_S.rf
  have hl := lv_entry [.ref (ad 0), .int g, .int x, .int v, .ref o] (n := 6) (Nat.le_of_ble_eq_true rfl)
  rw [lg_entry_eq]
  generalize (lg_sl [.ref (ad 0), .int g, .int x, .int v, .ref o] ++ List.replicate (6 - (lg_sl [.ref (ad 0), .int g, .int x, .int v, .ref o]).length) Slot.unset).toArray = ls at hl ⊢
  have hl : lv_has ls 6 [(0, .ref (ad 0)), (1, .int g), (2, .int x), (3, .int v), (4, .ref o)] := hl
  generalize hargs : ([.ref (ad 0), .int g, .int x, .int v, .ref o] : List Value).toArray = args at *
  show W p l e rmL_put s m args below meth c s.heap [] 0 0 _ (F0 m 0 ls [])
  refine lv_aload hx hb dL_put_0 (lv_at hl 4 rfl) ?_
  refine lv_iconst (v := nI 0) hx hb dL_put_2 (by decide) ?_
  refine lv_aload_n hx hb dL_put_3 rfl (lv_at hl 0 rfl) ?_
  refine lv_iload_n hx hb dL_put_4 rfl (lv_at hl 1 rfl) ?_
  refine lv_iload_n hx hb dL_put_5 rfl (lv_at hl 2 rfl) ?_
  refine lv_iload_n hx hb dL_put_6 rfl (lv_at hl 3 rfl) ?_
  refine x_calli (wf := wTs cs ad) (wx := wTs cs ad) (vx_runV (As := [.int g, .int x, .int v]) (rest := [.int (nI 0), .ref o]) ⟨hx, hb, hml, hown, hts⟩ (ctX2_put l hlt D cs ad I AN AI AL _ sa g x v hn3 he3) (cwV 3 hts (gi_V gw_355 gw_356 gw_357 gw_53 gw_358) rfl rfl rfl (by decide +kernel) ⟨Nat.le_of_ble_eq_true rfl, Nat.le_of_ble_eq_true rfl⟩) ⟨gX_blind, va_recv hK (P_l hP) (ci := 2) (q0 := 0) rfl (wm_at (by decide) rfl), gX_pre (P_l hP) hK (D_l hD) hN hS hA hX⟩ rfl rfl hl.1 rfl (lv_room (Nat.le_of_ble_eq_true rfl)) dL_put_7 ⟨Nat.le_of_ble_eq_true rfl, Nat.le_of_ble_eq_true rfl⟩) hP hD hS hA (fun _ => wm_ads) (fun _ => wm_ads) (fun ce q9 w H locs hw hP hD hS h1 h2 h3 => ?_) (fun r w H locs hw hP hD hS => ?_)
  · obtain ⟨hpl, rfl⟩ | ⟨hpl, h9, rfl⟩ := hw
    · refine vx_catch (own := RL) (name := xIOB) (E := xIOB) hown (tableOf []) ⟨0, 19, 22, 19⟩ (tableOf [(0, 19, 26, 21)]) (by rw [htab]; rfl) (fun z hz => nomatch hz) (by decide) (by decide) (hts _ gw_353) (va_Nw.use rfl (hX.1 _ (by decide))) h1 h2 h3 ?_
      refine lv_astore (lv' := [(5, .ref q9), (0, .ref (ad 0)), (1, .int g), (2, .int x), (3, .int v), (4, .ref o)]) hx hb dL_put_22 hl (by decide) rfl (fun ls hl => ?_)
      refine lv_iconst (v := nI 1) hx hb dL_put_24 (by decide) ?_
      exact g_iret hx hb hr hlocks ((I, AN, AI, AL), f) (by rw [hPost, show clPut (I, AN, AI, AL) g x v = (1, 0, (I, AN, AI, AL)) by unfold clPut; dsimp only; rw [if_neg (bf hpl)]]; exact ⟨rfl, rfl, fun h => absurd h (Nat.succ_ne_zero _)⟩) hK hP hD hS dL_put_25
    · refine vx_catch (own := RL) (name := xIAE) (E := xIAE) hown (tableOf [(0, 19, 22, 19)]) ⟨0, 19, 26, 21⟩ (tableOf []) (by rw [htab]; rfl) (fun z hz => by
        simp only [tableOf, List.map_cons, List.map_nil, List.mem_cons, List.not_mem_nil, or_false] at hz
        subst hz
        exact Or.inr ⟨by decide, xIOB, hts _ gw_353, hXN.1⟩) (by decide) (by decide) (hts _ gw_354) (va_Nw.use rfl (hX.1 _ (by decide))) h1 h2 h3 ?_
      refine lv_astore (lv' := [(5, .ref q9), (0, .ref (ad 0)), (1, .int g), (2, .int x), (3, .int v), (4, .ref o)]) hx hb dL_put_26 hl (by decide) rfl (fun ls hl => ?_)
      refine lv_iconst (v := nI 2) hx hb dL_put_28 (by decide) ?_
      exact g_iret hx hb hr hlocks ((I, AN, AI, AL), f) (by rw [hPost, show clPut (I, AN, AI, AL) g x v = (2, 0, (I, AN, AI, AL)) by unfold clPut; dsimp only; rw [if_pos hpl, if_neg (bf h9)]]; exact ⟨rfl, rfl, fun h => absurd h (Nat.succ_ne_zero _)⟩) hK hP hD hS dL_put_29
  · obtain ⟨hpl, h9, rfl, rfl⟩ := hw
    refine lv_if_eq (tgt := 17) hx hb dL_put_10 (by decide) (fun hz => ?_) (fun hz => ?_)
    · have hz9 : AI (g.toNatClampNeg + 8) x.toNatClampNeg = v := Decidable.not_not.mp (of_decide_eq_false (bz_1.mp hz))
      refine lv_lconst (v := 0) hx hb dL_put_17 (by decide) ?_
      refine h_last hx hb hK hP hD hS wT_len dL_put_18 (fun H locs hP hD hS => ?_)
      refine lv_goto (tgt := 30) hx hb dL_put_19 (by decide) ?_
      refine lv_iconst (v := nI 0) hx hb dL_put_30 (by decide) ?_
      exact g_iret hx hb hr hlocks ((I, AN, up2 AI (g.toNatClampNeg + 8) x.toNatClampNeg v, AL), vp_updL f 0 (0)) (by rw [hPost, show clPut (I, AN, AI, AL) g x v = (0, 0, (I, AN, up2 AI (g.toNatClampNeg + 8) x.toNatClampNeg v, AL)) by unfold clPut; dsimp only; rw [if_pos hpl, if_pos h9, if_pos hz9]]; exact ⟨rfl, rfl, fun _ => rfl⟩) hK hP hD hS dL_put_31
    · have hz9 : ¬ AI (g.toNatClampNeg + 8) x.toNatClampNeg = v := of_decide_eq_true (bz_t hz)
      refine lv_lconst (v := 1) hx hb dL_put_13 (by decide) ?_
      refine lv_goto (tgt := 18) hx hb dL_put_14 (by decide) ?_
      refine h_last hx hb hK hP hD hS wT_len dL_put_18 (fun H locs hP hD hS => ?_)
      refine lv_goto (tgt := 30) hx hb dL_put_19 (by decide) ?_
      refine lv_iconst (v := nI 0) hx hb dL_put_30 (by decide) ?_
      exact g_iret hx hb hr hlocks ((I, AN, up2 AI (g.toNatClampNeg + 8) x.toNatClampNeg v, AL), vp_updL f 0 (1)) (by rw [hPost, show clPut (I, AN, AI, AL) g x v = (0, 1, (I, AN, up2 AI (g.toNatClampNeg + 8) x.toNatClampNeg v, AL)) by unfold clPut; dsimp only; rw [if_pos hpl, if_pos h9, if_neg hz9]]; exact ⟨rfl, rfl, fun _ => rfl⟩) hK hP hD hS dL_put_31

abbrev rmL_at : Room := { frames := 7, cells := 1, slots := 6, locals := 104 }
set_option maxHeartbeats 4000000 in
set_option maxRecDepth 100000 in
theorem ctL_at (l : Launch) (hlt : l.stackTraces = false) (D : va_G) (cs : Nat → ClassId) (ad : Nat → Nat) (I : Nat → Nat) (AN : Nat → Nat → Nat) (AI : Nat → Nat → Int32) (AL : Nat → Nat → Int64) (f : Nat → Int64) (o sz : Nat) (sa : Nat → Nat) (g x : Int32) (hn3 : I 0 ≤ 3) (he3 : I 1 ≤ 3) : Met l yL_at (Cond.codeWith yL_at cL_at 5 (some FieldType.int) [(0, 10, 13, 19)] :: GW) rmL_at (va_Pc [.ref (ad 0), .int g, .int x, .ref o] (gH D cs (wH cs ad o ((I, AN, AI, AL), f)) sz sa)) (va_Qi (hPost (clAt (I, AN, AI, AL) g x)) (gB D cs (va_A (wH cs ad o ((I, AN, AI, AL), f)) sz) (wH cs ad o)) (va_A (wH cs ad o ((I, AN, AI, AL), f)) sz)) 1 6 (va_A (wH cs ad o ((I, AN, AI, AL), f)) sz) := by
  refine va_MetW (cc := cL_at) (maxL := 5) (ret := (some FieldType.int)) (hh := [(0, 10, 13, 19)]) (by decide) rfl ?_
  intro p e s m args below meth c s₁ B hml hv
  obtain ⟨rfl, ⟨⟨hsz, hP, hK, hD0, hN⟩, hX⟩, hXN⟩ := hv
  have hx := B.exec
  have hb := B.bytes
  have hr := B.returns
  have hts : ∀ w ∈ GW, w.before _ s = true := fun w h => atoms_spec (ws := Cond.codeWith yL_at cL_at 5 (some FieldType.int) [(0, 10, 13, 19)] :: GW) B.pre w (List.mem_cons_of_mem _ h)
  have htab : c.exceptionTable.toList = tableOf [(0, 10, 13, 19)] := vx_table (x := yL_at) B (atoms_spec (ws := Cond.codeWith yL_at cL_at 5 (some FieldType.int) [(0, 10, 13, 19)] :: GW) B.pre _ List.mem_cons_self)
  have hown : s.vm.findClass RL = some m.cls := findClass_of_methodNamed B.named
  have hlocks := B.notSynchronized
  subst hsz
  have hD := hD0.self (sz := s.heap.size)
  generalize hAe : va_A (wH cs ad o ((I, AN, AI, AL), f)) s.heap.size = A at hD hX ⊢
  have hA : ∀ q : Nat, s.heap.size ≤ q → A q := fun q h => by rw [← hAe]; exact Or.inr h
  have hS : va_S A s.heap s.heap [] := va_S.rf
  have hl := lv_entry [.ref (ad 0), .int g, .int x, .ref o] (n := 5) (Nat.le_of_ble_eq_true rfl)
  rw [lg_entry_eq]
  generalize (lg_sl [.ref (ad 0), .int g, .int x, .ref o] ++ List.replicate (5 - (lg_sl [.ref (ad 0), .int g, .int x, .ref o]).length) Slot.unset).toArray = ls at hl ⊢
  have hl : lv_has ls 5 [(0, .ref (ad 0)), (1, .int g), (2, .int x), (3, .ref o)] := hl
  generalize hargs : ([.ref (ad 0), .int g, .int x, .ref o] : List Value).toArray = args at *
  show W p l e rmL_at s m args below meth c s.heap [] 0 0 _ (F0 m 0 ls [])
  refine lv_aload_n hx hb dL_at_0 rfl (lv_at hl 3 rfl) ?_
  refine lv_iconst (v := nI 0) hx hb dL_at_1 (by decide) ?_
  refine lv_aload_n hx hb dL_at_2 rfl (lv_at hl 0 rfl) ?_
  refine lv_iload_n hx hb dL_at_3 rfl (lv_at hl 1 rfl) ?_
  refine lv_iload_n hx hb dL_at_4 rfl (lv_at hl 2 rfl) ?_
  refine x_calli (wf := wTs cs ad) (wx := wTs cs ad) (vx_runV (As := [.int g, .int x]) (rest := [.int (nI 0), .ref o]) ⟨hx, hb, hml, hown, hts⟩ (ctX2_at l hlt D cs ad I AN AI AL _ sa g x hn3 he3) (cwV 2 hts (gi_V gw_398 gw_399 gw_400 gw_53 gw_401) rfl rfl rfl (by decide +kernel) ⟨Nat.le_of_ble_eq_true rfl, Nat.le_of_ble_eq_true rfl⟩) ⟨gX_blind, va_recv hK (P_l hP) (ci := 2) (q0 := 0) rfl (wm_at (by decide) rfl), gX_pre (P_l hP) hK (D_l hD) hN hS hA hX⟩ rfl rfl hl.1 rfl (lv_room (Nat.le_of_ble_eq_true rfl)) dL_at_5 ⟨Nat.le_of_ble_eq_true rfl, Nat.le_of_ble_eq_true rfl⟩) hP hD hS hA (fun _ => wm_ads) (fun _ => wm_ads) (fun ce q9 w H locs hw hP hD hS h1 h2 h3 => ?_) (fun r w H locs hw hP hD hS => ?_)
  · obtain ⟨hpl, rfl⟩ := hw
    refine vx_catch (own := RL) (name := xIOB) (E := xIOB) hown (tableOf []) ⟨0, 10, 13, 19⟩ (tableOf []) (by rw [htab]; rfl) (fun z hz => nomatch hz) (by decide) (by decide) (hts _ gw_353) (va_Nw.use rfl (hX.1 _ (by decide))) h1 h2 h3 ?_
    refine lv_astore (lv' := [(4, .ref q9), (0, .ref (ad 0)), (1, .int g), (2, .int x), (3, .ref o)]) hx hb dL_at_13 hl (by decide) rfl (fun ls hl => ?_)
    refine lv_iconst (v := nI 1) hx hb dL_at_15 (by decide) ?_
    exact g_iret hx hb hr hlocks ((I, AN, AI, AL), f) (by rw [hPost, show clAt (I, AN, AI, AL) g x = (1, 0, (I, AN, AI, AL)) by unfold clAt; dsimp only; rw [if_neg (bf hpl)]]; exact ⟨rfl, rfl, fun h => absurd h (Nat.succ_ne_zero _)⟩) hK hP hD hS dL_at_16
  · obtain ⟨hpl, rfl, rfl⟩ := hw
    refine lv_i2l (v := Int32.toInt64 (AI (g.toNatClampNeg + 8) x.toNatClampNeg)) hx hb dL_at_8 rfl ?_
    refine h_last hx hb hK hP hD hS wT_len dL_at_9 (fun H locs hP hD hS => ?_)
    refine lv_goto (tgt := 17) hx hb dL_at_10 (by decide) ?_
    refine lv_iconst (v := nI 0) hx hb dL_at_17 (by decide) ?_
    exact g_iret hx hb hr hlocks ((I, AN, AI, AL), vp_updL f 0 (Int32.toInt64 (AI (g.toNatClampNeg + 8) x.toNatClampNeg))) (by rw [hPost, show clAt (I, AN, AI, AL) g x = (0, Int32.toInt64 (AI (g.toNatClampNeg + 8) x.toNatClampNeg), (I, AN, AI, AL)) by unfold clAt; dsimp only; rw [if_pos hpl]]; exact ⟨rfl, rfl, fun _ => rfl⟩) hK hP hD hS dL_at_18

abbrev rmL_plain : Room := { frames := 7, cells := 1, slots := 6, locals := 169 }
set_option maxHeartbeats 4000000 in
set_option maxRecDepth 100000 in
theorem ctL_plain (l : Launch) (hlt : l.stackTraces = false) (D : va_G) (cs : Nat → ClassId) (ad : Nat → Nat) (I : Nat → Nat) (AN : Nat → Nat → Nat) (AI : Nat → Nat → Int32) (AL : Nat → Nat → Int64) (f : Nat → Int64) (o sz : Nat) (sa : Nat → Nat) (x q : Int32) (hn3 : I 0 ≤ 3) (he3 : I 1 ≤ 3) (hdc : ∀ k, k < 7 → AN 5 k < 2 ^ 31) : Met l yL_plain (Cond.codeWith yL_plain cL_plain 5 (some FieldType.int) [(0, 9, 12, 19), (0, 9, 16, 13), (0, 9, 20, 21)] :: GW) rmL_plain (va_Pc [.ref (ad 0), .int x, .int q, .ref o] (gH D cs (wH cs ad o ((I, AN, AI, AL), f)) sz sa)) (va_Qi (hPost (clPlain (I, AN, AI, AL) x q)) (gB D cs (va_A (wH cs ad o ((I, AN, AI, AL), f)) sz) (wH cs ad o)) (va_A (wH cs ad o ((I, AN, AI, AL), f)) sz)) 1 6 (va_A (wH cs ad o ((I, AN, AI, AL), f)) sz) := by
  refine va_MetW (cc := cL_plain) (maxL := 5) (ret := (some FieldType.int)) (hh := [(0, 9, 12, 19), (0, 9, 16, 13), (0, 9, 20, 21)]) (by decide) rfl ?_
  intro p e s m args below meth c s₁ B hml hv
  obtain ⟨rfl, ⟨⟨hsz, hP, hK, hD0, hN⟩, hX⟩, hXN⟩ := hv
  have hx := B.exec
  have hb := B.bytes
  have hr := B.returns
  have hts : ∀ w ∈ GW, w.before _ s = true := fun w h => atoms_spec (ws := Cond.codeWith yL_plain cL_plain 5 (some FieldType.int) [(0, 9, 12, 19), (0, 9, 16, 13), (0, 9, 20, 21)] :: GW) B.pre w (List.mem_cons_of_mem _ h)
  have htab : c.exceptionTable.toList = tableOf [(0, 9, 12, 19), (0, 9, 16, 13), (0, 9, 20, 21)] := vx_table (x := yL_plain) B (atoms_spec (ws := Cond.codeWith yL_plain cL_plain 5 (some FieldType.int) [(0, 9, 12, 19), (0, 9, 16, 13), (0, 9, 20, 21)] :: GW) B.pre _ List.mem_cons_self)
  have hown : s.vm.findClass RL = some m.cls := findClass_of_methodNamed B.named
  have hlocks := B.notSynchronized
  subst hsz
  have hD := hD0.self (sz := s.heap.size)
  generalize hAe : va_A (wH cs ad o ((I, AN, AI, AL), f)) s.heap.size = A at hD hX ⊢
  have hA : ∀ q : Nat, s.heap.size ≤ q → A q := fun q h => by rw [← hAe]; exact Or.inr h
  have hS : va_S A s.heap s.heap [] := va_S.rf
  have hl := lv_entry [.ref (ad 0), .int x, .int q, .ref o] (n := 5) (Nat.le_of_ble_eq_true rfl)
  rw [lg_entry_eq]
  generalize (lg_sl [.ref (ad 0), .int x, .int q, .ref o] ++ List.replicate (5 - (lg_sl [.ref (ad 0), .int x, .int q, .ref o]).length) Slot.unset).toArray = ls at hl ⊢
  have hl : lv_has ls 5 [(0, .ref (ad 0)), (1, .int x), (2, .int q), (3, .ref o)] := hl
  generalize hargs : ([.ref (ad 0), .int x, .int q, .ref o] : List Value).toArray = args at *
  show W p l e rmL_plain s m args below meth c s.heap [] 0 0 _ (F0 m 0 ls [])
  refine lv_aload_n hx hb dL_plain_0 rfl (lv_at hl 3 rfl) ?_
  refine lv_iconst (v := nI 0) hx hb dL_plain_1 (by decide) ?_
  refine lv_aload_n hx hb dL_plain_2 rfl (lv_at hl 0 rfl) ?_
  refine lv_iload_n hx hb dL_plain_3 rfl (lv_at hl 1 rfl) ?_
  refine lv_iload_n hx hb dL_plain_4 rfl (lv_at hl 2 rfl) ?_
  refine x_calll (wf := wTs cs ad) (wx := wTs cs ad) (vx_runV (As := [.int x, .int q]) (rest := [.int (nI 0), .ref o]) ⟨hx, hb, hml, hown, hts⟩ (ctX2_plain l hlt D cs ad I AN AI AL _ sa x q hn3 he3 hdc) (cwV 2 hts (gi_V gw_405 gw_406 gw_407 gw_53 gw_408) rfl rfl rfl (by decide +kernel) ⟨Nat.le_of_ble_eq_true rfl, Nat.le_of_ble_eq_true rfl⟩) ⟨gX_blind, va_recv hK (P_l hP) (ci := 2) (q0 := 0) rfl (wm_at (by decide) rfl), gX_pre (P_l hP) hK (D_l hD) hN hS hA hX⟩ rfl rfl hl.1 rfl (lv_room (Nat.le_of_ble_eq_true rfl)) dL_plain_5 ⟨Nat.le_of_ble_eq_true rfl, Nat.le_of_ble_eq_true rfl⟩) hP hD hS hA (fun _ => wm_ads) (fun _ => wm_ads) (fun ce q9 w H locs hw hP hD hS h1 h2 h3 => ?_) (fun r w H locs hw hP hD hS => ?_)
  · obtain ⟨hun, rfl⟩ | ⟨hun, hag, rfl⟩ | ⟨hun, hag, hpt, rfl⟩ := hw
    · refine vx_catch (own := RL) (name := xIOB) (E := xIOB) hown (tableOf []) ⟨0, 9, 12, 19⟩ (tableOf [(0, 9, 16, 13), (0, 9, 20, 21)]) (by rw [htab]; rfl) (fun z hz => nomatch hz) (by decide) (by decide) (hts _ gw_353) (va_Nw.use rfl (hX.1 _ (by decide))) h1 h2 h3 ?_
      refine lv_astore (lv' := [(4, .ref q9), (0, .ref (ad 0)), (1, .int x), (2, .int q), (3, .ref o)]) hx hb dL_plain_12 hl (by decide) rfl (fun ls hl => ?_)
      refine lv_iconst (v := nI 1) hx hb dL_plain_14 (by decide) ?_
      exact g_iret hx hb hr hlocks ((I, AN, AI, AL), f) (by rw [hPost, show clPlain (I, AN, AI, AL) x q = (1, 0, (I, AN, AI, AL)) by unfold clPlain; dsimp only; rw [if_neg (bf hun)]]; exact ⟨rfl, rfl, fun h => absurd h (Nat.succ_ne_zero _)⟩) hK hP hD hS dL_plain_15
    · refine vx_catch (own := RL) (name := xISE) (E := xISE) hown (tableOf [(0, 9, 12, 19)]) ⟨0, 9, 16, 13⟩ (tableOf [(0, 9, 20, 21)]) (by rw [htab]; rfl) (fun z hz => by
        simp only [tableOf, List.map_cons, List.map_nil, List.mem_cons, List.not_mem_nil, or_false] at hz
        subst hz
        exact Or.inr ⟨by decide, xIOB, hts _ gw_353, hXN.2.1⟩) (by decide) (by decide) (hts _ gw_277) (va_Nw.use rfl (hX.1 _ (by decide))) h1 h2 h3 ?_
      refine lv_astore (lv' := [(4, .ref q9), (0, .ref (ad 0)), (1, .int x), (2, .int q), (3, .ref o)]) hx hb dL_plain_16 hl (by decide) rfl (fun ls hl => ?_)
      refine lv_iconst (v := nI 2) hx hb dL_plain_18 (by decide) ?_
      exact g_iret hx hb hr hlocks ((tE (I, AN, AI, AL)), f) (by rw [hPost, show clPlain (I, AN, AI, AL) x q = (2, 0, (tE (I, AN, AI, AL))) by unfold clPlain; dsimp only; rw [if_pos hun, if_neg (bf hag)]]; exact ⟨rfl, rfl, fun h => absurd h (Nat.succ_ne_zero _)⟩) hK hP hD hS dL_plain_19
    · refine vx_catch (own := RL) (name := xIAE) (E := xIAE) hown (tableOf [(0, 9, 12, 19), (0, 9, 16, 13)]) ⟨0, 9, 20, 21⟩ (tableOf []) (by rw [htab]; rfl) (fun z hz => by
        simp only [tableOf, List.map_cons, List.map_nil, List.mem_cons, List.not_mem_nil, or_false] at hz
        rcases hz with rfl | rfl
        · exact Or.inr ⟨by decide, xIOB, hts _ gw_353, hXN.1⟩
        · exact Or.inr ⟨by decide, xISE, hts _ gw_277, hXN.2.2⟩) (by decide) (by decide) (hts _ gw_354) (va_Nw.use rfl (hX.1 _ (by decide))) h1 h2 h3 ?_
      refine lv_astore (lv' := [(4, .ref q9), (0, .ref (ad 0)), (1, .int x), (2, .int q), (3, .ref o)]) hx hb dL_plain_20 hl (by decide) rfl (fun ls hl => ?_)
      refine lv_iconst (v := nI 3) hx hb dL_plain_22 (by decide) ?_
      exact g_iret hx hb hr hlocks ((tE (I, AN, AI, AL)), f) (by rw [hPost, show clPlain (I, AN, AI, AL) x q = (3, 0, (tE (I, AN, AI, AL))) by unfold clPlain; dsimp only; rw [if_pos hun, if_pos hag, if_neg (bf hpt)]]; exact ⟨rfl, rfl, fun h => absurd h (Nat.succ_ne_zero _)⟩) hK hP hD hS dL_plain_23
  · obtain ⟨hun, hag, hpt, rfl, rfl⟩ := hw
    refine h_last hx hb hK hP hD hS wT_len dL_plain_8 (fun H locs hP hD hS => ?_)
    refine lv_goto (tgt := 24) hx hb dL_plain_9 (by decide) ?_
    refine lv_iconst (v := nI 0) hx hb dL_plain_24 (by decide) ?_
    exact g_iret hx hb hr hlocks ((tE (I, AN, AI, AL)), vp_updL f 0 (ppart (E9 (I, AN, AI, AL)).2.1 (E9 (I, AN, AI, AL)).2.2 (E9 (I, AN, AI, AL)).1 (I 0) x.toNatClampNeg q)) (by rw [hPost, show clPlain (I, AN, AI, AL) x q = (0, ppart (E9 (I, AN, AI, AL)).2.1 (E9 (I, AN, AI, AL)).2.2 (E9 (I, AN, AI, AL)).1 (I 0) x.toNatClampNeg q, (tE (I, AN, AI, AL))) by unfold clPlain; dsimp only; rw [if_pos hun, if_pos hag, if_pos hpt]]; exact ⟨rfl, rfl, fun _ => rfl⟩) hK hP hD hS dL_plain_25

abbrev rmL_direction : Room := { frames := 7, cells := 1, slots := 6, locals := 171 }
set_option maxHeartbeats 4000000 in
set_option maxRecDepth 100000 in
theorem ctL_direction (l : Launch) (hlt : l.stackTraces = false) (D : va_G) (cs : Nat → ClassId) (ad : Nat → Nat) (I : Nat → Nat) (AN : Nat → Nat → Nat) (AI : Nat → Nat → Int32) (AL : Nat → Nat → Int64) (f : Nat → Int64) (o sz : Nat) (sa : Nat → Nat) (k x q : Int32) (hn3 : I 0 ≤ 3) (he3 : I 1 ≤ 3) (hdc : ∀ k, k < 7 → AN 5 k < 2 ^ 31) : Met l yL_direction (Cond.codeWith yL_direction cL_direction 6 (some FieldType.int) [(0, 11, 14, 19), (0, 11, 18, 21)] :: GW) rmL_direction (va_Pc [.ref (ad 0), .int k, .int x, .int q, .ref o] (gH D cs (wH cs ad o ((I, AN, AI, AL), f)) sz sa)) (va_Qi (hPost (clDir (I, AN, AI, AL) k x q)) (gB D cs (va_A (wH cs ad o ((I, AN, AI, AL), f)) sz) (wH cs ad o)) (va_A (wH cs ad o ((I, AN, AI, AL), f)) sz)) 1 6 (va_A (wH cs ad o ((I, AN, AI, AL), f)) sz) := by
  refine va_MetW (cc := cL_direction) (maxL := 6) (ret := (some FieldType.int)) (hh := [(0, 11, 14, 19), (0, 11, 18, 21)]) (by decide) rfl ?_
  intro p e s m args below meth c s₁ B hml hv
  obtain ⟨rfl, ⟨⟨hsz, hP, hK, hD0, hN⟩, hX⟩, hXN⟩ := hv
  have hx := B.exec
  have hb := B.bytes
  have hr := B.returns
  have hts : ∀ w ∈ GW, w.before _ s = true := fun w h => atoms_spec (ws := Cond.codeWith yL_direction cL_direction 6 (some FieldType.int) [(0, 11, 14, 19), (0, 11, 18, 21)] :: GW) B.pre w (List.mem_cons_of_mem _ h)
  have htab : c.exceptionTable.toList = tableOf [(0, 11, 14, 19), (0, 11, 18, 21)] := vx_table (x := yL_direction) B (atoms_spec (ws := Cond.codeWith yL_direction cL_direction 6 (some FieldType.int) [(0, 11, 14, 19), (0, 11, 18, 21)] :: GW) B.pre _ List.mem_cons_self)
  have hown : s.vm.findClass RL = some m.cls := findClass_of_methodNamed B.named
  have hlocks := B.notSynchronized
  subst hsz
  have hD := hD0.self (sz := s.heap.size)
  generalize hAe : va_A (wH cs ad o ((I, AN, AI, AL), f)) s.heap.size = A at hD hX ⊢
  have hA : ∀ q : Nat, s.heap.size ≤ q → A q := fun q h => by rw [← hAe]; exact Or.inr h
  have hS : va_S A s.heap s.heap [] := va_S.rf
  have hl := lv_entry [.ref (ad 0), .int k, .int x, .int q, .ref o] (n := 6) (Nat.le_of_ble_eq_true rfl)
  rw [lg_entry_eq]
  generalize (lg_sl [.ref (ad 0), .int k, .int x, .int q, .ref o] ++ List.replicate (6 - (lg_sl [.ref (ad 0), .int k, .int x, .int q, .ref o]).length) Slot.unset).toArray = ls at hl ⊢
  have hl : lv_has ls 6 [(0, .ref (ad 0)), (1, .int k), (2, .int x), (3, .int q), (4, .ref o)] := hl
  generalize hargs : ([.ref (ad 0), .int k, .int x, .int q, .ref o] : List Value).toArray = args at *
  show W p l e rmL_direction s m args below meth c s.heap [] 0 0 _ (F0 m 0 ls [])
  refine lv_aload hx hb dL_direction_0 (lv_at hl 4 rfl) ?_
  refine lv_iconst (v := nI 0) hx hb dL_direction_2 (by decide) ?_
  refine lv_aload_n hx hb dL_direction_3 rfl (lv_at hl 0 rfl) ?_
  refine lv_iload_n hx hb dL_direction_4 rfl (lv_at hl 1 rfl) ?_
  refine lv_iload_n hx hb dL_direction_5 rfl (lv_at hl 2 rfl) ?_
  refine lv_iload_n hx hb dL_direction_6 rfl (lv_at hl 3 rfl) ?_
  refine x_calll (wf := wTs cs ad) (wx := wTs cs ad) (vx_runV (As := [.int k, .int x, .int q]) (rest := [.int (nI 0), .ref o]) ⟨hx, hb, hml, hown, hts⟩ (ctX2_direction l hlt D cs ad I AN AI AL _ sa k x q hn3 he3 hdc) (cwV 3 hts (gi_V gw_430 gw_431 gw_432 gw_53 gw_433) rfl rfl rfl (by decide +kernel) ⟨Nat.le_of_ble_eq_true rfl, Nat.le_of_ble_eq_true rfl⟩) ⟨gX_blind, va_recv hK (P_l hP) (ci := 2) (q0 := 0) rfl (wm_at (by decide) rfl), gX_pre (P_l hP) hK (D_l hD) hN hS hA hX⟩ rfl rfl hl.1 rfl (lv_room (Nat.le_of_ble_eq_true rfl)) dL_direction_7 ⟨Nat.le_of_ble_eq_true rfl, Nat.le_of_ble_eq_true rfl⟩) hP hD hS hA (fun _ => wm_ads) (fun _ => wm_ads) (fun ce q9 w H locs hw hP hD hS h1 h2 h3 => ?_) (fun r w H locs hw hP hD hS => ?_)
  · obtain ⟨hno, rfl⟩ | ⟨hfr, hun, hpt, rfl⟩ := hw
    · refine vx_catch (own := RL) (name := xIOB) (E := xIOB) hown (tableOf []) ⟨0, 11, 14, 19⟩ (tableOf [(0, 11, 18, 21)]) (by rw [htab]; rfl) (fun z hz => nomatch hz) (by decide) (by decide) (hts _ gw_353) (va_Nw.use rfl (hX.1 _ (by decide))) h1 h2 h3 ?_
      refine lv_astore (lv' := [(5, .ref q9), (0, .ref (ad 0)), (1, .int k), (2, .int x), (3, .int q), (4, .ref o)]) hx hb dL_direction_14 hl (by decide) rfl (fun ls hl => ?_)
      refine lv_iconst (v := nI 1) hx hb dL_direction_16 (by decide) ?_
      exact g_iret hx hb hr hlocks ((tE (I, AN, AI, AL)), f) (by rw [hPost, show clDir (I, AN, AI, AL) k x q = (1, 0, (tE (I, AN, AI, AL))) by unfold clDir; dsimp only; rw [if_neg hno]]; exact ⟨rfl, rfl, fun h => absurd h (Nat.succ_ne_zero _)⟩) hK hP hD hS dL_direction_17
    · refine vx_catch (own := RL) (name := xIAE) (E := xIAE) hown (tableOf [(0, 11, 14, 19)]) ⟨0, 11, 18, 21⟩ (tableOf []) (by rw [htab]; rfl) (fun z hz => by
        simp only [tableOf, List.map_cons, List.map_nil, List.mem_cons, List.not_mem_nil, or_false] at hz
        subst hz
        exact Or.inr ⟨by decide, xIOB, hts _ gw_353, hXN.1⟩) (by decide) (by decide) (hts _ gw_354) (va_Nw.use rfl (hX.1 _ (by decide))) h1 h2 h3 ?_
      refine lv_astore (lv' := [(5, .ref q9), (0, .ref (ad 0)), (1, .int k), (2, .int x), (3, .int q), (4, .ref o)]) hx hb dL_direction_18 hl (by decide) rfl (fun ls hl => ?_)
      refine lv_iconst (v := nI 2) hx hb dL_direction_20 (by decide) ?_
      exact g_iret hx hb hr hlocks ((tE (I, AN, AI, AL)), f) (by rw [hPost, show clDir (I, AN, AI, AL) k x q = (2, 0, (tE (I, AN, AI, AL))) by unfold clDir; dsimp only; rw [if_pos ⟨hfr, hun⟩, if_neg (bf hpt)]]; exact ⟨rfl, rfl, fun h => absurd h (Nat.succ_ne_zero _)⟩) hK hP hD hS dL_direction_21
  · obtain ⟨ch, hch, hun, hpt, rfl, rfl⟩ := hw
    refine h_last hx hb hK hP hD hS wT_len dL_direction_10 (fun H locs hP hD hS => ?_)
    refine lv_goto (tgt := 22) hx hb dL_direction_11 (by decide) ?_
    refine lv_iconst (v := nI 0) hx hb dL_direction_22 (by decide) ?_
    exact g_iret hx hb hr hlocks ((tE (I, AN, AI, AL)), vp_updL f 0 (dpart (E9 (I, AN, AI, AL)).2.1 (E9 (I, AN, AI, AL)).2.2 (E9 (I, AN, AI, AL)).1 ch x.toNatClampNeg q)) (by rw [hPost, show clDir (I, AN, AI, AL) k x q = (0, dpart (E9 (I, AN, AI, AL)).2.1 (E9 (I, AN, AI, AL)).2.2 (E9 (I, AN, AI, AL)).1 ch x.toNatClampNeg q, (tE (I, AN, AI, AL))) by unfold clDir; dsimp only; rw [if_pos ⟨(by rw [show fr9 (I, AN, AI, AL) k = some ch from hch]; intro z; cases z), hun⟩, if_pos hpt, show fr9 (I, AN, AI, AL) k = some ch from hch, Option.getD_some]]; exact ⟨rfl, rfl, fun _ => rfl⟩) hK hP hD hS dL_direction_23

abbrev rmL_base : Room := { frames := 7, cells := 1, slots := 6, locals := 137 }
set_option maxHeartbeats 4000000 in
set_option maxRecDepth 100000 in
theorem ctL_base (l : Launch) (hlt : l.stackTraces = false) (D : va_G) (cs : Nat → ClassId) (ad : Nat → Nat) (I : Nat → Nat) (AN : Nat → Nat → Nat) (AI : Nat → Nat → Int32) (AL : Nat → Nat → Int64) (f : Nat → Int64) (o sz : Nat) (sa : Nat → Nat) (k x : Int32) (hn3 : I 0 ≤ 3) (he3 : I 1 ≤ 3) (hbg : ∀ r, r < 3 → AN 7 r < 6) : Met l yL_base (Cond.codeWith yL_base cL_base 5 (some FieldType.int) [(0, 9, 12, 19)] :: GW) rmL_base (va_Pc [.ref (ad 0), .int k, .int x, .ref o] (gH D cs (wH cs ad o ((I, AN, AI, AL), f)) sz sa)) (va_Qi (hPost (clBase (I, AN, AI, AL) k x)) (gB D cs (va_A (wH cs ad o ((I, AN, AI, AL), f)) sz) (wH cs ad o)) (va_A (wH cs ad o ((I, AN, AI, AL), f)) sz)) 1 6 (va_A (wH cs ad o ((I, AN, AI, AL), f)) sz) := by
  refine va_MetW (cc := cL_base) (maxL := 5) (ret := (some FieldType.int)) (hh := [(0, 9, 12, 19)]) (by decide) rfl ?_
  intro p e s m args below meth c s₁ B hml hv
  obtain ⟨rfl, ⟨⟨hsz, hP, hK, hD0, hN⟩, hX⟩, hXN⟩ := hv
  have hx := B.exec
  have hb := B.bytes
  have hr := B.returns
  have hts : ∀ w ∈ GW, w.before _ s = true := fun w h => atoms_spec (ws := Cond.codeWith yL_base cL_base 5 (some FieldType.int) [(0, 9, 12, 19)] :: GW) B.pre w (List.mem_cons_of_mem _ h)
  have htab : c.exceptionTable.toList = tableOf [(0, 9, 12, 19)] := vx_table (x := yL_base) B (atoms_spec (ws := Cond.codeWith yL_base cL_base 5 (some FieldType.int) [(0, 9, 12, 19)] :: GW) B.pre _ List.mem_cons_self)
  have hown : s.vm.findClass RL = some m.cls := findClass_of_methodNamed B.named
  have hlocks := B.notSynchronized
  subst hsz
  have hD := hD0.self (sz := s.heap.size)
  generalize hAe : va_A (wH cs ad o ((I, AN, AI, AL), f)) s.heap.size = A at hD hX ⊢
  have hA : ∀ q : Nat, s.heap.size ≤ q → A q := fun q h => by rw [← hAe]; exact Or.inr h
  have hS : va_S A s.heap s.heap [] := va_S.rf
  have hl := lv_entry [.ref (ad 0), .int k, .int x, .ref o] (n := 5) (Nat.le_of_ble_eq_true rfl)
  rw [lg_entry_eq]
  generalize (lg_sl [.ref (ad 0), .int k, .int x, .ref o] ++ List.replicate (5 - (lg_sl [.ref (ad 0), .int k, .int x, .ref o]).length) Slot.unset).toArray = ls at hl ⊢
  have hl : lv_has ls 5 [(0, .ref (ad 0)), (1, .int k), (2, .int x), (3, .ref o)] := hl
  generalize hargs : ([.ref (ad 0), .int k, .int x, .ref o] : List Value).toArray = args at *
  show W p l e rmL_base s m args below meth c s.heap [] 0 0 _ (F0 m 0 ls [])
  refine lv_aload_n hx hb dL_base_0 rfl (lv_at hl 3 rfl) ?_
  refine lv_iconst (v := nI 0) hx hb dL_base_1 (by decide) ?_
  refine lv_aload_n hx hb dL_base_2 rfl (lv_at hl 0 rfl) ?_
  refine lv_iload_n hx hb dL_base_3 rfl (lv_at hl 1 rfl) ?_
  refine lv_iload_n hx hb dL_base_4 rfl (lv_at hl 2 rfl) ?_
  refine x_calll (wf := wTs cs ad) (wx := wTs cs ad) (vx_runV (As := [.int k, .int x]) (rest := [.int (nI 0), .ref o]) ⟨hx, hb, hml, hown, hts⟩ (ctX2_base l hlt D cs ad I AN AI AL _ sa k x hn3 he3 hbg) (cwV 2 hts (gi_V gw_442 gw_443 gw_444 gw_53 gw_445) rfl rfl rfl (by decide +kernel) ⟨Nat.le_of_ble_eq_true rfl, Nat.le_of_ble_eq_true rfl⟩) ⟨gX_blind, va_recv hK (P_l hP) (ci := 2) (q0 := 0) rfl (wm_at (by decide) rfl), gX_pre (P_l hP) hK (D_l hD) hN hS hA hX⟩ rfl rfl hl.1 rfl (lv_room (Nat.le_of_ble_eq_true rfl)) dL_base_5 ⟨Nat.le_of_ble_eq_true rfl, Nat.le_of_ble_eq_true rfl⟩) hP hD hS hA (fun _ => wm_ads) (fun _ => wm_ads) (fun ce q9 w H locs hw hP hD hS h1 h2 h3 => ?_) (fun r w H locs hw hP hD hS => ?_)
  · obtain ⟨hno, rfl⟩ := hw
    refine vx_catch (own := RL) (name := xIOB) (E := xIOB) hown (tableOf []) ⟨0, 9, 12, 19⟩ (tableOf []) (by rw [htab]; rfl) (fun z hz => nomatch hz) (by decide) (by decide) (hts _ gw_353) (va_Nw.use rfl (hX.1 _ (by decide))) h1 h2 h3 ?_
    refine lv_astore (lv' := [(4, .ref q9), (0, .ref (ad 0)), (1, .int k), (2, .int x), (3, .ref o)]) hx hb dL_base_12 hl (by decide) rfl (fun ls hl => ?_)
    refine lv_iconst (v := nI 1) hx hb dL_base_14 (by decide) ?_
    exact g_iret hx hb hr hlocks ((tS (I, AN, AI, AL)), f) (by rw [hPost, show clBase (I, AN, AI, AL) k x = (1, 0, (tS (I, AN, AI, AL))) by unfold clBase; dsimp only; rw [if_neg hno]]; exact ⟨rfl, rfl, fun h => absurd h (Nat.succ_ne_zero _)⟩) hK hP hD hS dL_base_15
  · obtain ⟨hkm, hun, rfl, rfl⟩ := hw
    refine h_last hx hb hK hP hD hS wT_len dL_base_8 (fun H locs hP hD hS => ?_)
    refine lv_goto (tgt := 16) hx hb dL_base_9 (by decide) ?_
    refine lv_iconst (v := nI 0) hx hb dL_base_16 (by decide) ?_
    exact g_iret hx hb hr hlocks ((tS (I, AN, AI, AL)), vp_updL f 0 ((S9 (I, AN, AI, AL)).2 (I 0 - mbs (S9 (I, AN, AI, AL)).1 (I 0) + k.toNatClampNeg + 18) (3 + x.toNatClampNeg))) (by rw [hPost, show clBase (I, AN, AI, AL) k x = (0, (S9 (I, AN, AI, AL)).2 (I 0 - mbs (S9 (I, AN, AI, AL)).1 (I 0) + k.toNatClampNeg + 18) (3 + x.toNatClampNeg), (tS (I, AN, AI, AL))) by unfold clBase; dsimp only; rw [if_pos ⟨hkm, hun⟩]]; exact ⟨rfl, rfl, fun _ => rfl⟩) hK hP hD hS dL_base_17

abbrev rmL_least : Room := { frames := 7, cells := 1, slots := 6, locals := 136 }
set_option maxHeartbeats 4000000 in
set_option maxRecDepth 100000 in
theorem ctL_least (l : Launch) (hlt : l.stackTraces = false) (D : va_G) (cs : Nat → ClassId) (ad : Nat → Nat) (I : Nat → Nat) (AN : Nat → Nat → Nat) (AI : Nat → Nat → Int32) (AL : Nat → Nat → Int64) (f : Nat → Int64) (o sz : Nat) (sa : Nat → Nat) (x : Int32) (hn3 : I 0 ≤ 3) (he3 : I 1 ≤ 3) (hbg : ∀ r, r < 3 → AN 7 r < 6) : Met l yL_least (Cond.codeWith yL_least cL_least 4 (some FieldType.int) [(0, 8, 11, 19), (0, 8, 14, 13)] :: GW) rmL_least (va_Pc [.ref (ad 0), .int x, .ref o] (gH D cs (wH cs ad o ((I, AN, AI, AL), f)) sz sa)) (va_Qi (hPost (clLeast (I, AN, AI, AL) x)) (gB D cs (va_A (wH cs ad o ((I, AN, AI, AL), f)) sz) (wH cs ad o)) (va_A (wH cs ad o ((I, AN, AI, AL), f)) sz)) 1 6 (va_A (wH cs ad o ((I, AN, AI, AL), f)) sz) := by
  refine va_MetW (cc := cL_least) (maxL := 4) (ret := (some FieldType.int)) (hh := [(0, 8, 11, 19), (0, 8, 14, 13)]) (by decide) rfl ?_
  intro p e s m args below meth c s₁ B hml hv
  obtain ⟨rfl, ⟨⟨hsz, hP, hK, hD0, hN⟩, hX⟩, hXN⟩ := hv
  have hx := B.exec
  have hb := B.bytes
  have hr := B.returns
  have hts : ∀ w ∈ GW, w.before _ s = true := fun w h => atoms_spec (ws := Cond.codeWith yL_least cL_least 4 (some FieldType.int) [(0, 8, 11, 19), (0, 8, 14, 13)] :: GW) B.pre w (List.mem_cons_of_mem _ h)
  have htab : c.exceptionTable.toList = tableOf [(0, 8, 11, 19), (0, 8, 14, 13)] := vx_table (x := yL_least) B (atoms_spec (ws := Cond.codeWith yL_least cL_least 4 (some FieldType.int) [(0, 8, 11, 19), (0, 8, 14, 13)] :: GW) B.pre _ List.mem_cons_self)
  have hown : s.vm.findClass RL = some m.cls := findClass_of_methodNamed B.named
  have hlocks := B.notSynchronized
  subst hsz
  have hD := hD0.self (sz := s.heap.size)
  generalize hAe : va_A (wH cs ad o ((I, AN, AI, AL), f)) s.heap.size = A at hD hX ⊢
  have hA : ∀ q : Nat, s.heap.size ≤ q → A q := fun q h => by rw [← hAe]; exact Or.inr h
  have hS : va_S A s.heap s.heap [] := va_S.rf
  have hl := lv_entry [.ref (ad 0), .int x, .ref o] (n := 4) (Nat.le_of_ble_eq_true rfl)
  rw [lg_entry_eq]
  generalize (lg_sl [.ref (ad 0), .int x, .ref o] ++ List.replicate (4 - (lg_sl [.ref (ad 0), .int x, .ref o]).length) Slot.unset).toArray = ls at hl ⊢
  have hl : lv_has ls 4 [(0, .ref (ad 0)), (1, .int x), (2, .ref o)] := hl
  generalize hargs : ([.ref (ad 0), .int x, .ref o] : List Value).toArray = args at *
  show W p l e rmL_least s m args below meth c s.heap [] 0 0 _ (F0 m 0 ls [])
  refine lv_aload_n hx hb dL_least_0 rfl (lv_at hl 2 rfl) ?_
  refine lv_iconst (v := nI 0) hx hb dL_least_1 (by decide) ?_
  refine lv_aload_n hx hb dL_least_2 rfl (lv_at hl 0 rfl) ?_
  refine lv_iload_n hx hb dL_least_3 rfl (lv_at hl 1 rfl) ?_
  refine x_calll (wf := wTs cs ad) (wx := wTs cs ad) (vx_runV (As := [.int x]) (rest := [.int (nI 0), .ref o]) ⟨hx, hb, hml, hown, hts⟩ (ctX2_least l hlt D cs ad I AN AI AL _ sa x hn3 he3 hbg) (cwV 1 hts (gi_V gw_459 gw_460 gw_461 gw_53 gw_462) rfl rfl rfl (by decide +kernel) ⟨Nat.le_of_ble_eq_true rfl, Nat.le_of_ble_eq_true rfl⟩) ⟨gX_blind, va_recv hK (P_l hP) (ci := 2) (q0 := 0) rfl (wm_at (by decide) rfl), gX_pre (P_l hP) hK (D_l hD) hN hS hA hX⟩ rfl rfl hl.1 rfl (lv_room (Nat.le_of_ble_eq_true rfl)) dL_least_4 ⟨Nat.le_of_ble_eq_true rfl, Nat.le_of_ble_eq_true rfl⟩) hP hD hS hA (fun _ => wm_ads) (fun _ => wm_ads) (fun ce q9 w H locs hw hP hD hS h1 h2 h3 => ?_) (fun r w H locs hw hP hD hS => ?_)
  · obtain ⟨hun, rfl⟩ | ⟨hun, hre, rfl⟩ := hw
    · refine vx_catch (own := RL) (name := xIOB) (E := xIOB) hown (tableOf []) ⟨0, 8, 11, 19⟩ (tableOf [(0, 8, 14, 13)]) (by rw [htab]; rfl) (fun z hz => nomatch hz) (by decide) (by decide) (hts _ gw_353) (va_Nw.use rfl (hX.1 _ (by decide))) h1 h2 h3 ?_
      refine lv_astore_n (lv' := [(3, .ref q9), (0, .ref (ad 0)), (1, .int x), (2, .ref o)]) hx hb dL_least_11 rfl hl (by decide) rfl (fun ls hl => ?_)
      refine lv_iconst (v := nI 1) hx hb dL_least_12 (by decide) ?_
      exact g_iret hx hb hr hlocks ((I, AN, AI, AL), f) (by rw [hPost, show clLeast (I, AN, AI, AL) x = (1, 0, (I, AN, AI, AL)) by unfold clLeast; dsimp only; rw [if_neg (bf hun)]]; exact ⟨rfl, rfl, fun h => absurd h (Nat.succ_ne_zero _)⟩) hK hP hD hS dL_least_13
    · refine vx_catch (own := RL) (name := xISE) (E := xISE) hown (tableOf [(0, 8, 11, 19)]) ⟨0, 8, 14, 13⟩ (tableOf []) (by rw [htab]; rfl) (fun z hz => by
        simp only [tableOf, List.map_cons, List.map_nil, List.mem_cons, List.not_mem_nil, or_false] at hz
        subst hz
        exact Or.inr ⟨by decide, xIOB, hts _ gw_353, hXN.2.1⟩) (by decide) (by decide) (hts _ gw_277) (va_Nw.use rfl (hX.1 _ (by decide))) h1 h2 h3 ?_
      refine lv_astore_n (lv' := [(3, .ref q9), (0, .ref (ad 0)), (1, .int x), (2, .ref o)]) hx hb dL_least_14 rfl hl (by decide) rfl (fun ls hl => ?_)
      refine lv_iconst (v := nI 2) hx hb dL_least_15 (by decide) ?_
      exact g_iret hx hb hr hlocks ((tS (I, AN, AI, AL)), f) (by rw [hPost, show clLeast (I, AN, AI, AL) x = (2, 0, (tS (I, AN, AI, AL))) by unfold clLeast; dsimp only; rw [if_pos hun, if_neg (bf hre)]]; exact ⟨rfl, rfl, fun h => absurd h (Nat.succ_ne_zero _)⟩) hK hP hD hS dL_least_16
  · obtain ⟨hun, hre, rfl, rfl⟩ := hw
    refine h_last hx hb hK hP hD hS wT_len dL_least_7 (fun H locs hP hD hS => ?_)
    refine lv_goto (tgt := 17) hx hb dL_least_8 (by decide) ?_
    refine lv_iconst (v := nI 0) hx hb dL_least_17 (by decide) ?_
    exact g_iret hx hb hr hlocks ((tS (I, AN, AI, AL)), vp_updL f 0 ((S9 (I, AN, AI, AL)).2 21 (3 + x.toNatClampNeg))) (by rw [hPost, show clLeast (I, AN, AI, AL) x = (0, (S9 (I, AN, AI, AL)).2 21 (3 + x.toNatClampNeg), (tS (I, AN, AI, AL))) by unfold clLeast; dsimp only; rw [if_pos hun, if_pos hre]]; exact ⟨rfl, rfl, fun _ => rfl⟩) hK hP hD hS dL_least_18

abbrev rmL_nearest : Room := { frames := 7, cells := 1, slots := 6, locals := 170 }
set_option maxHeartbeats 4000000 in
set_option maxRecDepth 100000 in
theorem ctL_nearest (l : Launch) (hlt : l.stackTraces = false) (D : va_G) (cs : Nat → ClassId) (ad : Nat → Nat) (I : Nat → Nat) (AN : Nat → Nat → Nat) (AI : Nat → Nat → Int32) (AL : Nat → Nat → Int64) (f : Nat → Int64) (o sz : Nat) (sa : Nat → Nat) (x q : Int32) (hn3 : I 0 ≤ 3) (he3 : I 1 ≤ 3) (hbg : ∀ r, r < 3 → AN 7 r < 6) (hdc : ∀ k, k < 7 → AN 5 k < 2 ^ 31) : Met l yL_nearest (Cond.codeWith yL_nearest cL_nearest 5 (some FieldType.int) [(0, 9, 12, 19), (0, 9, 16, 21)] :: GW) rmL_nearest (va_Pc [.ref (ad 0), .int x, .int q, .ref o] (gH D cs (wH cs ad o ((I, AN, AI, AL), f)) sz sa)) (va_Qi (hPost (clNear (I, AN, AI, AL) x q)) (gB D cs (va_A (wH cs ad o ((I, AN, AI, AL), f)) sz) (wH cs ad o)) (va_A (wH cs ad o ((I, AN, AI, AL), f)) sz)) 1 6 (va_A (wH cs ad o ((I, AN, AI, AL), f)) sz) := by
  refine va_MetW (cc := cL_nearest) (maxL := 5) (ret := (some FieldType.int)) (hh := [(0, 9, 12, 19), (0, 9, 16, 21)]) (by decide) rfl ?_
  intro p e s m args below meth c s₁ B hml hv
  obtain ⟨rfl, ⟨⟨hsz, hP, hK, hD0, hN⟩, hX⟩, hXN⟩ := hv
  have hx := B.exec
  have hb := B.bytes
  have hr := B.returns
  have hts : ∀ w ∈ GW, w.before _ s = true := fun w h => atoms_spec (ws := Cond.codeWith yL_nearest cL_nearest 5 (some FieldType.int) [(0, 9, 12, 19), (0, 9, 16, 21)] :: GW) B.pre w (List.mem_cons_of_mem _ h)
  have htab : c.exceptionTable.toList = tableOf [(0, 9, 12, 19), (0, 9, 16, 21)] := vx_table (x := yL_nearest) B (atoms_spec (ws := Cond.codeWith yL_nearest cL_nearest 5 (some FieldType.int) [(0, 9, 12, 19), (0, 9, 16, 21)] :: GW) B.pre _ List.mem_cons_self)
  have hown : s.vm.findClass RL = some m.cls := findClass_of_methodNamed B.named
  have hlocks := B.notSynchronized
  subst hsz
  have hD := hD0.self (sz := s.heap.size)
  generalize hAe : va_A (wH cs ad o ((I, AN, AI, AL), f)) s.heap.size = A at hD hX ⊢
  have hA : ∀ q : Nat, s.heap.size ≤ q → A q := fun q h => by rw [← hAe]; exact Or.inr h
  have hS : va_S A s.heap s.heap [] := va_S.rf
  have hl := lv_entry [.ref (ad 0), .int x, .int q, .ref o] (n := 5) (Nat.le_of_ble_eq_true rfl)
  rw [lg_entry_eq]
  generalize (lg_sl [.ref (ad 0), .int x, .int q, .ref o] ++ List.replicate (5 - (lg_sl [.ref (ad 0), .int x, .int q, .ref o]).length) Slot.unset).toArray = ls at hl ⊢
  have hl : lv_has ls 5 [(0, .ref (ad 0)), (1, .int x), (2, .int q), (3, .ref o)] := hl
  generalize hargs : ([.ref (ad 0), .int x, .int q, .ref o] : List Value).toArray = args at *
  show W p l e rmL_nearest s m args below meth c s.heap [] 0 0 _ (F0 m 0 ls [])
  refine lv_aload_n hx hb dL_nearest_0 rfl (lv_at hl 3 rfl) ?_
  refine lv_iconst (v := nI 0) hx hb dL_nearest_1 (by decide) ?_
  refine lv_aload_n hx hb dL_nearest_2 rfl (lv_at hl 0 rfl) ?_
  refine lv_iload_n hx hb dL_nearest_3 rfl (lv_at hl 1 rfl) ?_
  refine lv_iload_n hx hb dL_nearest_4 rfl (lv_at hl 2 rfl) ?_
  refine x_calll (wf := wTs cs ad) (wx := wTs cs ad) (vx_runV (As := [.int x, .int q]) (rest := [.int (nI 0), .ref o]) ⟨hx, hb, hml, hown, hts⟩ (ctX2_nearest l hlt D cs ad I AN AI AL _ sa x q hn3 he3 hbg hdc) (cwV 2 hts (gi_V gw_467 gw_468 gw_469 gw_53 gw_470) rfl rfl rfl (by decide +kernel) ⟨Nat.le_of_ble_eq_true rfl, Nat.le_of_ble_eq_true rfl⟩) ⟨gX_blind, va_recv hK (P_l hP) (ci := 2) (q0 := 0) rfl (wm_at (by decide) rfl), gX_pre (P_l hP) hK (D_l hD) hN hS hA hX⟩ rfl rfl hl.1 rfl (lv_room (Nat.le_of_ble_eq_true rfl)) dL_nearest_5 ⟨Nat.le_of_ble_eq_true rfl, Nat.le_of_ble_eq_true rfl⟩) hP hD hS hA (fun _ => wm_ads) (fun _ => wm_ads) (fun ce q9 w H locs hw hP hD hS h1 h2 h3 => ?_) (fun r w H locs hw hP hD hS => ?_)
  · obtain ⟨hun, rfl⟩ | ⟨hun, hpt, rfl⟩ := hw
    · refine vx_catch (own := RL) (name := xIOB) (E := xIOB) hown (tableOf []) ⟨0, 9, 12, 19⟩ (tableOf [(0, 9, 16, 21)]) (by rw [htab]; rfl) (fun z hz => nomatch hz) (by decide) (by decide) (hts _ gw_353) (va_Nw.use rfl (hX.1 _ (by decide))) h1 h2 h3 ?_
      refine lv_astore (lv' := [(4, .ref q9), (0, .ref (ad 0)), (1, .int x), (2, .int q), (3, .ref o)]) hx hb dL_nearest_12 hl (by decide) rfl (fun ls hl => ?_)
      refine lv_iconst (v := nI 1) hx hb dL_nearest_14 (by decide) ?_
      exact g_iret hx hb hr hlocks ((I, AN, AI, AL), f) (by rw [hPost, show clNear (I, AN, AI, AL) x q = (1, 0, (I, AN, AI, AL)) by unfold clNear; dsimp only; rw [if_neg (bf hun)]]; exact ⟨rfl, rfl, fun h => absurd h (Nat.succ_ne_zero _)⟩) hK hP hD hS dL_nearest_15
    · refine vx_catch (own := RL) (name := xIAE) (E := xIAE) hown (tableOf [(0, 9, 12, 19)]) ⟨0, 9, 16, 21⟩ (tableOf []) (by rw [htab]; rfl) (fun z hz => by
        simp only [tableOf, List.map_cons, List.map_nil, List.mem_cons, List.not_mem_nil, or_false] at hz
        subst hz
        exact Or.inr ⟨by decide, xIOB, hts _ gw_353, hXN.1⟩) (by decide) (by decide) (hts _ gw_354) (va_Nw.use rfl (hX.1 _ (by decide))) h1 h2 h3 ?_
      refine lv_astore (lv' := [(4, .ref q9), (0, .ref (ad 0)), (1, .int x), (2, .int q), (3, .ref o)]) hx hb dL_nearest_16 hl (by decide) rfl (fun ls hl => ?_)
      refine lv_iconst (v := nI 2) hx hb dL_nearest_18 (by decide) ?_
      exact g_iret hx hb hr hlocks ((I, AN, AI, AL), f) (by rw [hPost, show clNear (I, AN, AI, AL) x q = (2, 0, (I, AN, AI, AL)) by unfold clNear; dsimp only; rw [if_pos hun, if_neg (bf hpt)]]; exact ⟨rfl, rfl, fun h => absurd h (Nat.succ_ne_zero _)⟩) hK hP hD hS dL_nearest_19
  · obtain ⟨hun, hpt, rfl, rfl⟩ := hw
    refine h_last hx hb hK hP hD hS wT_len dL_nearest_8 (fun H locs hP hD hS => ?_)
    refine lv_goto (tgt := 20) hx hb dL_nearest_9 (by decide) ?_
    refine lv_iconst (v := nI 0) hx hb dL_nearest_20 (by decide) ?_
    exact g_iret hx hb hr hlocks ((tN (I, AN, AI, AL)), vp_updL f 0 (ppart (N9 (I, AN, AI, AL)).2.1 (N9 (I, AN, AI, AL)).2.2 (N9 (I, AN, AI, AL)).1 (I 0 + 1) x.toNatClampNeg q)) (by rw [hPost, show clNear (I, AN, AI, AL) x q = (0, ppart (N9 (I, AN, AI, AL)).2.1 (N9 (I, AN, AI, AL)).2.2 (N9 (I, AN, AI, AL)).1 (I 0 + 1) x.toNatClampNeg q, (tN (I, AN, AI, AL))) by unfold clNear; dsimp only; rw [if_pos hun, if_pos hpt]]; exact ⟨rfl, rfl, fun _ => rfl⟩) hK hP hD hS dL_nearest_21

abbrev rmL_squares : Room := { frames := 7, cells := 1, slots := 6, locals := 169 }
set_option maxHeartbeats 4000000 in
set_option maxRecDepth 100000 in
theorem ctL_squares (l : Launch) (hlt : l.stackTraces = false) (D : va_G) (cs : Nat → ClassId) (ad : Nat → Nat) (I : Nat → Nat) (AN : Nat → Nat → Nat) (AI : Nat → Nat → Int32) (AL : Nat → Nat → Int64) (f : Nat → Int64) (o sz : Nat) (sa : Nat → Nat) (q : Int32) (hn3 : I 0 ≤ 3) (he3 : I 1 ≤ 3) (hbg : ∀ r, r < 3 → AN 7 r < 6) (hdc : ∀ k, k < 7 → AN 5 k < 2 ^ 31) : Met l yL_squares (Cond.codeWith yL_squares cL_squares 4 (some FieldType.int) [(0, 8, 11, 21)] :: GW) rmL_squares (va_Pc [.ref (ad 0), .int q, .ref o] (gH D cs (wH cs ad o ((I, AN, AI, AL), f)) sz sa)) (va_Qi (hPost (clSqu (I, AN, AI, AL) q)) (gB D cs (va_A (wH cs ad o ((I, AN, AI, AL), f)) sz) (wH cs ad o)) (va_A (wH cs ad o ((I, AN, AI, AL), f)) sz)) 1 6 (va_A (wH cs ad o ((I, AN, AI, AL), f)) sz) := by
  refine va_MetW (cc := cL_squares) (maxL := 4) (ret := (some FieldType.int)) (hh := [(0, 8, 11, 21)]) (by decide) rfl ?_
  intro p e s m args below meth c s₁ B hml hv
  obtain ⟨rfl, ⟨⟨hsz, hP, hK, hD0, hN⟩, hX⟩, hXN⟩ := hv
  have hx := B.exec
  have hb := B.bytes
  have hr := B.returns
  have hts : ∀ w ∈ GW, w.before _ s = true := fun w h => atoms_spec (ws := Cond.codeWith yL_squares cL_squares 4 (some FieldType.int) [(0, 8, 11, 21)] :: GW) B.pre w (List.mem_cons_of_mem _ h)
  have htab : c.exceptionTable.toList = tableOf [(0, 8, 11, 21)] := vx_table (x := yL_squares) B (atoms_spec (ws := Cond.codeWith yL_squares cL_squares 4 (some FieldType.int) [(0, 8, 11, 21)] :: GW) B.pre _ List.mem_cons_self)
  have hown : s.vm.findClass RL = some m.cls := findClass_of_methodNamed B.named
  have hlocks := B.notSynchronized
  subst hsz
  have hD := hD0.self (sz := s.heap.size)
  generalize hAe : va_A (wH cs ad o ((I, AN, AI, AL), f)) s.heap.size = A at hD hX ⊢
  have hA : ∀ q : Nat, s.heap.size ≤ q → A q := fun q h => by rw [← hAe]; exact Or.inr h
  have hS : va_S A s.heap s.heap [] := va_S.rf
  have hl := lv_entry [.ref (ad 0), .int q, .ref o] (n := 4) (Nat.le_of_ble_eq_true rfl)
  rw [lg_entry_eq]
  generalize (lg_sl [.ref (ad 0), .int q, .ref o] ++ List.replicate (4 - (lg_sl [.ref (ad 0), .int q, .ref o]).length) Slot.unset).toArray = ls at hl ⊢
  have hl : lv_has ls 4 [(0, .ref (ad 0)), (1, .int q), (2, .ref o)] := hl
  generalize hargs : ([.ref (ad 0), .int q, .ref o] : List Value).toArray = args at *
  show W p l e rmL_squares s m args below meth c s.heap [] 0 0 _ (F0 m 0 ls [])
  refine lv_aload_n hx hb dL_squares_0 rfl (lv_at hl 2 rfl) ?_
  refine lv_iconst (v := nI 0) hx hb dL_squares_1 (by decide) ?_
  refine lv_aload_n hx hb dL_squares_2 rfl (lv_at hl 0 rfl) ?_
  refine lv_iload_n hx hb dL_squares_3 rfl (lv_at hl 1 rfl) ?_
  refine x_calll (wf := wTs cs ad) (wx := wTs cs ad) (vx_runV (As := [.int q]) (rest := [.int (nI 0), .ref o]) ⟨hx, hb, hml, hown, hts⟩ (ctX2_squares l hlt D cs ad I AN AI AL _ sa q hn3 he3 hbg hdc) (cwV 1 hts (gi_V gw_482 gw_483 gw_484 gw_53 gw_485) rfl rfl rfl (by decide +kernel) ⟨Nat.le_of_ble_eq_true rfl, Nat.le_of_ble_eq_true rfl⟩) ⟨gX_blind, va_recv hK (P_l hP) (ci := 2) (q0 := 0) rfl (wm_at (by decide) rfl), gX_pre (P_l hP) hK (D_l hD) hN hS hA hX⟩ rfl rfl hl.1 rfl (lv_room (Nat.le_of_ble_eq_true rfl)) dL_squares_4 ⟨Nat.le_of_ble_eq_true rfl, Nat.le_of_ble_eq_true rfl⟩) hP hD hS hA (fun _ => wm_ads) (fun _ => wm_ads) (fun ce q9 w H locs hw hP hD hS h1 h2 h3 => ?_) (fun r w H locs hw hP hD hS => ?_)
  · obtain ⟨hpt, rfl⟩ := hw
    refine vx_catch (own := RL) (name := xIAE) (E := xIAE) hown (tableOf []) ⟨0, 8, 11, 21⟩ (tableOf []) (by rw [htab]; rfl) (fun z hz => nomatch hz) (by decide) (by decide) (hts _ gw_354) (va_Nw.use rfl (hX.1 _ (by decide))) h1 h2 h3 ?_
    refine lv_astore_n (lv' := [(3, .ref q9), (0, .ref (ad 0)), (1, .int q), (2, .ref o)]) hx hb dL_squares_11 rfl hl (by decide) rfl (fun ls hl => ?_)
    refine lv_iconst (v := nI 1) hx hb dL_squares_12 (by decide) ?_
    exact g_iret hx hb hr hlocks ((I, AN, AI, AL), f) (by rw [hPost, show clSqu (I, AN, AI, AL) q = (1, 0, (I, AN, AI, AL)) by unfold clSqu; dsimp only; rw [if_neg (bf hpt)]]; exact ⟨rfl, rfl, fun h => absurd h (Nat.succ_ne_zero _)⟩) hK hP hD hS dL_squares_13
  · obtain ⟨hpt, rfl, rfl⟩ := hw
    refine h_last hx hb hK hP hD hS wT_len dL_squares_7 (fun H locs hP hD hS => ?_)
    refine lv_goto (tgt := 14) hx hb dL_squares_8 (by decide) ?_
    refine lv_iconst (v := nI 0) hx hb dL_squares_14 (by decide) ?_
    exact g_iret hx hb hr hlocks ((tN (I, AN, AI, AL)), vp_updL f 0 (ppart (N9 (I, AN, AI, AL)).2.1 (N9 (I, AN, AI, AL)).2.2 (N9 (I, AN, AI, AL)).1 (I 0 + 1) (I 0) q)) (by rw [hPost, show clSqu (I, AN, AI, AL) q = (0, ppart (N9 (I, AN, AI, AL)).2.1 (N9 (I, AN, AI, AL)).2.2 (N9 (I, AN, AI, AL)).1 (I 0 + 1) (I 0) q, (tN (I, AN, AI, AL))) by unfold clSqu; dsimp only; rw [if_pos hpt]]; exact ⟨rfl, rfl, fun _ => rfl⟩) hK hP hD hS dL_squares_15

abbrev rmL_inBox : Room := { frames := 7, cells := 1, slots := 6, locals := 108 }
set_option maxHeartbeats 4000000 in
set_option maxRecDepth 100000 in
theorem ctL_inBox (l : Launch) (hlt : l.stackTraces = false) (D : va_G) (cs : Nat → ClassId) (ad : Nat → Nat) (I : Nat → Nat) (AN : Nat → Nat → Nat) (AI : Nat → Nat → Int32) (AL : Nat → Nat → Int64) (f : Nat → Int64) (o sz : Nat) (sa : Nat → Nat) (q : Int32) (hn3 : I 0 ≤ 3) (he3 : I 1 ≤ 3) : Met l yL_inBox (Cond.codeWith yL_inBox cL_inBox 4 (some FieldType.int) [(0, 9, 12, 21)] :: GW) rmL_inBox (va_Pc [.ref (ad 0), .int q, .ref o] (gH D cs (wH cs ad o ((I, AN, AI, AL), f)) sz sa)) (va_Qi (hPost (clBox (I, AN, AI, AL) q)) (gB D cs (va_A (wH cs ad o ((I, AN, AI, AL), f)) sz) (wH cs ad o)) (va_A (wH cs ad o ((I, AN, AI, AL), f)) sz)) 1 6 (va_A (wH cs ad o ((I, AN, AI, AL), f)) sz) := by
  refine va_MetW (cc := cL_inBox) (maxL := 4) (ret := (some FieldType.int)) (hh := [(0, 9, 12, 21)]) (by decide) rfl ?_
  intro p e s m args below meth c s₁ B hml hv
  obtain ⟨rfl, ⟨⟨hsz, hP, hK, hD0, hN⟩, hX⟩, hXN⟩ := hv
  have hx := B.exec
  have hb := B.bytes
  have hr := B.returns
  have hts : ∀ w ∈ GW, w.before _ s = true := fun w h => atoms_spec (ws := Cond.codeWith yL_inBox cL_inBox 4 (some FieldType.int) [(0, 9, 12, 21)] :: GW) B.pre w (List.mem_cons_of_mem _ h)
  have htab : c.exceptionTable.toList = tableOf [(0, 9, 12, 21)] := vx_table (x := yL_inBox) B (atoms_spec (ws := Cond.codeWith yL_inBox cL_inBox 4 (some FieldType.int) [(0, 9, 12, 21)] :: GW) B.pre _ List.mem_cons_self)
  have hown : s.vm.findClass RL = some m.cls := findClass_of_methodNamed B.named
  have hlocks := B.notSynchronized
  subst hsz
  have hD := hD0.self (sz := s.heap.size)
  generalize hAe : va_A (wH cs ad o ((I, AN, AI, AL), f)) s.heap.size = A at hD hX ⊢
  have hA : ∀ q : Nat, s.heap.size ≤ q → A q := fun q h => by rw [← hAe]; exact Or.inr h
  have hS : va_S A s.heap s.heap [] := va_S.rf
  have hl := lv_entry [.ref (ad 0), .int q, .ref o] (n := 4) (Nat.le_of_ble_eq_true rfl)
  rw [lg_entry_eq]
  generalize (lg_sl [.ref (ad 0), .int q, .ref o] ++ List.replicate (4 - (lg_sl [.ref (ad 0), .int q, .ref o]).length) Slot.unset).toArray = ls at hl ⊢
  have hl : lv_has ls 4 [(0, .ref (ad 0)), (1, .int q), (2, .ref o)] := hl
  generalize hargs : ([.ref (ad 0), .int q, .ref o] : List Value).toArray = args at *
  show W p l e rmL_inBox s m args below meth c s.heap [] 0 0 _ (F0 m 0 ls [])
  refine lv_aload_n hx hb dL_inBox_0 rfl (lv_at hl 2 rfl) ?_
  refine lv_iconst (v := nI 0) hx hb dL_inBox_1 (by decide) ?_
  refine lv_aload_n hx hb dL_inBox_2 rfl (lv_at hl 0 rfl) ?_
  refine lv_iload_n hx hb dL_inBox_3 rfl (lv_at hl 1 rfl) ?_
  refine x_calli (wf := wTs cs ad) (wx := wTs cs ad) (vx_runV (As := [.int q]) (rest := [.int (nI 0), .ref o]) ⟨hx, hb, hml, hown, hts⟩ (ctX2_inBox l hlt D cs ad I AN AI AL _ sa q hn3 he3) (cwV 1 hts (gi_V gw_489 gw_490 gw_491 gw_53 gw_492) rfl rfl rfl (by decide +kernel) ⟨Nat.le_of_ble_eq_true rfl, Nat.le_of_ble_eq_true rfl⟩) ⟨gX_blind, va_recv hK (P_l hP) (ci := 2) (q0 := 0) rfl (wm_at (by decide) rfl), gX_pre (P_l hP) hK (D_l hD) hN hS hA hX⟩ rfl rfl hl.1 rfl (lv_room (Nat.le_of_ble_eq_true rfl)) dL_inBox_4 ⟨Nat.le_of_ble_eq_true rfl, Nat.le_of_ble_eq_true rfl⟩) hP hD hS hA (fun _ => wm_ads) (fun _ => wm_ads) (fun ce q9 w H locs hw hP hD hS h1 h2 h3 => ?_) (fun r w H locs hw hP hD hS => ?_)
  · obtain ⟨hin, rfl⟩ := hw
    refine vx_catch (own := RL) (name := xIAE) (E := xIAE) hown (tableOf []) ⟨0, 9, 12, 21⟩ (tableOf []) (by rw [htab]; rfl) (fun z hz => nomatch hz) (by decide) (by decide) (hts _ gw_354) (va_Nw.use rfl (hX.1 _ (by decide))) h1 h2 h3 ?_
    refine lv_astore_n (lv' := [(3, .ref q9), (0, .ref (ad 0)), (1, .int q), (2, .ref o)]) hx hb dL_inBox_12 rfl hl (by decide) rfl (fun ls hl => ?_)
    refine lv_iconst (v := nI 1) hx hb dL_inBox_13 (by decide) ?_
    exact g_iret hx hb hr hlocks ((I, AN, AI, AL), f) (by rw [hPost, show clBox (I, AN, AI, AL) q = (1, 0, (I, AN, AI, AL)) by unfold clBox; dsimp only; rw [if_neg (bf hin)]]; exact ⟨rfl, rfl, fun h => absurd h (Nat.succ_ne_zero _)⟩) hK hP hD hS dL_inBox_14
  · obtain ⟨hin, rfl, rfl⟩ := hw
    refine lv_i2l (v := Int32.toInt64 (boxX (I 0) (I 1) q.toNatClampNeg AI)) hx hb dL_inBox_7 rfl ?_
    refine h_last hx hb hK hP hD hS wT_len dL_inBox_8 (fun H locs hP hD hS => ?_)
    refine lv_goto (tgt := 15) hx hb dL_inBox_9 (by decide) ?_
    refine lv_iconst (v := nI 0) hx hb dL_inBox_15 (by decide) ?_
    exact g_iret hx hb hr hlocks ((I, AN, AI, AL), vp_updL f 0 (Int32.toInt64 (boxX (I 0) (I 1) q.toNatClampNeg AI))) (by rw [hPost, show clBox (I, AN, AI, AL) q = (0, Int32.toInt64 (boxX (I 0) (I 1) q.toNatClampNeg AI), (I, AN, AI, AL)) by unfold clBox; dsimp only; rw [if_pos hin]]; exact ⟨rfl, rfl, fun _ => rfl⟩) hK hP hD hS dL_inBox_16
