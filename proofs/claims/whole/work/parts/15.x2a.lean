/-- invariants of the two machines -/
theorem el_le {w h : Nat} : ∀ (n q : Nat) (x : Nat × (Nat → Nat → Nat) × (Nat → Nat → Int64)), x.1 ≤ h → (fo (estep w h) n q x).1 ≤ h
  | 0, _, _, hx => hx
  | n + 1, q, x, hx => by
    rw [fo_s]
    refine el_le n (q + 1) _ ?_
    by_cases hd : x.1 < h
    · cases hf : fnd (fun k => x.2.2 (k + 11) q ≠ 0) (h - x.1) x.1 with
      | none => rw [estep_none hd hf]; exact hx
      | some k => rw [estep_some hd hf]; exact hd
    · rw [estep_out hd]; exact hx
theorem el_dc {w h : Nat} : ∀ (n q : Nat) (x : Nat × (Nat → Nat → Nat) × (Nat → Nat → Int64)), q + n < 2 ^ 31 → (∀ k, k < 7 → x.2.1 5 k < 2 ^ 31) → ∀ k, k < 7 → (fo (estep w h) n q x).2.1 5 k < 2 ^ 31
  | 0, _, _, _, hx => hx
  | n + 1, q, x, hq, hx => by
    rw [fo_s]
    refine el_dc n (q + 1) _ (by omega) ?_
    by_cases hd : x.1 < h
    · cases hf : fnd (fun k => x.2.2 (k + 11) q ≠ 0) (h - x.1) x.1 with
      | none => rw [estep_none hd hf]; exact hx
      | some k =>
        rw [estep_some hd hf]
        intro j hj
        show up2 x.2.1 5 x.1 q 5 j < 2 ^ 31
        by_cases hjx : j = x.1
        · rw [hjx, up2_s]; omega
        · rw [up2_n (fun z => hjx z.2)]; exact hx j hj
    · rw [estep_out hd]; exact hx
theorem sp_bg0 {h : Nat} : ∀ (n q : Nat) (x : Nat × (Nat → Nat → Nat) × (Nat → Nat → Int64)), q + n ≤ 6 → (∀ k, k < 3 → x.2.1 7 k < 6) → ∀ k, k < 3 → (fo (sstep h) n q x).2.1 7 k < 6
  | 0, _, _, _, hx => hx
  | n + 1, q, x, hq, hx => by
    rw [fo_s]
    refine sp_bg0 n (q + 1) _ (by omega) ?_
    by_cases hd : x.1 < h
    · by_cases hz : lgat h x.1 q x.2.2 (x.1 + 18) q = 0
      · rw [sstep_z hd hz]; exact hx
      · rw [sstep_s hd hz]
        intro j hj
        show up2 x.2.1 7 x.1 q 7 j < 6
        by_cases hjx : j = x.1
        · rw [hjx, up2_s]; omega
        · rw [up2_n (fun z => hjx z.2)]; exact hx j hj
    · rw [sstep_out hd]; exact hx
theorem sp_bg {h : Nat} {AN : Nat → Nat → Nat} {AL : Nat → Nat → Int64} (hx : ∀ k, k < 3 → AN 7 k < 6) : ∀ k, k < 3 → (spn h AN AL).1 7 k < 6 := sp_bg0 6 0 (0, AN, AL) (by decide) hx
theorem el_ot {w h : Nat} {k9 : Nat} (hk : k9 ≠ 5) : ∀ (n q : Nat) (x : Nat × (Nat → Nat → Nat) × (Nat → Nat → Int64)), (fo (estep w h) n q x).2.1 k9 = x.2.1 k9
  | 0, _, _ => rfl
  | n + 1, q, x => by
    rw [fo_s, el_ot hk n]
    by_cases hd : x.1 < h
    · cases hf : fnd (fun k => x.2.2 (k + 11) q ≠ 0) (h - x.1) x.1 with
      | none => rw [estep_none hd hf]
      | some k => rw [estep_some hd hf]; exact up2_row hk
    · rw [estep_out hd]
theorem sp_ot {h : Nat} {k9 : Nat} (hk : k9 ≠ 7) : ∀ (n q : Nat) (x : Nat × (Nat → Nat → Nat) × (Nat → Nat → Int64)), (fo (sstep h) n q x).2.1 k9 = x.2.1 k9
  | 0, _, _ => rfl
  | n + 1, q, x => by
    rw [fo_s, sp_ot hk n]
    by_cases hd : x.1 < h
    · by_cases hz : lgat h x.1 q x.2.2 (x.1 + 18) q = 0
      · rw [sstep_z hd hz]
      · rw [sstep_s hd hz]; exact up2_row hk
    · rw [sstep_out hd]
def zer (a b : Nat) (AL : Nat → Nat → Int64) : Nat → Nat → Int64 := fo (fun i X => fo (fun j X => up2 X (i + 11) j 0) (a + 1) 0 X) b 0 AL
def eqfill (n e : Nat) (AI : Nat → Nat → Int32) (AL : Nat → Nat → Int64) : Nat → Nat → Int64 := fo (fun i X => fo (fun j Y => up2 Y (i + 11) j (Int32.toInt64 (AI (i + 8) j))) (n + 1) 0 X) e 0 AL
/-- the elimination of the equations: decided, decides, rows -/
def eqE (n e : Nat) (AN : Nat → Nat → Nat) (AI : Nat → Nat → Int32) (AL : Nat → Nat → Int64) : Nat × (Nat → Nat → Nat) × (Nat → Nat → Int64) := fo (estep n e) n 0 (0, AN, eqfill n e AI (zer n e AL))
def Ieq (I : Nat → Nat) (w h d : Nat) : Nat → Nat := up1 (up1 (up1 I 2 w) 3 h) 4 d
def spfill (n e : Nat) (AI : Nat → Nat → Int32) (AL : Nat → Nat → Int64) : Nat → Nat → Int64 := fo (fun i X => up2 (fo (fun j Y => up2 Y (j + 18) i (Int32.toInt64 (AI (i + 8) j))) n 0 X) 21 i (Int32.toInt64 (-AI (i + 8) n))) e 0 AL
/-- the lattice of the equations: beginnings, rows -/
def spL (n e : Nat) (AN : Nat → Nat → Nat) (AI : Nat → Nat → Int32) (AL : Nat → Nat → Int64) : (Nat → Nat → Nat) × (Nat → Nat → Int64) := spn n AN (spfill n e AI (lbeg n AL))
def cpr (e : Nat) (AI : Nat → Nat → Int32) (a b : Nat) : Int64 := fo (fun i z => z + Int32.toInt64 (AI (i + 8) a * AI (i + 8) b)) e 0 0
def exc (n : Nat) (AI : Nat → Nat → Int32) (i : Nat) (x y z : Int64) : Int64 :=
  if 2 < n then (Int32.toInt64 (AI (i + 8) 0) * x - Int32.toInt64 (AI (i + 8) n)) + Int32.toInt64 (AI (i + 8) 1) * y + Int32.toInt64 (AI (i + 8) 2) * z
  else if 1 < n then (Int32.toInt64 (AI (i + 8) 0) * x - Int32.toInt64 (AI (i + 8) n)) + Int32.toInt64 (AI (i + 8) 1) * y
  else Int32.toInt64 (AI (i + 8) 0) * x - Int32.toInt64 (AI (i + 8) n)

abbrev rmX2_isUnknown : Room := { frames := 0, cells := 0, slots := 0, locals := 0 }
set_option maxHeartbeats 4000000 in
set_option maxRecDepth 100000 in
/-- isUnknown -/
theorem ctX2_isUnknown (l : Launch) (D : va_G) (cs : Nat → ClassId) (ad : Nat → Nat) (I : Nat → Nat) (AN : Nat → Nat → Nat) (AI : Nat → Nat → Int32) (AL : Nat → Nat → Int64) (sz : Nat) (u : Int32)  : Met l yX2_isUnknown (Cond.code yX2_isUnknown cX2_isUnknown 2 (some FieldType.boolean) :: GW) rmX2_isUnknown (va_Pc [.ref (ad 0), .int u] (gP D cs (wT cs ad I AN AI AL) sz)) (va_Qi (fun (r : Int32) (v : TS) => v = (I, AN, AI, AL) ∧ r = bz (decide (¬ u < 0 ∧ u < nI (I 0)))) (gB D cs (va_A (wT cs ad I AN AI AL) sz) (wTs cs ad)) (va_A (wT cs ad I AN AI AL) sz)) 0 0 (va_A (wT cs ad I AN AI AL) sz) := by
  refine Met.ofW (cc := cX2_isUnknown) (maxL := 2) (ret := (some FieldType.boolean)) (by decide) rfl ?_
  intro p e s m args below meth c s₁ B hml hv
  obtain ⟨rfl, hsz, hP, hK, hD0, hN⟩ := hv
  have hx := B.exec
  have hb := B.bytes
  have hr := B.returns
  have hts : ∀ w ∈ GW, w.before _ s = true := fun w h => atoms_spec (ws := Cond.code yX2_isUnknown cX2_isUnknown 2 (some FieldType.boolean) :: GW) B.pre w (List.mem_cons_of_mem _ h)
  have hown : s.vm.findClass RX2 = some m.cls := findClass_of_methodNamed B.named
  have hlocks := B.notSynchronized
  subst hsz
  have hD := hD0.self (sz := s.heap.size)
  generalize hAe : va_A (wT cs ad I AN AI AL) s.heap.size = A at hD ⊢
  have hA : ∀ q : Nat, s.heap.size ≤ q → A q := fun q h => by rw [← hAe]; exact Or.inr h
  have hS : va_S A s.heap s.heap [] := va_S.rf
  have hl := lv_entry [.ref (ad 0), .int u] (n := 2) (Nat.le_of_ble_eq_true rfl)
  rw [lg_entry_eq]
  generalize (lg_sl [.ref (ad 0), .int u] ++ List.replicate (2 - (lg_sl [.ref (ad 0), .int u]).length) Slot.unset).toArray = ls at hl ⊢
  have hl : lv_has ls 2 [(0, .ref (ad 0)), (1, .int u)] := hl
  generalize hargs : ([.ref (ad 0), .int u] : List Value).toArray = args at *
  show W p l e rmX2_isUnknown s m args below meth c s.heap [] 0 0 _ (F0 m 0 ls [])
  refine lv_iload_n hx hb dX2_isUnknown_0 rfl (lv_at hl 1 rfl) ?_
  refine lv_if_lt (tgt := 16) hx hb dX2_isUnknown_1 (by decide) (fun h1 => ?_) (fun h1 => ?_)
  · refine lv_iconst (v := nI 0) hx hb dX2_isUnknown_16 (by decide) ?_
    exact g_zret hx hb hr hlocks rfl (I, AN, AI, AL) (⟨rfl, by rw [decide_eq_false (fun z => z.1 h1)]; rfl⟩) hK hP hD hS dX2_isUnknown_17
  · refine lv_iload_n hx hb dX2_isUnknown_4 rfl (lv_at hl 1 rfl) ?_
    refine lv_aload_n hx hb dX2_isUnknown_5 rfl (lv_at hl 0 rfl) ?_
    refine b_get (own := RX2) (C := RX2) (T := TX2) (N := 5) (ci := 2) (v := .int (nI (I 0))) hx hb hts usX2 hown hK hP 0 (by decide) rfl rfl 0 (by decide) (hts _ gw_130) rfl dX2_isUnknown_6 ?_
    refine lv_icmp_ge (tgt := 16) hx hb dX2_isUnknown_9 (by decide) (fun h2 => ?_) (fun h2 => ?_)
    · refine lv_iconst (v := nI 0) hx hb dX2_isUnknown_16 (by decide) ?_
      exact g_zret hx hb hr hlocks rfl (I, AN, AI, AL) (⟨rfl, by rw [decide_eq_false (fun z => i32_nlt.mpr h2 z.2)]; rfl⟩) hK hP hD hS dX2_isUnknown_17
    · refine lv_iconst (v := nI 1) hx hb dX2_isUnknown_12 (by decide) ?_
      refine lv_goto (tgt := 17) hx hb dX2_isUnknown_13 (by decide) ?_
      exact g_zret hx hb hr hlocks rfl (I, AN, AI, AL) (⟨rfl, by rw [decide_eq_true ⟨h1, i32_nle.mp h2⟩]; rfl⟩) hK hP hD hS dX2_isUnknown_17

abbrev rmX2_isPlace : Room := { frames := 0, cells := 0, slots := 0, locals := 0 }
set_option maxHeartbeats 4000000 in
set_option maxRecDepth 100000 in
/-- isPlace -/
theorem ctX2_isPlace (l : Launch) (D : va_G) (cs : Nat → ClassId) (ad : Nat → Nat) (I : Nat → Nat) (AN : Nat → Nat → Nat) (AI : Nat → Nat → Int32) (AL : Nat → Nat → Int64) (sz : Nat) (g u : Int32)  : Met l yX2_isPlace (Cond.code yX2_isPlace cX2_isPlace 3 (some FieldType.boolean) :: GW) rmX2_isPlace (va_Pc [.ref (ad 0), .int g, .int u] (gP D cs (wT cs ad I AN AI AL) sz)) (va_Qi (fun (r : Int32) (v : TS) => v = (I, AN, AI, AL) ∧ r = bz (decide (¬ g < 0 ∧ g < nI (I 1) ∧ ¬ u < 0 ∧ u ≤ nI (I 0)))) (gB D cs (va_A (wT cs ad I AN AI AL) sz) (wTs cs ad)) (va_A (wT cs ad I AN AI AL) sz)) 0 0 (va_A (wT cs ad I AN AI AL) sz) := by
  refine Met.ofW (cc := cX2_isPlace) (maxL := 3) (ret := (some FieldType.boolean)) (by decide) rfl ?_
  intro p e s m args below meth c s₁ B hml hv
  obtain ⟨rfl, hsz, hP, hK, hD0, hN⟩ := hv
  have hx := B.exec
  have hb := B.bytes
  have hr := B.returns
  have hts : ∀ w ∈ GW, w.before _ s = true := fun w h => atoms_spec (ws := Cond.code yX2_isPlace cX2_isPlace 3 (some FieldType.boolean) :: GW) B.pre w (List.mem_cons_of_mem _ h)
  have hown : s.vm.findClass RX2 = some m.cls := findClass_of_methodNamed B.named
  have hlocks := B.notSynchronized
  subst hsz
  have hD := hD0.self (sz := s.heap.size)
  generalize hAe : va_A (wT cs ad I AN AI AL) s.heap.size = A at hD ⊢
  have hA : ∀ q : Nat, s.heap.size ≤ q → A q := fun q h => by rw [← hAe]; exact Or.inr h
  have hS : va_S A s.heap s.heap [] := va_S.rf
  have hl := lv_entry [.ref (ad 0), .int g, .int u] (n := 3) (Nat.le_of_ble_eq_true rfl)
  rw [lg_entry_eq]
  generalize (lg_sl [.ref (ad 0), .int g, .int u] ++ List.replicate (3 - (lg_sl [.ref (ad 0), .int g, .int u]).length) Slot.unset).toArray = ls at hl ⊢
  have hl : lv_has ls 3 [(0, .ref (ad 0)), (1, .int g), (2, .int u)] := hl
  generalize hargs : ([.ref (ad 0), .int g, .int u] : List Value).toArray = args at *
  show W p l e rmX2_isPlace s m args below meth c s.heap [] 0 0 _ (F0 m 0 ls [])
  refine lv_iload_n hx hb dX2_isPlace_0 rfl (lv_at hl 1 rfl) ?_
  refine lv_if_lt (tgt := 28) hx hb dX2_isPlace_1 (by decide) (fun h1 => ?_) (fun h1 => ?_)
  · refine lv_iconst (v := nI 0) hx hb dX2_isPlace_28 (by decide) ?_
    exact g_zret hx hb hr hlocks rfl (I, AN, AI, AL) (⟨rfl, by rw [decide_eq_false (fun z => z.1 h1)]; rfl⟩) hK hP hD hS dX2_isPlace_29
  · refine lv_iload_n hx hb dX2_isPlace_4 rfl (lv_at hl 1 rfl) ?_
    refine lv_aload_n hx hb dX2_isPlace_5 rfl (lv_at hl 0 rfl) ?_
    refine b_get (own := RX2) (C := RX2) (T := TX2) (N := 5) (ci := 2) (v := .int (nI (I 1))) hx hb hts usX2 hown hK hP 0 (by decide) rfl rfl 4 (by decide) (hts _ gw_134) rfl dX2_isPlace_6 ?_
    refine lv_icmp_ge (tgt := 28) hx hb dX2_isPlace_9 (by decide) (fun h2 => ?_) (fun h2 => ?_)
    · refine lv_iconst (v := nI 0) hx hb dX2_isPlace_28 (by decide) ?_
      exact g_zret hx hb hr hlocks rfl (I, AN, AI, AL) (⟨rfl, by rw [decide_eq_false (fun z => i32_nlt.mpr h2 z.2.1)]; rfl⟩) hK hP hD hS dX2_isPlace_29
    · refine lv_iload_n hx hb dX2_isPlace_12 rfl (lv_at hl 2 rfl) ?_
      refine lv_if_lt (tgt := 28) hx hb dX2_isPlace_13 (by decide) (fun h3 => ?_) (fun h3 => ?_)
      · refine lv_iconst (v := nI 0) hx hb dX2_isPlace_28 (by decide) ?_
        exact g_zret hx hb hr hlocks rfl (I, AN, AI, AL) (⟨rfl, by rw [decide_eq_false (fun z => z.2.2.1 h3)]; rfl⟩) hK hP hD hS dX2_isPlace_29
      · refine lv_iload_n hx hb dX2_isPlace_16 rfl (lv_at hl 2 rfl) ?_
        refine lv_aload_n hx hb dX2_isPlace_17 rfl (lv_at hl 0 rfl) ?_
        refine b_get (own := RX2) (C := RX2) (T := TX2) (N := 5) (ci := 2) (v := .int (nI (I 0))) hx hb hts usX2 hown hK hP 0 (by decide) rfl rfl 0 (by decide) (hts _ gw_130) rfl dX2_isPlace_18 ?_
        refine lv_icmp_gt (tgt := 28) hx hb dX2_isPlace_21 (by decide) (fun h4 => ?_) (fun h4 => ?_)
        · refine lv_iconst (v := nI 0) hx hb dX2_isPlace_28 (by decide) ?_
          exact g_zret hx hb hr hlocks rfl (I, AN, AI, AL) (⟨rfl, by rw [decide_eq_false (fun z => i32_nlt.mpr z.2.2.2 h4)]; rfl⟩) hK hP hD hS dX2_isPlace_29
        · refine lv_iconst (v := nI 1) hx hb dX2_isPlace_24 (by decide) ?_
          refine lv_goto (tgt := 29) hx hb dX2_isPlace_25 (by decide) ?_
          exact g_zret hx hb hr hlocks rfl (I, AN, AI, AL) (⟨rfl, by rw [decide_eq_true ⟨h1, i32_nle.mp h2, h3, i32_nlt.mp h4⟩]; rfl⟩) hK hP hD hS dX2_isPlace_29

abbrev rmX2_isPart : Room := { frames := 0, cells := 0, slots := 0, locals := 0 }
set_option maxHeartbeats 4000000 in
set_option maxRecDepth 100000 in
/-- isPart -/
theorem ctX2_isPart (l : Launch) (D : va_G) (cs : Nat → ClassId) (ad : Nat → Nat) (I : Nat → Nat) (AN : Nat → Nat → Nat) (AI : Nat → Nat → Int32) (AL : Nat → Nat → Int64) (sz : Nat) (q : Int32)  : Met l yX2_isPart (Cond.code yX2_isPart cX2_isPart 1 (some FieldType.boolean) :: GW) rmX2_isPart (va_Pc [.int q] (gP D cs (wT cs ad I AN AI AL) sz)) (va_Qi (fun (r : Int32) (v : TS) => v = (I, AN, AI, AL) ∧ r = bz (decide (q = 0 ∨ q = nI 1))) (gB D cs (va_A (wT cs ad I AN AI AL) sz) (wTs cs ad)) (va_A (wT cs ad I AN AI AL) sz)) 0 0 (va_A (wT cs ad I AN AI AL) sz) := by
  refine Met.ofW (cc := cX2_isPart) (maxL := 1) (ret := (some FieldType.boolean)) (by decide) rfl ?_
  intro p e s m args below meth c s₁ B hml hv
  obtain ⟨rfl, hsz, hP, hK, hD0, hN⟩ := hv
  have hx := B.exec
  have hb := B.bytes
  have hr := B.returns
  have hts : ∀ w ∈ GW, w.before _ s = true := fun w h => atoms_spec (ws := Cond.code yX2_isPart cX2_isPart 1 (some FieldType.boolean) :: GW) B.pre w (List.mem_cons_of_mem _ h)
  have hown : s.vm.findClass RX2 = some m.cls := findClass_of_methodNamed B.named
  have hlocks := B.notSynchronized
  subst hsz
  have hD := hD0.self (sz := s.heap.size)
  generalize hAe : va_A (wT cs ad I AN AI AL) s.heap.size = A at hD ⊢
  have hA : ∀ q : Nat, s.heap.size ≤ q → A q := fun q h => by rw [← hAe]; exact Or.inr h
  have hS : va_S A s.heap s.heap [] := va_S.rf
  have hl := lv_entry [.int q] (n := 1) (Nat.le_of_ble_eq_true rfl)
  rw [lg_entry_eq]
  generalize (lg_sl [.int q] ++ List.replicate (1 - (lg_sl [.int q]).length) Slot.unset).toArray = ls at hl ⊢
  have hl : lv_has ls 1 [(0, .int q)] := hl
  generalize hargs : ([.int q] : List Value).toArray = args at *
  show W p l e rmX2_isPart s m args below meth c s.heap [] 0 0 _ (F0 m 0 ls [])
  refine lv_iload_n hx hb dX2_isPart_0 rfl (lv_at hl 0 rfl) ?_
  refine lv_if_eq (tgt := 9) hx hb dX2_isPart_1 (by decide) (fun h1 => ?_) (fun h1 => ?_)
  · refine lv_iconst (v := nI 1) hx hb dX2_isPart_9 (by decide) ?_
    refine lv_goto (tgt := 14) hx hb dX2_isPart_10 (by decide) ?_
    exact g_zret hx hb hr hlocks rfl (I, AN, AI, AL) (⟨rfl, by rw [decide_eq_true (Or.inl h1)]; rfl⟩) hK hP hD hS dX2_isPart_14
  · refine lv_iload_n hx hb dX2_isPart_4 rfl (lv_at hl 0 rfl) ?_
    refine lv_iconst (v := nI 1) hx hb dX2_isPart_5 (by decide) ?_
    refine lv_icmp_ne (tgt := 13) hx hb dX2_isPart_6 (by decide) (fun h2 => ?_) (fun h2 => ?_)
    · refine lv_iconst (v := nI 0) hx hb dX2_isPart_13 (by decide) ?_
      exact g_zret hx hb hr hlocks rfl (I, AN, AI, AL) (⟨rfl, by rw [decide_eq_false (fun z => z.elim h1 h2)]; rfl⟩) hK hP hD hS dX2_isPart_14
    · refine lv_iconst (v := nI 1) hx hb dX2_isPart_9 (by decide) ?_
      refine lv_goto (tgt := 14) hx hb dX2_isPart_10 (by decide) ?_
      exact g_zret hx hb hr hlocks rfl (I, AN, AI, AL) (⟨rfl, by rw [decide_eq_true (Or.inr h2)]; rfl⟩) hK hP hD hS dX2_isPart_14

abbrev rmX2_count : Room := { frames := 0, cells := 0, slots := 0, locals := 0 }
set_option maxHeartbeats 4000000 in
set_option maxRecDepth 100000 in
/-- count -/
theorem ctX2_count (l : Launch) (D : va_G) (cs : Nat → ClassId) (ad : Nat → Nat) (I : Nat → Nat) (AN : Nat → Nat → Nat) (AI : Nat → Nat → Int32) (AL : Nat → Nat → Int64) (sz : Nat) (q : Int32)  : Met l yX2_count (Cond.code yX2_count cX2_count 2 (some FieldType.int) :: GW) rmX2_count (va_Pc [.ref (ad 0), .int q] (gP D cs (wT cs ad I AN AI AL) sz)) (va_Qi (fun (r : Int32) (v : TS) => v = (I, AN, AI, AL) ∧ r = if q = 0 then nI (I 1) else if q = nI 1 then nI (I 0) else -1) (gB D cs (va_A (wT cs ad I AN AI AL) sz) (wTs cs ad)) (va_A (wT cs ad I AN AI AL) sz)) 0 0 (va_A (wT cs ad I AN AI AL) sz) := by
  refine Met.ofW (cc := cX2_count) (maxL := 2) (ret := (some FieldType.int)) (by decide) rfl ?_
  intro p e s m args below meth c s₁ B hml hv
  obtain ⟨rfl, hsz, hP, hK, hD0, hN⟩ := hv
  have hx := B.exec
  have hb := B.bytes
  have hr := B.returns
  have hts : ∀ w ∈ GW, w.before _ s = true := fun w h => atoms_spec (ws := Cond.code yX2_count cX2_count 2 (some FieldType.int) :: GW) B.pre w (List.mem_cons_of_mem _ h)
  have hown : s.vm.findClass RX2 = some m.cls := findClass_of_methodNamed B.named
  have hlocks := B.notSynchronized
  subst hsz
  have hD := hD0.self (sz := s.heap.size)
  generalize hAe : va_A (wT cs ad I AN AI AL) s.heap.size = A at hD ⊢
  have hA : ∀ q : Nat, s.heap.size ≤ q → A q := fun q h => by rw [← hAe]; exact Or.inr h
  have hS : va_S A s.heap s.heap [] := va_S.rf
  have hl := lv_entry [.ref (ad 0), .int q] (n := 2) (Nat.le_of_ble_eq_true rfl)
  rw [lg_entry_eq]
  generalize (lg_sl [.ref (ad 0), .int q] ++ List.replicate (2 - (lg_sl [.ref (ad 0), .int q]).length) Slot.unset).toArray = ls at hl ⊢
  have hl : lv_has ls 2 [(0, .ref (ad 0)), (1, .int q)] := hl
  generalize hargs : ([.ref (ad 0), .int q] : List Value).toArray = args at *
  show W p l e rmX2_count s m args below meth c s.heap [] 0 0 _ (F0 m 0 ls [])
  refine lv_iload_n hx hb dX2_count_0 rfl (lv_at hl 1 rfl) ?_
  refine lv_if_ne (tgt := 9) hx hb dX2_count_1 (by decide) (fun h1 => ?_) (fun h1 => ?_)
  · refine lv_iload_n hx hb dX2_count_9 rfl (lv_at hl 1 rfl) ?_
    refine lv_iconst (v := nI 1) hx hb dX2_count_10 (by decide) ?_
    refine lv_icmp_ne (tgt := 21) hx hb dX2_count_11 (by decide) (fun h2 => ?_) (fun h2 => ?_)
    · refine lv_iconst (v := -1) hx hb dX2_count_21 (by decide) ?_
      exact g_iret hx hb hr hlocks (I, AN, AI, AL) (⟨rfl, by rw [if_neg h1, if_neg h2]⟩) hK hP hD hS dX2_count_22
    · refine lv_aload_n hx hb dX2_count_14 rfl (lv_at hl 0 rfl) ?_
      refine b_get (own := RX2) (C := RX2) (T := TX2) (N := 5) (ci := 2) (v := .int (nI (I 0))) hx hb hts usX2 hown hK hP 0 (by decide) rfl rfl 0 (by decide) (hts _ gw_130) rfl dX2_count_15 ?_
      refine lv_goto (tgt := 22) hx hb dX2_count_18 (by decide) ?_
      exact g_iret hx hb hr hlocks (I, AN, AI, AL) (⟨rfl, by rw [if_neg h1, if_pos h2]⟩) hK hP hD hS dX2_count_22
  · refine lv_aload_n hx hb dX2_count_4 rfl (lv_at hl 0 rfl) ?_
    refine b_get (own := RX2) (C := RX2) (T := TX2) (N := 5) (ci := 2) (v := .int (nI (I 1))) hx hb hts usX2 hown hK hP 0 (by decide) rfl rfl 4 (by decide) (hts _ gw_134) rfl dX2_count_5 ?_
    exact g_iret hx hb hr hlocks (I, AN, AI, AL) (⟨rfl, by rw [if_pos h1]⟩) hK hP hD hS dX2_count_8

abbrev rmX2_clear : Room := { frames := 0, cells := 0, slots := 0, locals := 0 }
set_option maxHeartbeats 4000000 in
set_option maxRecDepth 100000 in
/-- clear -/
theorem ctX2_clear (l : Launch) (D : va_G) (cs : Nat → ClassId) (ad : Nat → Nat) (I : Nat → Nat) (AN : Nat → Nat → Nat) (AI : Nat → Nat → Int32) (AL : Nat → Nat → Int64) (sz : Nat)   : Met l yX2_clear (Cond.code yX2_clear cX2_clear 1 none :: GW) rmX2_clear (va_Pc [.ref (ad 0)] (gP D cs (wT cs ad I AN AI AL) sz)) (va_Qv (fun u : TS => u = (up1 I 1 0, AN, AI, AL)) (gB D cs (va_A (wT cs ad I AN AI AL) sz) (wTs cs ad)) (va_A (wT cs ad I AN AI AL) sz)) 0 0 (va_A (wT cs ad I AN AI AL) sz) := by
  refine Met.ofW (cc := cX2_clear) (maxL := 1) (ret := none) (by decide) rfl ?_
  intro p e s m args below meth c s₁ B hml hv
  obtain ⟨rfl, hsz, hP, hK, hD0, hN⟩ := hv
  have hx := B.exec
  have hb := B.bytes
  have hr := B.returns
  have hts : ∀ w ∈ GW, w.before _ s = true := fun w h => atoms_spec (ws := Cond.code yX2_clear cX2_clear 1 none :: GW) B.pre w (List.mem_cons_of_mem _ h)
  have hown : s.vm.findClass RX2 = some m.cls := findClass_of_methodNamed B.named
  have hlocks := B.notSynchronized
  subst hsz
  have hD := hD0.self (sz := s.heap.size)
  generalize hAe : va_A (wT cs ad I AN AI AL) s.heap.size = A at hD ⊢
  have hA : ∀ q : Nat, s.heap.size ≤ q → A q := fun q h => by rw [← hAe]; exact Or.inr h
  have hS : va_S A s.heap s.heap [] := va_S.rf
  have hl := lv_entry [.ref (ad 0)] (n := 1) (Nat.le_of_ble_eq_true rfl)
  rw [lg_entry_eq]
  generalize (lg_sl [.ref (ad 0)] ++ List.replicate (1 - (lg_sl [.ref (ad 0)]).length) Slot.unset).toArray = ls at hl ⊢
  have hl : lv_has ls 1 [(0, .ref (ad 0))] := hl
  generalize hargs : ([.ref (ad 0)] : List Value).toArray = args at *
  show W p l e rmX2_clear s m args below meth c s.heap [] 0 0 _ (F0 m 0 ls [])
  refine lv_aload_n hx hb dX2_clear_0 rfl (lv_at hl 0 rfl) ?_
  refine lv_iconst (v := nI 0) hx hb dX2_clear_1 (by decide) ?_
  refine b_put (own := RX2) (C := RX2) (T := TX2) (N := 5) (ci := 2) (v := .int (nI 0)) hx hb hts usX2 tyX2 tyX2_ok nmX2 hown hK hP hD hS 0 (by decide) rfl rfl 4 (by decide) (hts _ gw_134) rfl rfl rfl (Nat.le_of_ble_eq_true rfl) dX2_clear_2 sT_eq (fun H locs hP hD hS => ?_)
  exact g_vret hx hb hr hlocks (up1 I 1 0, AN, AI, AL) (rfl) hK hP hD hS dX2_clear_5

abbrev rmX2_excess : Room := { frames := 0, cells := 0, slots := 0, locals := 0 }
set_option maxHeartbeats 4000000 in
set_option maxRecDepth 100000 in
/-- excess -/
theorem ctX2_excess (l : Launch) (D : va_G) (cs : Nat → ClassId) (ad : Nat → Nat) (I : Nat → Nat) (AN : Nat → Nat → Nat) (AI : Nat → Nat → Int32) (AL : Nat → Nat → Int64) (sz : Nat) (g : Nat) (x y z : Int64) (hg : g < 3) (hn3 : I 0 ≤ 3) : Met l yX2_excess (Cond.code yX2_excess cX2_excess 11 (some FieldType.long) :: GW) rmX2_excess (va_Pc [.ref (ad 0), .int (nI g), .long x, .long y, .long z] (gP D cs (wT cs ad I AN AI AL) sz)) (va_Ql (fun (r : Int64) (v : TS) => v = (I, AN, AI, AL) ∧ r = exc (I 0) AI g x y z) (gB D cs (va_A (wT cs ad I AN AI AL) sz) (wTs cs ad)) (va_A (wT cs ad I AN AI AL) sz)) 0 0 (va_A (wT cs ad I AN AI AL) sz) := by
  refine Met.ofW (cc := cX2_excess) (maxL := 11) (ret := (some FieldType.long)) (by decide) rfl ?_
  intro p e s m args below meth c s₁ B hml hv
  obtain ⟨rfl, hsz, hP, hK, hD0, hN⟩ := hv
  have hx := B.exec
  have hb := B.bytes
  have hr := B.returns
  have hts : ∀ w ∈ GW, w.before _ s = true := fun w h => atoms_spec (ws := Cond.code yX2_excess cX2_excess 11 (some FieldType.long) :: GW) B.pre w (List.mem_cons_of_mem _ h)
  have hown : s.vm.findClass RX2 = some m.cls := findClass_of_methodNamed B.named
  have hlocks := B.notSynchronized
  subst hsz
  have hD := hD0.self (sz := s.heap.size)
  generalize hAe : va_A (wT cs ad I AN AI AL) s.heap.size = A at hD ⊢
  have hA : ∀ q : Nat, s.heap.size ≤ q → A q := fun q h => by rw [← hAe]; exact Or.inr h
  have hS : va_S A s.heap s.heap [] := va_S.rf
  have hl := lv_entry [.ref (ad 0), .int (nI g), .long x, .long y, .long z] (n := 11) (Nat.le_of_ble_eq_true rfl)
  rw [lg_entry_eq]
  generalize (lg_sl [.ref (ad 0), .int (nI g), .long x, .long y, .long z] ++ List.replicate (11 - (lg_sl [.ref (ad 0), .int (nI g), .long x, .long y, .long z]).length) Slot.unset).toArray = ls at hl ⊢
  have hl : lv_has ls 11 [(0, .ref (ad 0)), (1, .int (nI g)), (2, .long x), (4, .long y), (6, .long z)] := hl
  generalize hargs : ([.ref (ad 0), .int (nI g), .long x, .long y, .long z] : List Value).toArray = args at *
  show W p l e rmX2_excess s m args below meth c s.heap [] 0 0 _ (F0 m 0 ls [])
  refine lv_aload_n hx hb dX2_excess_0 rfl (lv_at hl 0 rfl) ?_
  refine b_get (own := RX2) (C := RX2) (T := TX2) (N := 5) (ci := 2) (v := .ref (ad 1)) hx hb hts usX2 hown hK hP 0 (by decide) rfl rfl 1 (by decide) (hts _ gw_131) rfl dX2_excess_1 ?_
  refine lv_iload_n hx hb dX2_excess_4 rfl (lv_at hl 1 rfl) ?_
  refine tN_r hx hb hK hP (by omega) dX2_excess_5 ?_
  refine lv_astore (lv' := [(8, .ref (ad (g + 8))), (0, .ref (ad 0)), (1, .int (nI g)), (2, .long x), (4, .long y), (6, .long z)]) hx hb dX2_excess_6 hl (by decide) rfl (fun ls hl => ?_)
  refine lv_aload hx hb dX2_excess_8 (lv_at hl 0 rfl) ?_
  refine lv_iconst (v := nI 0) hx hb dX2_excess_10 (by decide) ?_
  refine tN_ld (i := g) hx hb hK hP (by omega) (by omega) dX2_excess_11 ?_
  refine lv_i2l (v := Int32.toInt64 (AI (g + 8) 0)) hx hb dX2_excess_12 rfl ?_
  refine lv_lload_n hx hb dX2_excess_13 rfl (lv_at hl 3 rfl) ?_
  refine lv_lmul hx hb dX2_excess_14 ?_
  refine lv_aload hx hb dX2_excess_15 (lv_at hl 0 rfl) ?_
  refine lv_aload_n hx hb dX2_excess_17 rfl (lv_at hl 1 rfl) ?_
  refine b_get (own := RX2) (C := RX2) (T := TX2) (N := 5) (ci := 2) (v := .int (nI (I 0))) hx hb hts usX2 hown hK hP 0 (by decide) rfl rfl 0 (by decide) (hts _ gw_130) rfl dX2_excess_18 ?_
  refine tN_ld (i := g) hx hb hK hP (by omega) (by omega) dX2_excess_21 ?_
  refine lv_i2l (v := Int32.toInt64 (AI (g + 8) (I 0))) hx hb dX2_excess_22 rfl ?_
  refine lv_lsub hx hb dX2_excess_23 ?_
  refine lv_lstore (lv' := [(9, .long (((Int32.toInt64 (AI (g + 8) 0)) * x) - (Int32.toInt64 (AI (g + 8) (I 0))))), (8, .ref (ad (g + 8))), (0, .ref (ad 0)), (1, .int (nI g)), (2, .long x), (4, .long y), (6, .long z)]) hx hb dX2_excess_24 hl (by decide) rfl (fun ls hl => ?_)
  refine lv_aload_n hx hb dX2_excess_26 rfl (lv_at hl 2 rfl) ?_
  refine b_get (own := RX2) (C := RX2) (T := TX2) (N := 5) (ci := 2) (v := .int (nI (I 0))) hx hb hts usX2 hown hK hP 0 (by decide) rfl rfl 0 (by decide) (hts _ gw_130) rfl dX2_excess_27 ?_
  refine lv_iconst (v := nI 1) hx hb dX2_excess_30 (by decide) ?_
  by_cases h1 : 1 < I 0
  · refine lv_icmp_le (tgt := 47) hx hb dX2_excess_31 (by decide) (fun q => absurd q (nI_ge h1 (by omega))) (fun _ => ?_)
    refine lv_lload hx hb dX2_excess_34 (lv_at hl 0 rfl) ?_
    refine lv_aload hx hb dX2_excess_36 (lv_at hl 1 rfl) ?_
    refine lv_iconst (v := nI 1) hx hb dX2_excess_38 (by decide) ?_
    refine tN_ld (i := g) hx hb hK hP (by omega) (by omega) dX2_excess_39 ?_
    refine lv_i2l (v := Int32.toInt64 (AI (g + 8) 1)) hx hb dX2_excess_40 rfl ?_
    refine lv_lload hx hb dX2_excess_41 (lv_at hl 5 rfl) ?_
    refine lv_lmul hx hb dX2_excess_43 ?_
    refine lv_ladd hx hb dX2_excess_44 ?_
    refine lv_lstore (lv' := [(9, .long ((((Int32.toInt64 (AI (g + 8) 0)) * x) - (Int32.toInt64 (AI (g + 8) (I 0)))) + ((Int32.toInt64 (AI (g + 8) 1)) * y))), (8, .ref (ad (g + 8))), (0, .ref (ad 0)), (1, .int (nI g)), (2, .long x), (4, .long y), (6, .long z)]) hx hb dX2_excess_45 hl (by decide) rfl (fun ls hl => ?_)
    refine lv_aload_n hx hb dX2_excess_47 rfl (lv_at hl 2 rfl) ?_
    refine b_get (own := RX2) (C := RX2) (T := TX2) (N := 5) (ci := 2) (v := .int (nI (I 0))) hx hb hts usX2 hown hK hP 0 (by decide) rfl rfl 0 (by decide) (hts _ gw_130) rfl dX2_excess_48 ?_
    refine lv_iconst (v := nI 2) hx hb dX2_excess_51 (by decide) ?_
    by_cases h2 : 2 < I 0
    · refine lv_icmp_le (tgt := 68) hx hb dX2_excess_52 (by decide) (fun q => absurd q (nI_ge h2 (by omega))) (fun _ => ?_)
      refine lv_lload hx hb dX2_excess_55 (lv_at hl 0 rfl) ?_
      refine lv_aload hx hb dX2_excess_57 (lv_at hl 1 rfl) ?_
      refine lv_iconst (v := nI 2) hx hb dX2_excess_59 (by decide) ?_
      refine tN_ld (i := g) hx hb hK hP (by omega) (by omega) dX2_excess_60 ?_
      refine lv_i2l (v := Int32.toInt64 (AI (g + 8) 2)) hx hb dX2_excess_61 rfl ?_
      refine lv_lload hx hb dX2_excess_62 (lv_at hl 6 rfl) ?_
      refine lv_lmul hx hb dX2_excess_64 ?_
      refine lv_ladd hx hb dX2_excess_65 ?_
      refine lv_lstore (lv' := [(9, .long (((((Int32.toInt64 (AI (g + 8) 0)) * x) - (Int32.toInt64 (AI (g + 8) (I 0)))) + ((Int32.toInt64 (AI (g + 8) 1)) * y)) + ((Int32.toInt64 (AI (g + 8) 2)) * z))), (8, .ref (ad (g + 8))), (0, .ref (ad 0)), (1, .int (nI g)), (2, .long x), (4, .long y), (6, .long z)]) hx hb dX2_excess_66 hl (by decide) rfl (fun ls hl => ?_)
      refine lv_lload hx hb dX2_excess_68 (lv_at hl 0 rfl) ?_
      exact g_lret hx hb hr hlocks (I, AN, AI, AL) (⟨rfl, by unfold exc; rw [if_pos h2]⟩) hK hP hD hS dX2_excess_70
    · refine lv_icmp_le (tgt := 68) hx hb dX2_excess_52 (by decide) (fun _ => ?_) (fun q => absurd (nI_le (by omega) (by omega)) q)
      refine lv_lload hx hb dX2_excess_68 (lv_at hl 0 rfl) ?_
      exact g_lret hx hb hr hlocks (I, AN, AI, AL) (⟨rfl, by unfold exc; rw [if_neg h2, if_pos h1]⟩) hK hP hD hS dX2_excess_70
  · refine lv_icmp_le (tgt := 47) hx hb dX2_excess_31 (by decide) (fun _ => ?_) (fun q => absurd (nI_le (by omega) (by omega)) q)
    refine lv_aload_n hx hb dX2_excess_47 rfl (lv_at hl 2 rfl) ?_
    refine b_get (own := RX2) (C := RX2) (T := TX2) (N := 5) (ci := 2) (v := .int (nI (I 0))) hx hb hts usX2 hown hK hP 0 (by decide) rfl rfl 0 (by decide) (hts _ gw_130) rfl dX2_excess_48 ?_
    refine lv_iconst (v := nI 2) hx hb dX2_excess_51 (by decide) ?_
    refine lv_icmp_le (tgt := 68) hx hb dX2_excess_52 (by decide) (fun _ => ?_) (fun q => absurd (nI_le (by omega) (by omega)) q)
    refine lv_lload hx hb dX2_excess_68 (lv_at hl 0 rfl) ?_
    exact g_lret hx hb hr hlocks (I, AN, AI, AL) (⟨rfl, by unfold exc; rw [if_neg (by omega), if_neg h1]⟩) hK hP hD hS dX2_excess_70

abbrev rmX2_solves : Room := { frames := 1, cells := 0, slots := 0, locals := 30 }
set_option maxHeartbeats 4000000 in
set_option maxRecDepth 100000 in
/-- solves -/
theorem ctX2_solves (l : Launch) (D : va_G) (cs : Nat → ClassId) (ad : Nat → Nat) (I : Nat → Nat) (AN : Nat → Nat → Nat) (AI : Nat → Nat → Int32) (AL : Nat → Nat → Int64) (sz : Nat) (x y z : Int32) (hn3 : I 0 ≤ 3) (he3 : I 1 ≤ 3) : Met l yX2_solves (Cond.code yX2_solves cX2_solves 5 (some FieldType.boolean) :: GW) rmX2_solves (va_Pc [.ref (ad 0), .int x, .int y, .int z] (gP D cs (wT cs ad I AN AI AL) sz)) (va_Qi (fun (r : Int32) (u : TS) => u = (I, AN, AI, AL) ∧ r = bz (fnd (fun k => exc (I 0) AI k (Int32.toInt64 x) (Int32.toInt64 y) (Int32.toInt64 z) ≠ 0) (I 1) 0).isNone) (gB D cs (va_A (wT cs ad I AN AI AL) sz) (wTs cs ad)) (va_A (wT cs ad I AN AI AL) sz)) 0 0 (va_A (wT cs ad I AN AI AL) sz) := by
  refine Met.ofW (cc := cX2_solves) (maxL := 5) (ret := (some FieldType.boolean)) (by decide) rfl ?_
  intro p e s m args below meth c s₁ B hml hv
  obtain ⟨rfl, hsz, hP, hK, hD0, hN⟩ := hv
  have hx := B.exec
  have hb := B.bytes
  have hr := B.returns
  have hts : ∀ w ∈ GW, w.before _ s = true := fun w h => atoms_spec (ws := Cond.code yX2_solves cX2_solves 5 (some FieldType.boolean) :: GW) B.pre w (List.mem_cons_of_mem _ h)
  have hown : s.vm.findClass RX2 = some m.cls := findClass_of_methodNamed B.named
  have hlocks := B.notSynchronized
  subst hsz
  have hD := hD0.self (sz := s.heap.size)
  generalize hAe : va_A (wT cs ad I AN AI AL) s.heap.size = A at hD ⊢
  have hA : ∀ q : Nat, s.heap.size ≤ q → A q := fun q h => by rw [← hAe]; exact Or.inr h
  have hS : va_S A s.heap s.heap [] := va_S.rf
  have hl := lv_entry [.ref (ad 0), .int x, .int y, .int z] (n := 5) (Nat.le_of_ble_eq_true rfl)
  rw [lg_entry_eq]
  generalize (lg_sl [.ref (ad 0), .int x, .int y, .int z] ++ List.replicate (5 - (lg_sl [.ref (ad 0), .int x, .int y, .int z]).length) Slot.unset).toArray = ls at hl ⊢
  have hl : lv_has ls 5 [(0, .ref (ad 0)), (1, .int x), (2, .int y), (3, .int z)] := hl
  generalize hargs : ([.ref (ad 0), .int x, .int y, .int z] : List Value).toArray = args at *
  show W p l e rmX2_solves s m args below meth c s.heap [] 0 0 _ (F0 m 0 ls [])
  refine lv_iconst (v := nI 0) hx hb dX2_solves_0 (by decide) ?_
  refine lv_istore (lv' := [(4, .int (nI 0)), (0, .ref (ad 0)), (1, .int x), (2, .int y), (3, .int z)]) hx hb dX2_solves_1 hl (by decide) rfl (fun ls hl => ?_)
  have lp3 : ∀ (n k : Nat) (H : Heap) (locs : List Loc) (ls : Array Slot), k + n = I 1 → va_P D vc (wT cs ad I AN AI AL) H → va_D A (wT cs ad I AN AI AL) → va_S A s.heap H locs → lv_has ls 5 [(4, .int (nI k)), (0, .ref (ad 0)), (1, .int x), (2, .int y), (3, .int z)] → W p l e rmX2_solves s m args below meth c H locs 0 0 (MQ below (va_Qi (fun (r : Int32) (u : TS) => u = (I, AN, AI, AL) ∧ r = bz (fnd (fun k => exc (I 0) AI k (Int32.toInt64 x) (Int32.toInt64 y) (Int32.toInt64 z) ≠ 0) n k).isNone) (gB D cs A (wTs cs ad)) A) args s 0 0 A) (F0 m 3 ls []) := by
    intro n
    induction n with
    | zero =>
      intro k H locs ls hn hP hD hS hl
      have hi : k = I 1 := by omega
      refine lv_iload hx hb dX2_solves_3 (lv_at hl 0 rfl) ?_
      refine lv_aload_n hx hb dX2_solves_5 rfl (lv_at hl 1 rfl) ?_
      refine b_get (own := RX2) (C := RX2) (T := TX2) (N := 5) (ci := 2) (v := .int (nI (I 1))) hx hb hts usX2 hown hK hP 0 (by decide) rfl rfl 4 (by decide) (hts _ gw_134) rfl dX2_solves_6 ?_
      refine b_ge_t (tgt := 37) hx hb dX2_solves_9 (by decide) (by omega) (by omega) ?_
      refine lv_iconst (v := nI 1) hx hb dX2_solves_37 (by decide) ?_
      exact g_zret hx hb hr hlocks rfl (I, AN, AI, AL) (⟨rfl, rfl⟩) hK hP hD hS dX2_solves_38
    | succ n ih =>
      intro k H locs ls hn hP hD hS hl
      have hi : k < I 1 := by omega
      refine lv_iload hx hb dX2_solves_3 (lv_at hl 0 rfl) ?_
      refine lv_aload_n hx hb dX2_solves_5 rfl (lv_at hl 1 rfl) ?_
      refine b_get (own := RX2) (C := RX2) (T := TX2) (N := 5) (ci := 2) (v := .int (nI (I 1))) hx hb hts usX2 hown hK hP 0 (by decide) rfl rfl 4 (by decide) (hts _ gw_134) rfl dX2_solves_6 ?_
      refine b_ge_f (tgt := 37) hx hb dX2_solves_9 (by decide) (by omega) (by omega) ?_
      refine lv_aload_n hx hb dX2_solves_12 rfl (lv_at hl 1 rfl) ?_
      refine lv_iload hx hb dX2_solves_13 (lv_at hl 0 rfl) ?_
      refine lv_iload_n hx hb dX2_solves_15 rfl (lv_at hl 2 rfl) ?_
      refine lv_i2l (v := Int32.toInt64 x) hx hb dX2_solves_16 rfl ?_
      refine lv_iload_n hx hb dX2_solves_17 rfl (lv_at hl 3 rfl) ?_
      refine lv_i2l (v := Int32.toInt64 y) hx hb dX2_solves_18 rfl ?_
      refine lv_iload_n hx hb dX2_solves_19 rfl (lv_at hl 4 rfl) ?_
      refine lv_i2l (v := Int32.toInt64 z) hx hb dX2_solves_20 rfl ?_
      refine g_calll (va_runV (As := [.int (nI k), .long (Int32.toInt64 x), .long (Int32.toInt64 y), .long (Int32.toInt64 z)]) (rest := []) ⟨hx, hb, hml, hown, hts⟩ (ctX2_excess l D cs ad I AN AI AL _ k (Int32.toInt64 x) (Int32.toInt64 y) (Int32.toInt64 z) (by omega) hn3) (cwV 4 hts (gi_V gw_259 gw_261 gw_17 gw_53 gw_262) rfl rfl rfl (by decide +kernel) ⟨Nat.le_of_ble_eq_true rfl, Nat.le_of_ble_eq_true rfl⟩) ⟨g_blind, va_recv hK hP (ci := 2) (q0 := 0) rfl (wm_at (by decide) rfl), g_pre hP hK hD hN⟩ rfl rfl hl.1 rfl (lv_room (Nat.le_of_ble_eq_true rfl)) dX2_solves_21 ⟨Nat.zero_le _, Nat.zero_le _⟩) hD hS hA (fun r u H locs hw hP hD hS => ?_)
      obtain ⟨rfl, rfl⟩ := hw
      have hP : va_P D vc (wT cs ad I AN AI AL) H := hP
      have hD : va_D A (wT cs ad I AN AI AL) := hD
      refine lv_lconst (v := 0) hx hb dX2_solves_24 (by decide) ?_
      refine b_lceq (tgt := 31) hx hb dX2_solves_25 dX2_solves_26 (by decide) (fun h => ?_) (fun h => ?_)
      · refine b_iinc (lv' := [(4, .int (nI (k + 1))), (0, .ref (ad 0)), (1, .int x), (2, .int y), (3, .int z)]) hx hb dX2_solves_31 hl (k := 0) rfl (by decide) rfl (fun ls hl => ?_)
        refine lv_goto (tgt := 3) hx hb dX2_solves_34 (by decide) ?_
        rw [fnd_f (f := fun k => exc (I 0) AI k (Int32.toInt64 x) (Int32.toInt64 y) (Int32.toInt64 z) ≠ 0) (fun q => q h)]
        exact ih (k + 1) H locs ls (by omega) hP hD hS (lv_sub hl [0, 1, 2, 3, 4] rfl)
      · refine lv_iconst (v := nI 0) hx hb dX2_solves_29 (by decide) ?_
        exact g_zret hx hb hr hlocks rfl (I, AN, AI, AL) (⟨rfl, by rw [fnd_t (f := fun k => exc (I 0) AI k (Int32.toInt64 x) (Int32.toInt64 y) (Int32.toInt64 z) ≠ 0) h]; rfl⟩) hK hP hD hS dX2_solves_30
  exact lp3 ((I 1) - 0) 0 _ _ ls (by omega) hP hD hS (lv_sub hl [0, 1, 2, 3, 4] rfl)

abbrev rmX2_columnProduct : Room := { frames := 0, cells := 0, slots := 0, locals := 0 }
set_option maxHeartbeats 4000000 in
set_option maxRecDepth 100000 in
/-- columnProduct -/
theorem ctX2_columnProduct (l : Launch) (D : va_G) (cs : Nat → ClassId) (ad : Nat → Nat) (I : Nat → Nat) (AN : Nat → Nat → Nat) (AI : Nat → Nat → Int32) (AL : Nat → Nat → Int64) (sz : Nat) (a b : Nat) (he3 : I 1 ≤ 3) (ha : a < 4) (hb4 : b < 4) : Met l yX2_columnProduct (Cond.code yX2_columnProduct cX2_columnProduct 6 (some FieldType.long) :: GW) rmX2_columnProduct (va_Pc [.ref (ad 0), .int (nI a), .int (nI b)] (gP D cs (wT cs ad I AN AI AL) sz)) (va_Ql (fun (r : Int64) (u : TS) => u = (I, AN, AI, AL) ∧ r = cpr (I 1) AI a b) (gB D cs (va_A (wT cs ad I AN AI AL) sz) (wTs cs ad)) (va_A (wT cs ad I AN AI AL) sz)) 0 0 (va_A (wT cs ad I AN AI AL) sz) := by
  refine Met.ofW (cc := cX2_columnProduct) (maxL := 6) (ret := (some FieldType.long)) (by decide) rfl ?_
  intro p e s m args below meth c s₁ B hml hv
  obtain ⟨rfl, hsz, hP, hK, hD0, hN⟩ := hv
  have hx := B.exec
  have hb := B.bytes
  have hr := B.returns
  have hts : ∀ w ∈ GW, w.before _ s = true := fun w h => atoms_spec (ws := Cond.code yX2_columnProduct cX2_columnProduct 6 (some FieldType.long) :: GW) B.pre w (List.mem_cons_of_mem _ h)
  have hown : s.vm.findClass RX2 = some m.cls := findClass_of_methodNamed B.named
  have hlocks := B.notSynchronized
  subst hsz
  have hD := hD0.self (sz := s.heap.size)
  generalize hAe : va_A (wT cs ad I AN AI AL) s.heap.size = A at hD ⊢
  have hA : ∀ q : Nat, s.heap.size ≤ q → A q := fun q h => by rw [← hAe]; exact Or.inr h
  have hS : va_S A s.heap s.heap [] := va_S.rf
  have hl := lv_entry [.ref (ad 0), .int (nI a), .int (nI b)] (n := 6) (Nat.le_of_ble_eq_true rfl)
  rw [lg_entry_eq]
  generalize (lg_sl [.ref (ad 0), .int (nI a), .int (nI b)] ++ List.replicate (6 - (lg_sl [.ref (ad 0), .int (nI a), .int (nI b)]).length) Slot.unset).toArray = ls at hl ⊢
  have hl : lv_has ls 6 [(0, .ref (ad 0)), (1, .int (nI a)), (2, .int (nI b))] := hl
  generalize hargs : ([.ref (ad 0), .int (nI a), .int (nI b)] : List Value).toArray = args at *
  show W p l e rmX2_columnProduct s m args below meth c s.heap [] 0 0 _ (F0 m 0 ls [])
  refine lv_lconst (v := 0) hx hb dX2_columnProduct_0 (by decide) ?_
  refine lv_lstore_n (lv' := [(3, .long 0), (0, .ref (ad 0)), (1, .int (nI a)), (2, .int (nI b))]) hx hb dX2_columnProduct_1 rfl hl (by decide) rfl (fun ls hl => ?_)
  refine lv_iconst (v := nI 0) hx hb dX2_columnProduct_2 (by decide) ?_
  refine lv_istore (lv' := [(5, .int (nI 0)), (3, .long 0), (0, .ref (ad 0)), (1, .int (nI a)), (2, .int (nI b))]) hx hb dX2_columnProduct_3 hl (by decide) rfl (fun ls hl => ?_)
  have lp5 : ∀ (Q : State → Prop) (n i : Nat) (z : Int64) (H : Heap) (locs : List Loc) (ls : Array Slot), i + n = I 1 → va_P D vc (wT cs ad I AN AI AL) H → va_D A (wT cs ad I AN AI AL) → va_S A s.heap H locs → lv_has ls 6 [(5, .int (nI i)), (3, .long z), (0, .ref (ad 0)), (1, .int (nI a)), (2, .int (nI b))] → (∀ (H : Heap) (locs : List Loc) (ls : Array Slot), va_P D vc (wT cs ad I AN AI AL) H → va_D A (wT cs ad I AN AI AL) → va_S A s.heap H locs → lv_has ls 6 [(5, .int (nI (I 1))), (3, .long (fo (fun i z => z + Int32.toInt64 (AI (i + 8) a * AI (i + 8) b)) n i z)), (0, .ref (ad 0)), (1, .int (nI a)), (2, .int (nI b))] → W p l e rmX2_columnProduct s m args below meth c H locs 0 0 Q (F0 m 43 ls [])) → W p l e rmX2_columnProduct s m args below meth c H locs 0 0 Q (F0 m 5 ls []) := by
    intro Q n
    induction n with
    | zero =>
      intro i z H locs ls hn hP hD hS hl kx
      have hi : i = I 1 := by omega
      refine lv_iload hx hb dX2_columnProduct_5 (lv_at hl 0 rfl) ?_
      refine lv_aload_n hx hb dX2_columnProduct_7 rfl (lv_at hl 2 rfl) ?_
      refine b_get (own := RX2) (C := RX2) (T := TX2) (N := 5) (ci := 2) (v := .int (nI (I 1))) hx hb hts usX2 hown hK hP 0 (by decide) rfl rfl 4 (by decide) (hts _ gw_134) rfl dX2_columnProduct_8 ?_
      refine b_ge_t (tgt := 43) hx hb dX2_columnProduct_11 (by decide) (by omega) (by omega) ?_
      rw [hi] at hl
      exact kx H locs ls hP hD hS (lv_sub hl [0, 1, 2, 3, 4] rfl)
    | succ n ih =>
      intro i z H locs ls hn hP hD hS hl kx
      have hi : i < I 1 := by omega
      refine lv_iload hx hb dX2_columnProduct_5 (lv_at hl 0 rfl) ?_
      refine lv_aload_n hx hb dX2_columnProduct_7 rfl (lv_at hl 2 rfl) ?_
      refine b_get (own := RX2) (C := RX2) (T := TX2) (N := 5) (ci := 2) (v := .int (nI (I 1))) hx hb hts usX2 hown hK hP 0 (by decide) rfl rfl 4 (by decide) (hts _ gw_134) rfl dX2_columnProduct_8 ?_
      refine b_ge_f (tgt := 43) hx hb dX2_columnProduct_11 (by decide) (by omega) (by omega) ?_
      refine lv_lload_n hx hb dX2_columnProduct_14 rfl (lv_at hl 1 rfl) ?_
      refine lv_aload_n hx hb dX2_columnProduct_15 rfl (lv_at hl 2 rfl) ?_
      refine b_get (own := RX2) (C := RX2) (T := TX2) (N := 5) (ci := 2) (v := .ref (ad 1)) hx hb hts usX2 hown hK hP 0 (by decide) rfl rfl 1 (by decide) (hts _ gw_131) rfl dX2_columnProduct_16 ?_
      refine lv_iload hx hb dX2_columnProduct_19 (lv_at hl 0 rfl) ?_
      refine tN_r hx hb hK hP (by omega) dX2_columnProduct_21 ?_
      refine lv_iload_n hx hb dX2_columnProduct_22 rfl (lv_at hl 3 rfl) ?_
      refine tN_ld (i := i) hx hb hK hP (by omega) (by omega) dX2_columnProduct_23 ?_
      refine lv_aload_n hx hb dX2_columnProduct_24 rfl (lv_at hl 2 rfl) ?_
      refine b_get (own := RX2) (C := RX2) (T := TX2) (N := 5) (ci := 2) (v := .ref (ad 1)) hx hb hts usX2 hown hK hP 0 (by decide) rfl rfl 1 (by decide) (hts _ gw_131) rfl dX2_columnProduct_25 ?_
      refine lv_iload hx hb dX2_columnProduct_28 (lv_at hl 0 rfl) ?_
      refine tN_r hx hb hK hP (by omega) dX2_columnProduct_30 ?_
      refine lv_iload_n hx hb dX2_columnProduct_31 rfl (lv_at hl 4 rfl) ?_
      refine tN_ld (i := i) hx hb hK hP (by omega) (by omega) dX2_columnProduct_32 ?_
      refine lv_imul hx hb dX2_columnProduct_33 ?_
      refine lv_i2l (v := Int32.toInt64 ((AI (i + 8) a) * (AI (i + 8) b))) hx hb dX2_columnProduct_34 rfl ?_
      refine lv_ladd hx hb dX2_columnProduct_35 ?_
      refine lv_lstore_n (lv' := [(3, .long (z + (Int32.toInt64 ((AI (i + 8) a) * (AI (i + 8) b))))), (5, .int (nI i)), (0, .ref (ad 0)), (1, .int (nI a)), (2, .int (nI b))]) hx hb dX2_columnProduct_36 rfl hl (by decide) rfl (fun ls hl => ?_)
      refine b_iinc (lv' := [(5, .int (nI (i + 1))), (3, .long (z + (Int32.toInt64 ((AI (i + 8) a) * (AI (i + 8) b))))), (0, .ref (ad 0)), (1, .int (nI a)), (2, .int (nI b))]) hx hb dX2_columnProduct_37 hl (k := 1) rfl (by decide) rfl (fun ls hl => ?_)
      refine lv_goto (tgt := 5) hx hb dX2_columnProduct_40 (by decide) ?_
      exact ih (i + 1) _ H locs ls (by omega) hP hD hS (lv_sub hl [0, 1, 2, 3, 4] rfl) kx
  refine lp5 _ (I 1) 0 0 _ _ ls (by omega) hP hD hS (lv_sub hl [0, 1, 2, 3, 4] rfl) (fun H locs ls hP hD hS hl => ?_)
  refine lv_lload_n hx hb dX2_columnProduct_43 rfl (lv_at hl 1 rfl) ?_
  exact g_lret hx hb hr hlocks (I, AN, AI, AL) (⟨rfl, rfl⟩) hK hP hD hS dX2_columnProduct_44

abbrev rmX2_eliminateEquations : Room := { frames := 5, cells := 0, slots := 0, locals := 125 }
set_option maxHeartbeats 4000000 in
set_option maxRecDepth 100000 in
/-- eliminateEquations -/
theorem ctX2_eliminateEquations (l : Launch) (D : va_G) (cs : Nat → ClassId) (ad : Nat → Nat) (I : Nat → Nat) (AN : Nat → Nat → Nat) (AI : Nat → Nat → Int32) (AL : Nat → Nat → Int64) (sz : Nat)  (hn3 : I 0 ≤ 3) (he3 : I 1 ≤ 3) : Met l yX2_eliminateEquations (Cond.code yX2_eliminateEquations cX2_eliminateEquations 3 none :: GW) rmX2_eliminateEquations (va_Pc [.ref (ad 0)] (gP D cs (wT cs ad I AN AI AL) sz)) (va_Qv (fun u : TS => u = (Ieq I (I 0) (I 1) (eqE (I 0) (I 1) AN AI AL).1, (eqE (I 0) (I 1) AN AI AL).2.1, AI, (eqE (I 0) (I 1) AN AI AL).2.2)) (gB D cs (va_A (wT cs ad I AN AI AL) sz) (wTs cs ad)) (va_A (wT cs ad I AN AI AL) sz)) 0 0 (va_A (wT cs ad I AN AI AL) sz) := by
  refine Met.ofW (cc := cX2_eliminateEquations) (maxL := 3) (ret := none) (by decide) rfl ?_
  intro p e s m args below meth c s₁ B hml hv
  obtain ⟨rfl, hsz, hP, hK, hD0, hN⟩ := hv
  have hx := B.exec
  have hb := B.bytes
  have hr := B.returns
  have hts : ∀ w ∈ GW, w.before _ s = true := fun w h => atoms_spec (ws := Cond.code yX2_eliminateEquations cX2_eliminateEquations 3 none :: GW) B.pre w (List.mem_cons_of_mem _ h)
  have hown : s.vm.findClass RX2 = some m.cls := findClass_of_methodNamed B.named
  have hlocks := B.notSynchronized
  subst hsz
  have hD := hD0.self (sz := s.heap.size)
  generalize hAe : va_A (wT cs ad I AN AI AL) s.heap.size = A at hD ⊢
  have hA : ∀ q : Nat, s.heap.size ≤ q → A q := fun q h => by rw [← hAe]; exact Or.inr h
  have hS : va_S A s.heap s.heap [] := va_S.rf
  have hl := lv_entry [.ref (ad 0)] (n := 3) (Nat.le_of_ble_eq_true rfl)
  rw [lg_entry_eq]
  generalize (lg_sl [.ref (ad 0)] ++ List.replicate (3 - (lg_sl [.ref (ad 0)]).length) Slot.unset).toArray = ls at hl ⊢
  have hl : lv_has ls 3 [(0, .ref (ad 0))] := hl
  generalize hargs : ([.ref (ad 0)] : List Value).toArray = args at *
  show W p l e rmX2_eliminateEquations s m args below meth c s.heap [] 0 0 _ (F0 m 0 ls [])
  refine lv_aload_n hx hb dX2_eliminateEquations_0 rfl (lv_at hl 0 rfl) ?_
  refine b_get (own := RX2) (C := RX2) (T := TX2) (N := 5) (ci := 2) (v := .ref (ad 2)) hx hb hts usX2 hown hK hP 0 (by decide) rfl rfl 2 (by decide) (hts _ gw_132) rfl dX2_eliminateEquations_1 ?_
  refine lv_aload_n hx hb dX2_eliminateEquations_4 rfl (lv_at hl 0 rfl) ?_
  refine b_get (own := RX2) (C := RX2) (T := TX2) (N := 5) (ci := 2) (v := .int (nI (I 0))) hx hb hts usX2 hown hK hP 0 (by decide) rfl rfl 0 (by decide) (hts _ gw_130) rfl dX2_eliminateEquations_5 ?_
  refine lv_aload_n hx hb dX2_eliminateEquations_8 rfl (lv_at hl 0 rfl) ?_
  refine b_get (own := RX2) (C := RX2) (T := TX2) (N := 5) (ci := 2) (v := .int (nI (I 1))) hx hb hts usX2 hown hK hP 0 (by decide) rfl rfl 4 (by decide) (hts _ gw_134) rfl dX2_eliminateEquations_9 ?_
  refine g_callv (va_runVN (C := RX0) (As := [.int (nI (I 0)), .int (nI (I 1))]) (rest := []) ⟨hx, hb, hml, hown, hts⟩ (ctX0_begin l D cs ad I AN AI AL _ (I 0) (I 1) (by omega) (by omega)) ⟨va_cnB 2 hts (gi_C gw_157) rfl rfl rfl (hN _ (by decide +kernel) : va_Nw (Cond.methodLinkNest "TriangularSystems" 136 ⟨"TriangularSystems$Elimination", "begin", "(II)V"⟩ "TriangularSystems") s) (hts _ gw_55) (by decide +kernel) ⟨Nat.le_of_ble_eq_true rfl, Nat.le_of_ble_eq_true rfl⟩, hts _ gw_156, hts _ gw_1⟩ ⟨g_blind, va_recv hK hP (ci := 0) (q0 := 2) rfl (wm_at (by decide) rfl), g_pre hP hK hD hN⟩ rfl rfl hl.1 rfl (lv_room (Nat.le_of_ble_eq_true rfl)) dX2_eliminateEquations_12 ⟨Nat.zero_le _, Nat.zero_le _⟩) hD hS hA (fun u H locs hw hP hD hS => ?_)
  obtain rfl := hw
  have hP : va_P D vc (wT cs ad (up1 (up1 (up1 I 2 (I 0)) 3 (I 1)) 4 0) AN AI (zer (I 0) (I 1) AL)) H := hP
  have hD : va_D A (wT cs ad (up1 (up1 (up1 I 2 (I 0)) 3 (I 1)) 4 0) AN AI (zer (I 0) (I 1) AL)) := hD
  refine lv_iconst (v := nI 0) hx hb dX2_eliminateEquations_15 (by decide) ?_
  refine lv_istore_n (lv' := [(1, .int (nI 0)), (0, .ref (ad 0))]) hx hb dX2_eliminateEquations_16 rfl hl (by decide) rfl (fun ls hl => ?_)
  have lp17 : ∀ (Q : State → Prop) (n i : Nat) (X : Nat → Nat → Int64) (H : Heap) (locs : List Loc) (ls : Array Slot), i + n = I 1 → va_P D vc (wT cs ad (up1 (up1 (up1 I 2 (I 0)) 3 (I 1)) 4 0) AN AI X) H → va_D A (wT cs ad (up1 (up1 (up1 I 2 (I 0)) 3 (I 1)) 4 0) AN AI X) → va_S A s.heap H locs → lv_has ls 3 [(1, .int (nI i)), (0, .ref (ad 0))] → (∀ (H : Heap) (locs : List Loc) (ls : Array Slot), va_P D vc (wT cs ad (up1 (up1 (up1 I 2 (I 0)) 3 (I 1)) 4 0) AN AI (fo (fun i X => fo (fun j Y => up2 Y (i + 11) j (Int32.toInt64 (AI (i + 8) j))) (I 0 + 1) 0 X) n i X)) H → va_D A (wT cs ad (up1 (up1 (up1 I 2 (I 0)) 3 (I 1)) 4 0) AN AI (fo (fun i X => fo (fun j Y => up2 Y (i + 11) j (Int32.toInt64 (AI (i + 8) j))) (I 0 + 1) 0 X) n i X)) → va_S A s.heap H locs → lv_has ls 3 [(1, .int (nI (I 1))), (0, .ref (ad 0))] → W p l e rmX2_eliminateEquations s m args below meth c H locs 0 0 Q (F0 m 67 ls [])) → W p l e rmX2_eliminateEquations s m args below meth c H locs 0 0 Q (F0 m 17 ls []) := by
    intro Q n
    induction n with
    | zero =>
      intro i X H locs ls hn hP hD hS hl kx
      have hi : i = I 1 := by omega
      refine lv_iload_n hx hb dX2_eliminateEquations_17 rfl (lv_at hl 0 rfl) ?_
      refine lv_aload_n hx hb dX2_eliminateEquations_18 rfl (lv_at hl 1 rfl) ?_
      refine b_get (own := RX2) (C := RX2) (T := TX2) (N := 5) (ci := 2) (v := .int (nI (I 1))) hx hb hts usX2 hown hK hP 0 (by decide) rfl rfl 4 (by decide) (hts _ gw_134) rfl dX2_eliminateEquations_19 ?_
      refine b_ge_t (tgt := 67) hx hb dX2_eliminateEquations_22 (by decide) (by omega) (by omega) ?_
      rw [hi] at hl
      exact kx H locs ls hP hD hS (lv_sub hl [0, 1] rfl)
    | succ n ih =>
      intro i X H locs ls hn hP hD hS hl kx
      have hi : i < I 1 := by omega
      refine lv_iload_n hx hb dX2_eliminateEquations_17 rfl (lv_at hl 0 rfl) ?_
      refine lv_aload_n hx hb dX2_eliminateEquations_18 rfl (lv_at hl 1 rfl) ?_
      refine b_get (own := RX2) (C := RX2) (T := TX2) (N := 5) (ci := 2) (v := .int (nI (I 1))) hx hb hts usX2 hown hK hP 0 (by decide) rfl rfl 4 (by decide) (hts _ gw_134) rfl dX2_eliminateEquations_19 ?_
      refine b_ge_f (tgt := 67) hx hb dX2_eliminateEquations_22 (by decide) (by omega) (by omega) ?_
      refine lv_iconst (v := nI 0) hx hb dX2_eliminateEquations_25 (by decide) ?_
      refine lv_istore_n (lv' := [(2, .int (nI 0)), (1, .int (nI i)), (0, .ref (ad 0))]) hx hb dX2_eliminateEquations_26 rfl hl (by decide) rfl (fun ls hl => ?_)
      have lp27 : ∀ (Q : State → Prop) (n j : Nat) (Y : Nat → Nat → Int64) (H : Heap) (locs : List Loc) (ls : Array Slot), j + n = I 0 + 1 → va_P D vc (wT cs ad (up1 (up1 (up1 I 2 (I 0)) 3 (I 1)) 4 0) AN AI Y) H → va_D A (wT cs ad (up1 (up1 (up1 I 2 (I 0)) 3 (I 1)) 4 0) AN AI Y) → va_S A s.heap H locs → lv_has ls 3 [(2, .int (nI j)), (1, .int (nI i)), (0, .ref (ad 0))] → (∀ (H : Heap) (locs : List Loc) (ls : Array Slot), va_P D vc (wT cs ad (up1 (up1 (up1 I 2 (I 0)) 3 (I 1)) 4 0) AN AI (fo (fun j Y => up2 Y (i + 11) j (Int32.toInt64 (AI (i + 8) j))) n j Y)) H → va_D A (wT cs ad (up1 (up1 (up1 I 2 (I 0)) 3 (I 1)) 4 0) AN AI (fo (fun j Y => up2 Y (i + 11) j (Int32.toInt64 (AI (i + 8) j))) n j Y)) → va_S A s.heap H locs → lv_has ls 3 [(2, .int (nI (I 0 + 1))), (1, .int (nI i)), (0, .ref (ad 0))] → W p l e rmX2_eliminateEquations s m args below meth c H locs 0 0 Q (F0 m 61 ls [])) → W p l e rmX2_eliminateEquations s m args below meth c H locs 0 0 Q (F0 m 27 ls []) := by
        intro Q n
        induction n with
        | zero =>
          intro j Y H locs ls hn hP hD hS hl kx
          have hi : j = I 0 + 1 := by omega
          refine lv_iload_n hx hb dX2_eliminateEquations_27 rfl (lv_at hl 0 rfl) ?_
          refine lv_aload_n hx hb dX2_eliminateEquations_28 rfl (lv_at hl 2 rfl) ?_
          refine b_get (own := RX2) (C := RX2) (T := TX2) (N := 5) (ci := 2) (v := .int (nI (I 0))) hx hb hts usX2 hown hK hP 0 (by decide) rfl rfl 0 (by decide) (hts _ gw_130) rfl dX2_eliminateEquations_29 ?_
          refine b_gt_t (tgt := 61) hx hb dX2_eliminateEquations_32 (by decide) (by omega) (by omega) ?_
          rw [hi] at hl
          exact kx H locs ls hP hD hS (lv_sub hl [0, 1, 2] rfl)
        | succ n ih =>
          intro j Y H locs ls hn hP hD hS hl kx
          have hi : j < I 0 + 1 := by omega
          refine lv_iload_n hx hb dX2_eliminateEquations_27 rfl (lv_at hl 0 rfl) ?_
          refine lv_aload_n hx hb dX2_eliminateEquations_28 rfl (lv_at hl 2 rfl) ?_
          refine b_get (own := RX2) (C := RX2) (T := TX2) (N := 5) (ci := 2) (v := .int (nI (I 0))) hx hb hts usX2 hown hK hP 0 (by decide) rfl rfl 0 (by decide) (hts _ gw_130) rfl dX2_eliminateEquations_29 ?_
          refine b_gt_f (tgt := 61) hx hb dX2_eliminateEquations_32 (by decide) (by omega) (by omega) ?_
          refine lv_aload_n hx hb dX2_eliminateEquations_35 rfl (lv_at hl 2 rfl) ?_
          refine b_get (own := RX2) (C := RX2) (T := TX2) (N := 5) (ci := 2) (v := .ref (ad 2)) hx hb hts usX2 hown hK hP 0 (by decide) rfl rfl 2 (by decide) (hts _ gw_132) rfl dX2_eliminateEquations_36 ?_
          refine b_getN (own := RX2) (C := RX0) (host := RX2) (T := TX0) (N := 5) (ci := 0) (v := .ref (ad 4)) hx hb hts usX0 hown hK hP 2 (by decide) rfl rfl 0 (by decide) (hN _ (by decide +kernel)) rfl dX2_eliminateEquations_39 ?_
          refine lv_iload_n hx hb dX2_eliminateEquations_42 rfl (lv_at hl 1 rfl) ?_
          refine tE_r hx hb hK hP (by omega) dX2_eliminateEquations_43 ?_
          refine lv_iload_n hx hb dX2_eliminateEquations_44 rfl (lv_at hl 0 rfl) ?_
          refine lv_aload_n hx hb dX2_eliminateEquations_45 rfl (lv_at hl 2 rfl) ?_
          refine b_get (own := RX2) (C := RX2) (T := TX2) (N := 5) (ci := 2) (v := .ref (ad 1)) hx hb hts usX2 hown hK hP 0 (by decide) rfl rfl 1 (by decide) (hts _ gw_131) rfl dX2_eliminateEquations_46 ?_
          refine lv_iload_n hx hb dX2_eliminateEquations_49 rfl (lv_at hl 1 rfl) ?_
          refine tN_r hx hb hK hP (by omega) dX2_eliminateEquations_50 ?_
          refine lv_iload_n hx hb dX2_eliminateEquations_51 rfl (lv_at hl 0 rfl) ?_
          refine tN_ld (i := i) hx hb hK hP (by omega) (by omega) dX2_eliminateEquations_52 ?_
          refine lv_i2l (v := Int32.toInt64 (AI (i + 8) j)) hx hb dX2_eliminateEquations_53 rfl ?_
          refine tE_st (i := i) hx hb hK hP hD hS (by omega) (by omega) dX2_eliminateEquations_54 (fun H locs hP hD hS => ?_)
          refine b_iinc (lv' := [(2, .int (nI (j + 1))), (1, .int (nI i)), (0, .ref (ad 0))]) hx hb dX2_eliminateEquations_55 hl (k := 0) rfl (by decide) rfl (fun ls hl => ?_)
          refine lv_goto (tgt := 27) hx hb dX2_eliminateEquations_58 (by decide) ?_
          exact ih (j + 1) _ H locs ls (by omega) hP hD hS (lv_sub hl [0, 1, 2] rfl) kx
      refine lp27 _ (I 0 + 1) 0 X _ _ ls (by omega) hP hD hS (lv_sub hl [0, 1, 2] rfl) (fun H locs ls hP hD hS hl => ?_)
      refine b_iinc (lv' := [(1, .int (nI (i + 1))), (2, .int (nI (I 0 + 1))), (0, .ref (ad 0))]) hx hb dX2_eliminateEquations_61 hl (k := 1) rfl (by decide) rfl (fun ls hl => ?_)
      refine lv_goto (tgt := 17) hx hb dX2_eliminateEquations_64 (by decide) ?_
      exact ih (i + 1) _ H locs ls (by omega) hP hD hS (lv_sub hl [0, 2] rfl) kx
  refine lp17 _ (I 1) 0 (zer (I 0) (I 1) AL) _ _ ls (by omega) hP hD hS (lv_sub hl [0, 1] rfl) (fun H locs ls hP hD hS hl => ?_)
  have hP : va_P D vc (wT cs ad (up1 (up1 (up1 I 2 (I 0)) 3 (I 1)) 4 0) AN AI (eqfill (I 0) (I 1) AI (zer (I 0) (I 1) AL))) H := hP
  have hD : va_D A (wT cs ad (up1 (up1 (up1 I 2 (I 0)) 3 (I 1)) 4 0) AN AI (eqfill (I 0) (I 1) AI (zer (I 0) (I 1) AL))) := hD
  refine lv_aload_n hx hb dX2_eliminateEquations_67 rfl (lv_at hl 1 rfl) ?_
  refine b_get (own := RX2) (C := RX2) (T := TX2) (N := 5) (ci := 2) (v := .ref (ad 2)) hx hb hts usX2 hown hK hP 0 (by decide) rfl rfl 2 (by decide) (hts _ gw_132) rfl dX2_eliminateEquations_68 ?_
  have k2 : (up1 (up1 (up1 I 2 (I 0)) 3 (I 1)) 4 0) 2 ≤ 4 := (show I 0 ≤ 4 by omega)
  have k3 : (up1 (up1 (up1 I 2 (I 0)) 3 (I 1)) 4 0) 3 ≤ 7 := (show I 1 ≤ 7 by omega)
  have k4 : (up1 (up1 (up1 I 2 (I 0)) 3 (I 1)) 4 0) 4 ≤ (up1 (up1 (up1 I 2 (I 0)) 3 (I 1)) 4 0) 3 := (show 0 ≤ I 1 by omega)
  refine g_callv (va_runVN (C := RX0) (As := []) (rest := []) ⟨hx, hb, hml, hown, hts⟩ (ctX0_eliminate l D cs ad (up1 (up1 (up1 I 2 (I 0)) 3 (I 1)) 4 0) AN AI (eqfill (I 0) (I 1) AI (zer (I 0) (I 1) AL)) _ k2 k3 k4) ⟨va_cnB 0 hts (gi_C gw_163) rfl rfl rfl (hN _ (by decide +kernel) : va_Nw (Cond.methodLinkNest "TriangularSystems" 144 ⟨"TriangularSystems$Elimination", "eliminate", "()V"⟩ "TriangularSystems") s) (hts _ gw_55) (by decide +kernel) ⟨Nat.le_of_ble_eq_true rfl, Nat.le_of_ble_eq_true rfl⟩, hts _ gw_162, hts _ gw_2⟩ ⟨g_blind, va_recv hK hP (ci := 0) (q0 := 2) rfl (wm_at (by decide) rfl), g_pre hP hK hD hN⟩ rfl rfl hl.1 rfl (lv_room (Nat.le_of_ble_eq_true rfl)) dX2_eliminateEquations_71 ⟨Nat.zero_le _, Nat.zero_le _⟩) hD hS hA (fun u H locs hw hP hD hS => ?_)
  obtain rfl := hw
  have hP : va_P D vc (wT cs ad (up1 (up1 (up1 (up1 I 2 (I 0)) 3 (I 1)) 4 0) 4 (eqE (I 0) (I 1) AN AI AL).1) ((eqE (I 0) (I 1) AN AI AL).2.1) AI ((eqE (I 0) (I 1) AN AI AL).2.2)) H := hP
  have hD : va_D A (wT cs ad (up1 (up1 (up1 (up1 I 2 (I 0)) 3 (I 1)) 4 0) 4 (eqE (I 0) (I 1) AN AI AL).1) ((eqE (I 0) (I 1) AN AI AL).2.1) AI ((eqE (I 0) (I 1) AN AI AL).2.2)) := hD
  rw [up1_1] at hP hD
  exact g_vret hx hb hr hlocks (Ieq I (I 0) (I 1) (eqE (I 0) (I 1) AN AI AL).1, (eqE (I 0) (I 1) AN AI AL).2.1, AI, (eqE (I 0) (I 1) AN AI AL).2.2) (rfl) hK hP hD hS dX2_eliminateEquations_74

abbrev rmX2_spanLattice : Room := { frames := 4, cells := 0, slots := 0, locals := 93 }
set_option maxHeartbeats 4000000 in
set_option maxRecDepth 100000 in
/-- spanLattice -/
theorem ctX2_spanLattice (l : Launch) (D : va_G) (cs : Nat → ClassId) (ad : Nat → Nat) (I : Nat → Nat) (AN : Nat → Nat → Nat) (AI : Nat → Nat → Int32) (AL : Nat → Nat → Int64) (sz : Nat)  (hn3 : I 0 ≤ 3) (he3 : I 1 ≤ 3) (hbg : ∀ r, r < 3 → AN 7 r < 6) : Met l yX2_spanLattice (Cond.code yX2_spanLattice cX2_spanLattice 3 none :: GW) rmX2_spanLattice (va_Pc [.ref (ad 0)] (gP D cs (wT cs ad I AN AI AL) sz)) (va_Qv (fun u : TS => u = (up1 I 5 (I 0), (spL (I 0) (I 1) AN AI AL).1, AI, (spL (I 0) (I 1) AN AI AL).2)) (gB D cs (va_A (wT cs ad I AN AI AL) sz) (wTs cs ad)) (va_A (wT cs ad I AN AI AL) sz)) 0 0 (va_A (wT cs ad I AN AI AL) sz) := by
  refine Met.ofW (cc := cX2_spanLattice) (maxL := 3) (ret := none) (by decide) rfl ?_
  intro p e s m args below meth c s₁ B hml hv
  obtain ⟨rfl, hsz, hP, hK, hD0, hN⟩ := hv
  have hx := B.exec
  have hb := B.bytes
  have hr := B.returns
  have hts : ∀ w ∈ GW, w.before _ s = true := fun w h => atoms_spec (ws := Cond.code yX2_spanLattice cX2_spanLattice 3 none :: GW) B.pre w (List.mem_cons_of_mem _ h)
  have hown : s.vm.findClass RX2 = some m.cls := findClass_of_methodNamed B.named
  have hlocks := B.notSynchronized
  subst hsz
  have hD := hD0.self (sz := s.heap.size)
  generalize hAe : va_A (wT cs ad I AN AI AL) s.heap.size = A at hD ⊢
  have hA : ∀ q : Nat, s.heap.size ≤ q → A q := fun q h => by rw [← hAe]; exact Or.inr h
  have hS : va_S A s.heap s.heap [] := va_S.rf
  have hl := lv_entry [.ref (ad 0)] (n := 3) (Nat.le_of_ble_eq_true rfl)
  rw [lg_entry_eq]
  generalize (lg_sl [.ref (ad 0)] ++ List.replicate (3 - (lg_sl [.ref (ad 0)]).length) Slot.unset).toArray = ls at hl ⊢
  have hl : lv_has ls 3 [(0, .ref (ad 0))] := hl
  generalize hargs : ([.ref (ad 0)] : List Value).toArray = args at *
  show W p l e rmX2_spanLattice s m args below meth c s.heap [] 0 0 _ (F0 m 0 ls [])
  refine lv_aload_n hx hb dX2_spanLattice_0 rfl (lv_at hl 0 rfl) ?_
  refine b_get (own := RX2) (C := RX2) (T := TX2) (N := 5) (ci := 2) (v := .ref (ad 3)) hx hb hts usX2 hown hK hP 0 (by decide) rfl rfl 3 (by decide) (hts _ gw_133) rfl dX2_spanLattice_1 ?_
  refine lv_aload_n hx hb dX2_spanLattice_4 rfl (lv_at hl 0 rfl) ?_
  refine b_get (own := RX2) (C := RX2) (T := TX2) (N := 5) (ci := 2) (v := .int (nI (I 0))) hx hb hts usX2 hown hK hP 0 (by decide) rfl rfl 0 (by decide) (hts _ gw_130) rfl dX2_spanLattice_5 ?_
  refine g_callv (va_runVN (C := RX1) (As := [.int (nI (I 0))]) (rest := []) ⟨hx, hb, hml, hown, hts⟩ (ctX1_begin l D cs ad I AN AI AL _ (I 0) hn3) ⟨va_cnB 1 hts (gi_C gw_221) rfl rfl rfl (hN _ (by decide +kernel) : va_Nw (Cond.methodLinkNest "TriangularSystems" 150 ⟨"TriangularSystems$Lattice", "begin", "(I)V"⟩ "TriangularSystems") s) (hts _ gw_56) (by decide +kernel) ⟨Nat.le_of_ble_eq_true rfl, Nat.le_of_ble_eq_true rfl⟩, hts _ gw_220, hts _ gw_12⟩ ⟨g_blind, va_recv hK hP (ci := 1) (q0 := 3) rfl (wm_at (by decide) rfl), g_pre hP hK hD hN⟩ rfl rfl hl.1 rfl (lv_room (Nat.le_of_ble_eq_true rfl)) dX2_spanLattice_8 ⟨Nat.zero_le _, Nat.zero_le _⟩) hD hS hA (fun u H locs hw hP hD hS => ?_)
  obtain rfl := hw
  have hP : va_P D vc (wT cs ad (up1 I 5 (I 0)) AN AI (lbeg (I 0) AL)) H := hP
  have hD : va_D A (wT cs ad (up1 I 5 (I 0)) AN AI (lbeg (I 0) AL)) := hD
  refine lv_iconst (v := nI 0) hx hb dX2_spanLattice_11 (by decide) ?_
  refine lv_istore_n (lv' := [(1, .int (nI 0)), (0, .ref (ad 0))]) hx hb dX2_spanLattice_12 rfl hl (by decide) rfl (fun ls hl => ?_)
  have lp13 : ∀ (Q : State → Prop) (n i : Nat) (X : Nat → Nat → Int64) (H : Heap) (locs : List Loc) (ls : Array Slot), i + n = I 1 → va_P D vc (wT cs ad (up1 I 5 (I 0)) AN AI X) H → va_D A (wT cs ad (up1 I 5 (I 0)) AN AI X) → va_S A s.heap H locs → lv_has ls 3 [(1, .int (nI i)), (0, .ref (ad 0))] → (∀ (H : Heap) (locs : List Loc) (ls : Array Slot), va_P D vc (wT cs ad (up1 I 5 (I 0)) AN AI (fo (fun i X => up2 (fo (fun j Y => up2 Y (j + 18) i (Int32.toInt64 (AI (i + 8) j))) (I 0) 0 X) (3 + 18) i (Int32.toInt64 (-(AI (i + 8) (I 0))))) n i X)) H → va_D A (wT cs ad (up1 I 5 (I 0)) AN AI (fo (fun i X => up2 (fo (fun j Y => up2 Y (j + 18) i (Int32.toInt64 (AI (i + 8) j))) (I 0) 0 X) (3 + 18) i (Int32.toInt64 (-(AI (i + 8) (I 0))))) n i X)) → va_S A s.heap H locs → lv_has ls 3 [(1, .int (nI (I 1))), (0, .ref (ad 0))] → W p l e rmX2_spanLattice s m args below meth c H locs 0 0 Q (F0 m 85 ls [])) → W p l e rmX2_spanLattice s m args below meth c H locs 0 0 Q (F0 m 13 ls []) := by
    intro Q n
    induction n with
    | zero =>
      intro i X H locs ls hn hP hD hS hl kx
      have hi : i = I 1 := by omega
      refine lv_iload_n hx hb dX2_spanLattice_13 rfl (lv_at hl 0 rfl) ?_
      refine lv_aload_n hx hb dX2_spanLattice_14 rfl (lv_at hl 1 rfl) ?_
      refine b_get (own := RX2) (C := RX2) (T := TX2) (N := 5) (ci := 2) (v := .int (nI (I 1))) hx hb hts usX2 hown hK hP 0 (by decide) rfl rfl 4 (by decide) (hts _ gw_134) rfl dX2_spanLattice_15 ?_
      refine b_ge_t (tgt := 85) hx hb dX2_spanLattice_18 (by decide) (by omega) (by omega) ?_
      rw [hi] at hl
      exact kx H locs ls hP hD hS (lv_sub hl [0, 1] rfl)
    | succ n ih =>
      intro i X H locs ls hn hP hD hS hl kx
      have hi : i < I 1 := by omega
      refine lv_iload_n hx hb dX2_spanLattice_13 rfl (lv_at hl 0 rfl) ?_
      refine lv_aload_n hx hb dX2_spanLattice_14 rfl (lv_at hl 1 rfl) ?_
      refine b_get (own := RX2) (C := RX2) (T := TX2) (N := 5) (ci := 2) (v := .int (nI (I 1))) hx hb hts usX2 hown hK hP 0 (by decide) rfl rfl 4 (by decide) (hts _ gw_134) rfl dX2_spanLattice_15 ?_
      refine b_ge_f (tgt := 85) hx hb dX2_spanLattice_18 (by decide) (by omega) (by omega) ?_
      refine lv_iconst (v := nI 0) hx hb dX2_spanLattice_21 (by decide) ?_
      refine lv_istore_n (lv' := [(2, .int (nI 0)), (1, .int (nI i)), (0, .ref (ad 0))]) hx hb dX2_spanLattice_22 rfl hl (by decide) rfl (fun ls hl => ?_)
      have lp23 : ∀ (Q : State → Prop) (n j : Nat) (Y : Nat → Nat → Int64) (H : Heap) (locs : List Loc) (ls : Array Slot), j + n = I 0 → va_P D vc (wT cs ad (up1 I 5 (I 0)) AN AI Y) H → va_D A (wT cs ad (up1 I 5 (I 0)) AN AI Y) → va_S A s.heap H locs → lv_has ls 3 [(2, .int (nI j)), (1, .int (nI i)), (0, .ref (ad 0))] → (∀ (H : Heap) (locs : List Loc) (ls : Array Slot), va_P D vc (wT cs ad (up1 I 5 (I 0)) AN AI (fo (fun j Y => up2 Y (j + 18) i (Int32.toInt64 (AI (i + 8) j))) n j Y)) H → va_D A (wT cs ad (up1 I 5 (I 0)) AN AI (fo (fun j Y => up2 Y (j + 18) i (Int32.toInt64 (AI (i + 8) j))) n j Y)) → va_S A s.heap H locs → lv_has ls 3 [(2, .int (nI (I 0))), (1, .int (nI i)), (0, .ref (ad 0))] → W p l e rmX2_spanLattice s m args below meth c H locs 0 0 Q (F0 m 57 ls [])) → W p l e rmX2_spanLattice s m args below meth c H locs 0 0 Q (F0 m 23 ls []) := by
        intro Q n
        induction n with
        | zero =>
          intro j Y H locs ls hn hP hD hS hl kx
          have hi : j = I 0 := by omega
          refine lv_iload_n hx hb dX2_spanLattice_23 rfl (lv_at hl 0 rfl) ?_
          refine lv_aload_n hx hb dX2_spanLattice_24 rfl (lv_at hl 2 rfl) ?_
          refine b_get (own := RX2) (C := RX2) (T := TX2) (N := 5) (ci := 2) (v := .int (nI (I 0))) hx hb hts usX2 hown hK hP 0 (by decide) rfl rfl 0 (by decide) (hts _ gw_130) rfl dX2_spanLattice_25 ?_
          refine b_ge_t (tgt := 57) hx hb dX2_spanLattice_28 (by decide) (by omega) (by omega) ?_
          rw [hi] at hl
          exact kx H locs ls hP hD hS (lv_sub hl [0, 1, 2] rfl)
        | succ n ih =>
          intro j Y H locs ls hn hP hD hS hl kx
          have hi : j < I 0 := by omega
          refine lv_iload_n hx hb dX2_spanLattice_23 rfl (lv_at hl 0 rfl) ?_
          refine lv_aload_n hx hb dX2_spanLattice_24 rfl (lv_at hl 2 rfl) ?_
          refine b_get (own := RX2) (C := RX2) (T := TX2) (N := 5) (ci := 2) (v := .int (nI (I 0))) hx hb hts usX2 hown hK hP 0 (by decide) rfl rfl 0 (by decide) (hts _ gw_130) rfl dX2_spanLattice_25 ?_
          refine b_ge_f (tgt := 57) hx hb dX2_spanLattice_28 (by decide) (by omega) (by omega) ?_
          refine lv_aload_n hx hb dX2_spanLattice_31 rfl (lv_at hl 2 rfl) ?_
          refine b_get (own := RX2) (C := RX2) (T := TX2) (N := 5) (ci := 2) (v := .ref (ad 3)) hx hb hts usX2 hown hK hP 0 (by decide) rfl rfl 3 (by decide) (hts _ gw_133) rfl dX2_spanLattice_32 ?_
          refine b_getN (own := RX2) (C := RX1) (host := RX2) (T := TX1) (N := 4) (ci := 1) (v := .ref (ad 6)) hx hb hts usX1 hown hK hP 3 (by decide) rfl rfl 0 (by decide) (hN _ (by decide +kernel)) rfl dX2_spanLattice_35 ?_
          refine lv_iload_n hx hb dX2_spanLattice_38 rfl (lv_at hl 0 rfl) ?_
          refine tL_r hx hb hK hP (by omega) dX2_spanLattice_39 ?_
          refine lv_iload_n hx hb dX2_spanLattice_40 rfl (lv_at hl 1 rfl) ?_
          refine lv_aload_n hx hb dX2_spanLattice_41 rfl (lv_at hl 2 rfl) ?_
          refine b_get (own := RX2) (C := RX2) (T := TX2) (N := 5) (ci := 2) (v := .ref (ad 1)) hx hb hts usX2 hown hK hP 0 (by decide) rfl rfl 1 (by decide) (hts _ gw_131) rfl dX2_spanLattice_42 ?_
          refine lv_iload_n hx hb dX2_spanLattice_45 rfl (lv_at hl 1 rfl) ?_
          refine tN_r hx hb hK hP (by omega) dX2_spanLattice_46 ?_
          refine lv_iload_n hx hb dX2_spanLattice_47 rfl (lv_at hl 0 rfl) ?_
          refine tN_ld (i := i) hx hb hK hP (by omega) (by omega) dX2_spanLattice_48 ?_
          refine lv_i2l (v := Int32.toInt64 (AI (i + 8) j)) hx hb dX2_spanLattice_49 rfl ?_
          refine tL_st (i := j) hx hb hK hP hD hS (by omega) (by omega) dX2_spanLattice_50 (fun H locs hP hD hS => ?_)
          refine b_iinc (lv' := [(2, .int (nI (j + 1))), (1, .int (nI i)), (0, .ref (ad 0))]) hx hb dX2_spanLattice_51 hl (k := 0) rfl (by decide) rfl (fun ls hl => ?_)
          refine lv_goto (tgt := 23) hx hb dX2_spanLattice_54 (by decide) ?_
          exact ih (j + 1) _ H locs ls (by omega) hP hD hS (lv_sub hl [0, 1, 2] rfl) kx
      refine lp23 _ (I 0) 0 X _ _ ls (by omega) hP hD hS (lv_sub hl [0, 1, 2] rfl) (fun H locs ls hP hD hS hl => ?_)
      refine lv_aload_n hx hb dX2_spanLattice_57 rfl (lv_at hl 2 rfl) ?_
      refine b_get (own := RX2) (C := RX2) (T := TX2) (N := 5) (ci := 2) (v := .ref (ad 3)) hx hb hts usX2 hown hK hP 0 (by decide) rfl rfl 3 (by decide) (hts _ gw_133) rfl dX2_spanLattice_58 ?_
      refine b_getN (own := RX2) (C := RX1) (host := RX2) (T := TX1) (N := 4) (ci := 1) (v := .ref (ad 21)) hx hb hts usX1 hown hK hP 3 (by decide) rfl rfl 2 (by decide) (hN _ (by decide +kernel)) rfl dX2_spanLattice_61 ?_
      refine lv_iload_n hx hb dX2_spanLattice_64 rfl (lv_at hl 1 rfl) ?_
      refine lv_aload_n hx hb dX2_spanLattice_65 rfl (lv_at hl 2 rfl) ?_
      refine b_get (own := RX2) (C := RX2) (T := TX2) (N := 5) (ci := 2) (v := .ref (ad 1)) hx hb hts usX2 hown hK hP 0 (by decide) rfl rfl 1 (by decide) (hts _ gw_131) rfl dX2_spanLattice_66 ?_
      refine lv_iload_n hx hb dX2_spanLattice_69 rfl (lv_at hl 1 rfl) ?_
      refine tN_r hx hb hK hP (by omega) dX2_spanLattice_70 ?_
      refine lv_aload_n hx hb dX2_spanLattice_71 rfl (lv_at hl 2 rfl) ?_
      refine b_get (own := RX2) (C := RX2) (T := TX2) (N := 5) (ci := 2) (v := .int (nI (I 0))) hx hb hts usX2 hown hK hP 0 (by decide) rfl rfl 0 (by decide) (hts _ gw_130) rfl dX2_spanLattice_72 ?_
      refine tN_ld (i := i) hx hb hK hP (by omega) (by omega) dX2_spanLattice_75 ?_
      refine lv_ineg hx hb dX2_spanLattice_76 ?_
      refine lv_i2l (v := Int32.toInt64 (-(AI (i + 8) (I 0)))) hx hb dX2_spanLattice_77 rfl ?_
      refine tL_st (i := 3) hx hb hK hP hD hS (by omega) (by omega) dX2_spanLattice_78 (fun H locs hP hD hS => ?_)
      refine b_iinc (lv' := [(1, .int (nI (i + 1))), (2, .int (nI (I 0))), (0, .ref (ad 0))]) hx hb dX2_spanLattice_79 hl (k := 1) rfl (by decide) rfl (fun ls hl => ?_)
      refine lv_goto (tgt := 13) hx hb dX2_spanLattice_82 (by decide) ?_
      exact ih (i + 1) _ H locs ls (by omega) hP hD hS (lv_sub hl [0, 2] rfl) kx
  refine lp13 _ (I 1) 0 (lbeg (I 0) AL) _ _ ls (by omega) hP hD hS (lv_sub hl [0, 1] rfl) (fun H locs ls hP hD hS hl => ?_)
  have hP : va_P D vc (wT cs ad (up1 I 5 (I 0)) AN AI (spfill (I 0) (I 1) AI (lbeg (I 0) AL))) H := hP
  have hD : va_D A (wT cs ad (up1 I 5 (I 0)) AN AI (spfill (I 0) (I 1) AI (lbeg (I 0) AL))) := hD
  refine lv_aload_n hx hb dX2_spanLattice_85 rfl (lv_at hl 1 rfl) ?_
  refine b_get (own := RX2) (C := RX2) (T := TX2) (N := 5) (ci := 2) (v := .ref (ad 3)) hx hb hts usX2 hown hK hP 0 (by decide) rfl rfl 3 (by decide) (hts _ gw_133) rfl dX2_spanLattice_86 ?_
  have k5 : (up1 I 5 (I 0)) 5 ≤ 3 := hn3
  refine g_callv (va_runVN (C := RX1) (As := []) (rest := []) ⟨hx, hb, hml, hown, hts⟩ (ctX1_span l D cs ad (up1 I 5 (I 0)) AN AI (spfill (I 0) (I 1) AI (lbeg (I 0) AL)) _ k5 hbg) ⟨va_cnB 0 hts (gi_C gw_227) rfl rfl rfl (hN _ (by decide +kernel) : va_Nw (Cond.methodLinkNest "TriangularSystems" 154 ⟨"TriangularSystems$Lattice", "span", "()V"⟩ "TriangularSystems") s) (hts _ gw_56) (by decide +kernel) ⟨Nat.le_of_ble_eq_true rfl, Nat.le_of_ble_eq_true rfl⟩, hts _ gw_226, hts _ gw_13⟩ ⟨g_blind, va_recv hK hP (ci := 1) (q0 := 3) rfl (wm_at (by decide) rfl), g_pre hP hK hD hN⟩ rfl rfl hl.1 rfl (lv_room (Nat.le_of_ble_eq_true rfl)) dX2_spanLattice_89 ⟨Nat.zero_le _, Nat.zero_le _⟩) hD hS hA (fun u H locs hw hP hD hS => ?_)
  obtain rfl := hw
  have hP : va_P D vc (wT cs ad (up1 I 5 (I 0)) ((spL (I 0) (I 1) AN AI AL).1) AI ((spL (I 0) (I 1) AN AI AL).2)) H := hP
  have hD : va_D A (wT cs ad (up1 I 5 (I 0)) ((spL (I 0) (I 1) AN AI AL).1) AI ((spL (I 0) (I 1) AN AI AL).2)) := hD
  exact g_vret hx hb hr hlocks (up1 I 5 (I 0), (spL (I 0) (I 1) AN AI AL).1, AI, (spL (I 0) (I 1) AN AI AL).2) (rfl) hK hP hD hS dX2_spanLattice_92
