/-- Math.floorDiv -/
def fdiv64 (x y : Int64) : Int64 := if (x ^^^ y) < 0 ∧ ¬ x / y * y = x then x / y - 1 else x / y

abbrev rmJ9_floorDiv : Room := { frames := 0, cells := 0, slots := 0, locals := 0 }
set_option maxHeartbeats 4000000 in
set_option maxRecDepth 100000 in
/-- floorDiv -/
theorem ctJ9_floorDiv (l : Launch) (D : va_G) (cs : Nat → ClassId) (ad : Nat → Nat) (I : Nat → Nat) (AN : Nat → Nat → Nat) (AI : Nat → Nat → Int32) (AL : Nat → Nat → Int64) (sz : Nat) (x y : Int64) (hy : ¬ y = 0) : Met l yJ9_floorDiv (Cond.code yJ9_floorDiv cJ9_floorDiv 6 (some FieldType.long) :: GW) rmJ9_floorDiv (va_Pc [.long x, .long y] (gP D cs (wT cs ad I AN AI AL) sz)) (va_Ql (fun (r : Int64) (u : TS) => u = (I, AN, AI, AL) ∧ r = fdiv64 x y) (gB D cs (va_A (wT cs ad I AN AI AL) sz) (wTs cs ad)) (va_A (wT cs ad I AN AI AL) sz)) 0 0 (va_A (wT cs ad I AN AI AL) sz) := by
  refine va_MetF (cc := cJ9_floorDiv) (maxL := 6) (ret := (some FieldType.long)) (by decide +kernel) rfl ?_
  intro p e s m args below meth c s₁ B hml hv
  obtain ⟨rfl, hsz, hP, hK, hD0, hN⟩ := hv
  have hx := B.exec
  have hb := B.bytes
  have hr := B.returns
  have hts : ∀ w ∈ GW, w.before _ s = true := fun w h => atoms_spec (ws := Cond.code yJ9_floorDiv cJ9_floorDiv 6 (some FieldType.long) :: GW) B.pre w (List.mem_cons_of_mem _ h)
  have hown : s.vm.findClass RJ9 = some m.cls := findClass_of_methodNamed B.named
  have hlocks := B.notSynchronized
  subst hsz
  have hD := hD0.self (sz := s.heap.size)
  generalize hAe : va_A (wT cs ad I AN AI AL) s.heap.size = A at hD ⊢
  have hA : ∀ q : Nat, s.heap.size ≤ q → A q := fun q h => by rw [← hAe]; exact Or.inr h
  have hS : va_S A s.heap s.heap [] := va_S.rf
  have hl := lv_entry [.long x, .long y] (n := 6) (Nat.le_of_ble_eq_true rfl)
  rw [lg_entry_eq]
  generalize (lg_sl [.long x, .long y] ++ List.replicate (6 - (lg_sl [.long x, .long y]).length) Slot.unset).toArray = ls at hl ⊢
  have hl : lv_has ls 6 [(0, .long x), (2, .long y)] := hl
  generalize hargs : ([.long x, .long y] : List Value).toArray = args at *
  show W p l e rmJ9_floorDiv s m args below meth c s.heap [] 0 0 _ (F0 m 0 ls [])
  refine lv_lload_n hx hb dJ9_floorDiv_0 rfl (lv_at hl 0 rfl) ?_
  refine lv_lload_n hx hb dJ9_floorDiv_1 rfl (lv_at hl 1 rfl) ?_
  refine lv_ldiv hx hb dJ9_floorDiv_2 (hy) ?_
  refine lv_lstore (lv' := [(4, .long (x / y)), (0, .long x), (2, .long y)]) hx hb dJ9_floorDiv_3 hl (by decide) rfl (fun ls hl => ?_)
  refine lv_lload_n hx hb dJ9_floorDiv_5 rfl (lv_at hl 1 rfl) ?_
  refine lv_lload_n hx hb dJ9_floorDiv_6 rfl (lv_at hl 2 rfl) ?_
  refine lv_lxor hx hb dJ9_floorDiv_7 ?_
  refine lv_lconst (v := 0) hx hb dJ9_floorDiv_8 (by decide) ?_
  refine b_lcge (tgt := 27) hx hb dJ9_floorDiv_9 dJ9_floorDiv_10 (by decide) (fun h1 => ?_) (fun h1 => ?_)
  · refine lv_lload hx hb dJ9_floorDiv_27 (lv_at hl 0 rfl) ?_
    exact g_lret hx hb hr hlocks (I, AN, AI, AL) (⟨rfl, by unfold fdiv64; rw [if_neg (fun z => h1 z.1)]⟩) hK hP hD hS dJ9_floorDiv_29
  · refine lv_lload hx hb dJ9_floorDiv_13 (lv_at hl 0 rfl) ?_
    refine lv_lload_n hx hb dJ9_floorDiv_15 rfl (lv_at hl 2 rfl) ?_
    refine lv_lmul hx hb dJ9_floorDiv_16 ?_
    refine lv_lload_n hx hb dJ9_floorDiv_17 rfl (lv_at hl 1 rfl) ?_
    refine b_lceq (tgt := 27) hx hb dJ9_floorDiv_18 dJ9_floorDiv_19 (by decide) (fun h2 => ?_) (fun h2 => ?_)
    · refine lv_lload hx hb dJ9_floorDiv_27 (lv_at hl 0 rfl) ?_
      exact g_lret hx hb hr hlocks (I, AN, AI, AL) (⟨rfl, by unfold fdiv64; rw [if_neg (fun z => z.2 h2)]⟩) hK hP hD hS dJ9_floorDiv_29
    · refine lv_lload hx hb dJ9_floorDiv_22 (lv_at hl 0 rfl) ?_
      refine lv_lconst (v := 1) hx hb dJ9_floorDiv_24 (by decide) ?_
      refine lv_lsub hx hb dJ9_floorDiv_25 ?_
      exact g_lret hx hb hr hlocks (I, AN, AI, AL) (⟨rfl, by unfold fdiv64; rw [if_pos ⟨h1, h2⟩]⟩) hK hP hD hS dJ9_floorDiv_26

def lneg (t : Nat) (AL : Nat → Nat → Int64) : Nat → Nat → Int64 := fo (fun p X => up2 X (t + 18) p (-X (t + 18) p)) 6 0 AL
def lexc (a b : Nat) (AL : Nat → Nat → Int64) : Nat → Nat → Int64 := fo (fun p X => up2 (up2 X (a + 18) p (X (b + 18) p)) (b + 18) p (X (a + 18) p)) 6 0 AL
def lsbt (a b : Nat) (z : Int64) (AL : Nat → Nat → Int64) : Nat → Nat → Int64 := fo (fun p X => up2 X (a + 18) p (X (a + 18) p - z * X (b + 18) p)) 6 0 AL
/-- Euclid's way over two lines, by their numbers at q -/
def ldit (a b q : Nat) : Nat → (Nat → Nat → Int64) → Nat → Nat → Int64
  | 0, AL => AL
  | n + 1, AL => if AL (b + 18) q = 0 then AL else ldit a b q n (lexc a b (lsbt a b (AL (a + 18) q / AL (b + 18) q) AL))
def lgat (h f q : Nat) (AL : Nat → Nat → Int64) : Nat → Nat → Int64 := (fun X => if X (f + 18) q < 0 then lneg f X else X) (fo (fun r X => ldit f r q 100 X) (h - (f + 1)) (f + 1) AL)
def lles (AN : Nat → Nat → Nat) (t r : Nat) (AL : Nat → Nat → Int64) : Nat → Nat → Int64 := if 0 < AL (r + 18) (AN 7 r) then lsbt t r (fdiv64 (AL (t + 18) (AN 7 r)) (AL (r + 18) (AN 7 r))) AL else AL

abbrev rmX1_negate : Room := { frames := 0, cells := 0, slots := 0, locals := 0 }
set_option maxHeartbeats 4000000 in
set_option maxRecDepth 100000 in
/-- X1_negate -/
theorem ctX1_negate (l : Launch) (D : va_G) (cs : Nat → ClassId) (ad : Nat → Nat) (I : Nat → Nat) (AN : Nat → Nat → Nat) (AI : Nat → Nat → Int32) (AL : Nat → Nat → Int64) (sz : Nat) (t : Nat) (ht : t < 4) : Met l yX1_negate (Cond.code yX1_negate cX1_negate 2 none :: GW) rmX1_negate (va_Pc [.ref (ad (t + 18))] (gP D cs (wT cs ad I AN AI AL) sz)) (va_Qv (fun u : TS => u = (I, AN, AI, lneg t AL)) (gB D cs (va_A (wT cs ad I AN AI AL) sz) (wTs cs ad)) (va_A (wT cs ad I AN AI AL) sz)) 0 0 (va_A (wT cs ad I AN AI AL) sz) := by
  refine Met.ofW (cc := cX1_negate) (maxL := 2) (ret := none) (by decide) rfl ?_
  intro p e s m args below meth c s₁ B hml hv
  obtain ⟨rfl, hsz, hP, hK, hD0, hN⟩ := hv
  have hx := B.exec
  have hb := B.bytes
  have hr := B.returns
  have hts : ∀ w ∈ GW, w.before _ s = true := fun w h => atoms_spec (ws := Cond.code yX1_negate cX1_negate 2 none :: GW) B.pre w (List.mem_cons_of_mem _ h)
  have hown : s.vm.findClass RX1 = some m.cls := findClass_of_methodNamed B.named
  have hlocks := B.notSynchronized
  subst hsz
  have hD := hD0.self (sz := s.heap.size)
  generalize hAe : va_A (wT cs ad I AN AI AL) s.heap.size = A at hD ⊢
  have hA : ∀ q : Nat, s.heap.size ≤ q → A q := fun q h => by rw [← hAe]; exact Or.inr h
  have hS : va_S A s.heap s.heap [] := va_S.rf
  have hl := lv_entry [.ref (ad (t + 18))] (n := 2) (Nat.le_of_ble_eq_true rfl)
  rw [lg_entry_eq]
  generalize (lg_sl [.ref (ad (t + 18))] ++ List.replicate (2 - (lg_sl [.ref (ad (t + 18))]).length) Slot.unset).toArray = ls at hl ⊢
  have hl : lv_has ls 2 [(0, .ref (ad (t + 18)))] := hl
  generalize hargs : ([.ref (ad (t + 18))] : List Value).toArray = args at *
  show W p l e rmX1_negate s m args below meth c s.heap [] 0 0 _ (F0 m 0 ls [])
  refine lv_iconst (v := nI 0) hx hb dX1_negate_0 (by decide) ?_
  refine lv_istore_n (lv' := [(1, .int (nI 0)), (0, .ref (ad (t + 18)))]) hx hb dX1_negate_1 rfl hl (by decide) rfl (fun ls hl => ?_)
  have lp2 : ∀ (Q : State → Prop) (n p9 : Nat) (X : Nat → Nat → Int64) (H : Heap) (locs : List Loc) (ls : Array Slot), p9 + n = 6 → va_P D vc (wT cs ad I AN AI X) H → va_D A (wT cs ad I AN AI X) → va_S A s.heap H locs → lv_has ls 2 [(1, .int (nI p9)), (0, .ref (ad (t + 18)))] → (∀ (H : Heap) (locs : List Loc) (ls : Array Slot), va_P D vc (wT cs ad I AN AI (fo (fun p X => up2 X (t + 18) p (-X (t + 18) p)) n p9 X)) H → va_D A (wT cs ad I AN AI (fo (fun p X => up2 X (t + 18) p (-X (t + 18) p)) n p9 X)) → va_S A s.heap H locs → lv_has ls 2 [(1, .int (nI 6)), (0, .ref (ad (t + 18)))] → W p l e rmX1_negate s m args below meth c H locs 0 0 Q (F0 m 21 ls [])) → W p l e rmX1_negate s m args below meth c H locs 0 0 Q (F0 m 2 ls []) := by
    intro Q n
    induction n with
    | zero =>
      intro p9 X H locs ls hn hP hD hS hl kx
      have hi : p9 = 6 := by omega
      refine lv_iload_n hx hb dX1_negate_2 rfl (lv_at hl 0 rfl) ?_
      refine lv_bipush (v := nI 6) hx hb dX1_negate_3 (by decide) ?_
      refine b_ge_t (tgt := 21) hx hb dX1_negate_5 (by decide) (by omega) (by omega) ?_
      rw [hi] at hl
      exact kx H locs ls hP hD hS (lv_sub hl [0, 1] rfl)
    | succ n ih =>
      intro p9 X H locs ls hn hP hD hS hl kx
      have hi : p9 < 6 := by omega
      refine lv_iload_n hx hb dX1_negate_2 rfl (lv_at hl 0 rfl) ?_
      refine lv_bipush (v := nI 6) hx hb dX1_negate_3 (by decide) ?_
      refine b_ge_f (tgt := 21) hx hb dX1_negate_5 (by decide) (by omega) (by omega) ?_
      refine lv_aload_n hx hb dX1_negate_8 rfl (lv_at hl 1 rfl) ?_
      refine lv_iload_n hx hb dX1_negate_9 rfl (lv_at hl 0 rfl) ?_
      refine lv_aload_n hx hb dX1_negate_10 rfl (lv_at hl 1 rfl) ?_
      refine lv_iload_n hx hb dX1_negate_11 rfl (lv_at hl 0 rfl) ?_
      refine tL_ld (i := t) hx hb hK hP (by omega) (by omega) dX1_negate_12 ?_
      refine lv_lneg hx hb dX1_negate_13 ?_
      refine tL_st (i := t) hx hb hK hP hD hS (by omega) (by omega) dX1_negate_14 (fun H locs hP hD hS => ?_)
      refine b_iinc (lv' := [(1, .int (nI (p9 + 1))), (0, .ref (ad (t + 18)))]) hx hb dX1_negate_15 hl (k := 0) rfl (by decide) rfl (fun ls hl => ?_)
      refine lv_goto (tgt := 2) hx hb dX1_negate_18 (by decide) ?_
      exact ih (p9 + 1) _ H locs ls (by omega) hP hD hS (lv_sub hl [0, 1] rfl) kx
  refine lp2 _ (6) 0 AL _ _ ls (by omega) hP hD hS (lv_sub hl [0, 1] rfl) (fun H locs ls hP hD hS hl => ?_)
  exact g_vret hx hb hr hlocks (I, AN, AI, fo (fun p X => up2 X (t + 18) p (-X (t + 18) p)) (6) 0 AL) (rfl) hK hP hD hS dX1_negate_21

abbrev rmX1_exchange : Room := { frames := 0, cells := 0, slots := 0, locals := 0 }
set_option maxHeartbeats 4000000 in
set_option maxRecDepth 100000 in
/-- X1_exchange -/
theorem ctX1_exchange (l : Launch) (D : va_G) (cs : Nat → ClassId) (ad : Nat → Nat) (I : Nat → Nat) (AN : Nat → Nat → Nat) (AI : Nat → Nat → Int32) (AL : Nat → Nat → Int64) (sz : Nat) (a b : Nat) (ha : a < 4) (hb4 : b < 4) : Met l yX1_exchange (Cond.code yX1_exchange cX1_exchange 5 none :: GW) rmX1_exchange (va_Pc [.ref (ad (a + 18)), .ref (ad (b + 18))] (gP D cs (wT cs ad I AN AI AL) sz)) (va_Qv (fun u : TS => u = (I, AN, AI, lexc a b AL)) (gB D cs (va_A (wT cs ad I AN AI AL) sz) (wTs cs ad)) (va_A (wT cs ad I AN AI AL) sz)) 0 0 (va_A (wT cs ad I AN AI AL) sz) := by
  refine Met.ofW (cc := cX1_exchange) (maxL := 5) (ret := none) (by decide) rfl ?_
  intro p e s m args below meth c s₁ B hml hv
  obtain ⟨rfl, hsz, hP, hK, hD0, hN⟩ := hv
  have hx := B.exec
  have hb := B.bytes
  have hr := B.returns
  have hts : ∀ w ∈ GW, w.before _ s = true := fun w h => atoms_spec (ws := Cond.code yX1_exchange cX1_exchange 5 none :: GW) B.pre w (List.mem_cons_of_mem _ h)
  have hown : s.vm.findClass RX1 = some m.cls := findClass_of_methodNamed B.named
  have hlocks := B.notSynchronized
  subst hsz
  have hD := hD0.self (sz := s.heap.size)
  generalize hAe : va_A (wT cs ad I AN AI AL) s.heap.size = A at hD ⊢
  have hA : ∀ q : Nat, s.heap.size ≤ q → A q := fun q h => by rw [← hAe]; exact Or.inr h
  have hS : va_S A s.heap s.heap [] := va_S.rf
  have hl := lv_entry [.ref (ad (a + 18)), .ref (ad (b + 18))] (n := 5) (Nat.le_of_ble_eq_true rfl)
  rw [lg_entry_eq]
  generalize (lg_sl [.ref (ad (a + 18)), .ref (ad (b + 18))] ++ List.replicate (5 - (lg_sl [.ref (ad (a + 18)), .ref (ad (b + 18))]).length) Slot.unset).toArray = ls at hl ⊢
  have hl : lv_has ls 5 [(0, .ref (ad (a + 18))), (1, .ref (ad (b + 18)))] := hl
  generalize hargs : ([.ref (ad (a + 18)), .ref (ad (b + 18))] : List Value).toArray = args at *
  show W p l e rmX1_exchange s m args below meth c s.heap [] 0 0 _ (F0 m 0 ls [])
  refine lv_iconst (v := nI 0) hx hb dX1_exchange_0 (by decide) ?_
  refine lv_istore_n (lv' := [(2, .int (nI 0)), (0, .ref (ad (a + 18))), (1, .ref (ad (b + 18)))]) hx hb dX1_exchange_1 rfl hl (by decide) rfl (fun ls hl => ?_)
  have lp2 : ∀ (Q : State → Prop) (n p9 : Nat) (X : Nat → Nat → Int64) (H : Heap) (locs : List Loc) (ls : Array Slot), p9 + n = 6 → va_P D vc (wT cs ad I AN AI X) H → va_D A (wT cs ad I AN AI X) → va_S A s.heap H locs → lv_has ls 5 [(2, .int (nI p9)), (0, .ref (ad (a + 18))), (1, .ref (ad (b + 18)))] → (∀ (H : Heap) (locs : List Loc) (ls : Array Slot), va_P D vc (wT cs ad I AN AI (fo (fun p X => up2 (up2 X (a + 18) p (X (b + 18) p)) (b + 18) p (X (a + 18) p)) n p9 X)) H → va_D A (wT cs ad I AN AI (fo (fun p X => up2 (up2 X (a + 18) p (X (b + 18) p)) (b + 18) p (X (a + 18) p)) n p9 X)) → va_S A s.heap H locs → lv_has ls 5 [(2, .int (nI 6)), (0, .ref (ad (a + 18))), (1, .ref (ad (b + 18)))] → W p l e rmX1_exchange s m args below meth c H locs 0 0 Q (F0 m 28 ls [])) → W p l e rmX1_exchange s m args below meth c H locs 0 0 Q (F0 m 2 ls []) := by
    intro Q n
    induction n with
    | zero =>
      intro p9 X H locs ls hn hP hD hS hl kx
      have hi : p9 = 6 := by omega
      refine lv_iload_n hx hb dX1_exchange_2 rfl (lv_at hl 0 rfl) ?_
      refine lv_bipush (v := nI 6) hx hb dX1_exchange_3 (by decide) ?_
      refine b_ge_t (tgt := 28) hx hb dX1_exchange_5 (by decide) (by omega) (by omega) ?_
      rw [hi] at hl
      exact kx H locs ls hP hD hS (lv_sub hl [0, 1, 2] rfl)
    | succ n ih =>
      intro p9 X H locs ls hn hP hD hS hl kx
      have hi : p9 < 6 := by omega
      refine lv_iload_n hx hb dX1_exchange_2 rfl (lv_at hl 0 rfl) ?_
      refine lv_bipush (v := nI 6) hx hb dX1_exchange_3 (by decide) ?_
      refine b_ge_f (tgt := 28) hx hb dX1_exchange_5 (by decide) (by omega) (by omega) ?_
      refine lv_aload_n hx hb dX1_exchange_8 rfl (lv_at hl 1 rfl) ?_
      refine lv_iload_n hx hb dX1_exchange_9 rfl (lv_at hl 0 rfl) ?_
      refine tL_ld (i := a) hx hb hK hP (by omega) (by omega) dX1_exchange_10 ?_
      refine lv_lstore_n (lv' := [(3, .long (X (a + 18) p9)), (2, .int (nI p9)), (0, .ref (ad (a + 18))), (1, .ref (ad (b + 18)))]) hx hb dX1_exchange_11 rfl hl (by decide) rfl (fun ls hl => ?_)
      refine lv_aload_n hx hb dX1_exchange_12 rfl (lv_at hl 2 rfl) ?_
      refine lv_iload_n hx hb dX1_exchange_13 rfl (lv_at hl 1 rfl) ?_
      refine lv_aload_n hx hb dX1_exchange_14 rfl (lv_at hl 3 rfl) ?_
      refine lv_iload_n hx hb dX1_exchange_15 rfl (lv_at hl 1 rfl) ?_
      refine tL_ld (i := b) hx hb hK hP (by omega) (by omega) dX1_exchange_16 ?_
      refine tL_st (i := a) hx hb hK hP hD hS (by omega) (by omega) dX1_exchange_17 (fun H locs hP hD hS => ?_)
      refine lv_aload_n hx hb dX1_exchange_18 rfl (lv_at hl 3 rfl) ?_
      refine lv_iload_n hx hb dX1_exchange_19 rfl (lv_at hl 1 rfl) ?_
      refine lv_lload_n hx hb dX1_exchange_20 rfl (lv_at hl 0 rfl) ?_
      refine tL_st (i := b) hx hb hK hP hD hS (by omega) (by omega) dX1_exchange_21 (fun H locs hP hD hS => ?_)
      refine b_iinc (lv' := [(2, .int (nI (p9 + 1))), (3, .long (X (a + 18) p9)), (0, .ref (ad (a + 18))), (1, .ref (ad (b + 18)))]) hx hb dX1_exchange_22 hl (k := 1) rfl (by decide) rfl (fun ls hl => ?_)
      refine lv_goto (tgt := 2) hx hb dX1_exchange_25 (by decide) ?_
      exact ih (p9 + 1) _ H locs ls (by omega) hP hD hS (lv_sub hl [0, 2, 3] rfl) kx
  refine lp2 _ (6) 0 AL _ _ ls (by omega) hP hD hS (lv_sub hl [0, 1, 2] rfl) (fun H locs ls hP hD hS hl => ?_)
  exact g_vret hx hb hr hlocks (I, AN, AI, fo (fun p X => up2 (up2 X (a + 18) p (X (b + 18) p)) (b + 18) p (X (a + 18) p)) (6) 0 AL) (rfl) hK hP hD hS dX1_exchange_28

abbrev rmX1_subtract : Room := { frames := 0, cells := 0, slots := 0, locals := 0 }
set_option maxHeartbeats 4000000 in
set_option maxRecDepth 100000 in
/-- X1_subtract -/
theorem ctX1_subtract (l : Launch) (D : va_G) (cs : Nat → ClassId) (ad : Nat → Nat) (I : Nat → Nat) (AN : Nat → Nat → Nat) (AI : Nat → Nat → Int32) (AL : Nat → Nat → Int64) (sz : Nat) (a b : Nat) (z : Int64) (ha : a < 4) (hb4 : b < 4) : Met l yX1_subtract (Cond.code yX1_subtract cX1_subtract 5 none :: GW) rmX1_subtract (va_Pc [.ref (ad (a + 18)), .ref (ad (b + 18)), .long z] (gP D cs (wT cs ad I AN AI AL) sz)) (va_Qv (fun u : TS => u = (I, AN, AI, lsbt a b z AL)) (gB D cs (va_A (wT cs ad I AN AI AL) sz) (wTs cs ad)) (va_A (wT cs ad I AN AI AL) sz)) 0 0 (va_A (wT cs ad I AN AI AL) sz) := by
  refine Met.ofW (cc := cX1_subtract) (maxL := 5) (ret := none) (by decide) rfl ?_
  intro p e s m args below meth c s₁ B hml hv
  obtain ⟨rfl, hsz, hP, hK, hD0, hN⟩ := hv
  have hx := B.exec
  have hb := B.bytes
  have hr := B.returns
  have hts : ∀ w ∈ GW, w.before _ s = true := fun w h => atoms_spec (ws := Cond.code yX1_subtract cX1_subtract 5 none :: GW) B.pre w (List.mem_cons_of_mem _ h)
  have hown : s.vm.findClass RX1 = some m.cls := findClass_of_methodNamed B.named
  have hlocks := B.notSynchronized
  subst hsz
  have hD := hD0.self (sz := s.heap.size)
  generalize hAe : va_A (wT cs ad I AN AI AL) s.heap.size = A at hD ⊢
  have hA : ∀ q : Nat, s.heap.size ≤ q → A q := fun q h => by rw [← hAe]; exact Or.inr h
  have hS : va_S A s.heap s.heap [] := va_S.rf
  have hl := lv_entry [.ref (ad (a + 18)), .ref (ad (b + 18)), .long z] (n := 5) (Nat.le_of_ble_eq_true rfl)
  rw [lg_entry_eq]
  generalize (lg_sl [.ref (ad (a + 18)), .ref (ad (b + 18)), .long z] ++ List.replicate (5 - (lg_sl [.ref (ad (a + 18)), .ref (ad (b + 18)), .long z]).length) Slot.unset).toArray = ls at hl ⊢
  have hl : lv_has ls 5 [(0, .ref (ad (a + 18))), (1, .ref (ad (b + 18))), (2, .long z)] := hl
  generalize hargs : ([.ref (ad (a + 18)), .ref (ad (b + 18)), .long z] : List Value).toArray = args at *
  show W p l e rmX1_subtract s m args below meth c s.heap [] 0 0 _ (F0 m 0 ls [])
  refine lv_iconst (v := nI 0) hx hb dX1_subtract_0 (by decide) ?_
  refine lv_istore (lv' := [(4, .int (nI 0)), (0, .ref (ad (a + 18))), (1, .ref (ad (b + 18))), (2, .long z)]) hx hb dX1_subtract_1 hl (by decide) rfl (fun ls hl => ?_)
  have lp3 : ∀ (Q : State → Prop) (n p9 : Nat) (X : Nat → Nat → Int64) (H : Heap) (locs : List Loc) (ls : Array Slot), p9 + n = 6 → va_P D vc (wT cs ad I AN AI X) H → va_D A (wT cs ad I AN AI X) → va_S A s.heap H locs → lv_has ls 5 [(4, .int (nI p9)), (0, .ref (ad (a + 18))), (1, .ref (ad (b + 18))), (2, .long z)] → (∀ (H : Heap) (locs : List Loc) (ls : Array Slot), va_P D vc (wT cs ad I AN AI (fo (fun p X => up2 X (a + 18) p (X (a + 18) p - z * X (b + 18) p)) n p9 X)) H → va_D A (wT cs ad I AN AI (fo (fun p X => up2 X (a + 18) p (X (a + 18) p - z * X (b + 18) p)) n p9 X)) → va_S A s.heap H locs → lv_has ls 5 [(4, .int (nI 6)), (0, .ref (ad (a + 18))), (1, .ref (ad (b + 18))), (2, .long z)] → W p l e rmX1_subtract s m args below meth c H locs 0 0 Q (F0 m 29 ls [])) → W p l e rmX1_subtract s m args below meth c H locs 0 0 Q (F0 m 3 ls []) := by
    intro Q n
    induction n with
    | zero =>
      intro p9 X H locs ls hn hP hD hS hl kx
      have hi : p9 = 6 := by omega
      refine lv_iload hx hb dX1_subtract_3 (lv_at hl 0 rfl) ?_
      refine lv_bipush (v := nI 6) hx hb dX1_subtract_5 (by decide) ?_
      refine b_ge_t (tgt := 29) hx hb dX1_subtract_7 (by decide) (by omega) (by omega) ?_
      rw [hi] at hl
      exact kx H locs ls hP hD hS (lv_sub hl [0, 1, 2, 3] rfl)
    | succ n ih =>
      intro p9 X H locs ls hn hP hD hS hl kx
      have hi : p9 < 6 := by omega
      refine lv_iload hx hb dX1_subtract_3 (lv_at hl 0 rfl) ?_
      refine lv_bipush (v := nI 6) hx hb dX1_subtract_5 (by decide) ?_
      refine b_ge_f (tgt := 29) hx hb dX1_subtract_7 (by decide) (by omega) (by omega) ?_
      refine lv_aload_n hx hb dX1_subtract_10 rfl (lv_at hl 1 rfl) ?_
      refine lv_iload hx hb dX1_subtract_11 (lv_at hl 0 rfl) ?_
      refine lv_dup2_11 hx hb dX1_subtract_13 rfl rfl ?_
      refine tL_ld (i := a) hx hb hK hP (by omega) (by omega) dX1_subtract_14 ?_
      refine lv_lload_n hx hb dX1_subtract_15 rfl (lv_at hl 3 rfl) ?_
      refine lv_aload_n hx hb dX1_subtract_16 rfl (lv_at hl 2 rfl) ?_
      refine lv_iload hx hb dX1_subtract_17 (lv_at hl 0 rfl) ?_
      refine tL_ld (i := b) hx hb hK hP (by omega) (by omega) dX1_subtract_19 ?_
      refine lv_lmul hx hb dX1_subtract_20 ?_
      refine lv_lsub hx hb dX1_subtract_21 ?_
      refine tL_st (i := a) hx hb hK hP hD hS (by omega) (by omega) dX1_subtract_22 (fun H locs hP hD hS => ?_)
      refine b_iinc (lv' := [(4, .int (nI (p9 + 1))), (0, .ref (ad (a + 18))), (1, .ref (ad (b + 18))), (2, .long z)]) hx hb dX1_subtract_23 hl (k := 0) rfl (by decide) rfl (fun ls hl => ?_)
      refine lv_goto (tgt := 3) hx hb dX1_subtract_26 (by decide) ?_
      exact ih (p9 + 1) _ H locs ls (by omega) hP hD hS (lv_sub hl [0, 1, 2, 3] rfl) kx
  refine lp3 _ (6) 0 AL _ _ ls (by omega) hP hD hS (lv_sub hl [0, 1, 2, 3] rfl) (fun H locs ls hP hD hS hl => ?_)
  exact g_vret hx hb hr hlocks (I, AN, AI, fo (fun p X => up2 X (a + 18) p (X (a + 18) p - z * X (b + 18) p)) (6) 0 AL) (rfl) hK hP hD hS dX1_subtract_29

abbrev rmX1_divideInTurn : Room := { frames := 1, cells := 0, slots := 0, locals := 24 }
set_option maxHeartbeats 4000000 in
set_option maxRecDepth 100000 in
/-- divideInTurn -/
theorem ctX1_divideInTurn (l : Launch) (D : va_G) (cs : Nat → ClassId) (ad : Nat → Nat) (I : Nat → Nat) (AN : Nat → Nat → Nat) (AI : Nat → Nat → Int32) (AL : Nat → Nat → Int64) (sz : Nat) (a b q : Nat) (ha : a < 4) (hb4 : b < 4) (hq : q < 6) : Met l yX1_divideInTurn (Cond.code yX1_divideInTurn cX1_divideInTurn 4 none :: GW) rmX1_divideInTurn (va_Pc [.ref (ad (a + 18)), .ref (ad (b + 18)), .int (nI q)] (gP D cs (wT cs ad I AN AI AL) sz)) (va_Qv (fun u : TS => u = (I, AN, AI, ldit a b q 100 AL)) (gB D cs (va_A (wT cs ad I AN AI AL) sz) (wTs cs ad)) (va_A (wT cs ad I AN AI AL) sz)) 0 0 (va_A (wT cs ad I AN AI AL) sz) := by
  refine Met.ofW (cc := cX1_divideInTurn) (maxL := 4) (ret := none) (by decide) rfl ?_
  intro p e s m args below meth c s₁ B hml hv
  obtain ⟨rfl, hsz, hP, hK, hD0, hN⟩ := hv
  have hx := B.exec
  have hb := B.bytes
  have hr := B.returns
  have hts : ∀ w ∈ GW, w.before _ s = true := fun w h => atoms_spec (ws := Cond.code yX1_divideInTurn cX1_divideInTurn 4 none :: GW) B.pre w (List.mem_cons_of_mem _ h)
  have hown : s.vm.findClass RX1 = some m.cls := findClass_of_methodNamed B.named
  have hlocks := B.notSynchronized
  subst hsz
  have hD := hD0.self (sz := s.heap.size)
  generalize hAe : va_A (wT cs ad I AN AI AL) s.heap.size = A at hD ⊢
  have hA : ∀ q : Nat, s.heap.size ≤ q → A q := fun q h => by rw [← hAe]; exact Or.inr h
  have hS : va_S A s.heap s.heap [] := va_S.rf
  have hl := lv_entry [.ref (ad (a + 18)), .ref (ad (b + 18)), .int (nI q)] (n := 4) (Nat.le_of_ble_eq_true rfl)
  rw [lg_entry_eq]
  generalize (lg_sl [.ref (ad (a + 18)), .ref (ad (b + 18)), .int (nI q)] ++ List.replicate (4 - (lg_sl [.ref (ad (a + 18)), .ref (ad (b + 18)), .int (nI q)]).length) Slot.unset).toArray = ls at hl ⊢
  have hl : lv_has ls 4 [(0, .ref (ad (a + 18))), (1, .ref (ad (b + 18))), (2, .int (nI q))] := hl
  generalize hargs : ([.ref (ad (a + 18)), .ref (ad (b + 18)), .int (nI q)] : List Value).toArray = args at *
  show W p l e rmX1_divideInTurn s m args below meth c s.heap [] 0 0 _ (F0 m 0 ls [])
  refine lv_iconst (v := nI 0) hx hb dX1_divideInTurn_0 (by decide) ?_
  refine lv_istore_n (lv' := [(3, .int (nI 0)), (0, .ref (ad (a + 18))), (1, .ref (ad (b + 18))), (2, .int (nI q))]) hx hb dX1_divideInTurn_1 rfl hl (by decide) rfl (fun ls hl => ?_)
  have lp2 : ∀ (n k : Nat) (X : Nat → Nat → Int64) (H : Heap) (locs : List Loc) (ls : Array Slot), k + n = 100 → va_P D vc (wT cs ad I AN AI X) H → va_D A (wT cs ad I AN AI X) → va_S A s.heap H locs → lv_has ls 4 [(3, .int (nI k)), (0, .ref (ad (a + 18))), (1, .ref (ad (b + 18))), (2, .int (nI q))] → W p l e rmX1_divideInTurn s m args below meth c H locs 0 0 (MQ below (va_Qv (fun u : TS => u = (I, AN, AI, ldit a b q n X)) (gB D cs A (wTs cs ad)) A) args s 0 0 A) (F0 m 2 ls []) := by
    intro n
    induction n with
    | zero =>
      intro k X H locs ls hn hP hD hS hl
      refine lv_iload_n hx hb dX1_divideInTurn_2 rfl (lv_at hl 0 rfl) ?_
      refine lv_bipush (v := nI 100) hx hb dX1_divideInTurn_3 (by decide) ?_
      refine b_ge_t (tgt := 39) hx hb dX1_divideInTurn_5 (by decide) (by omega) (by omega) ?_
      exact g_vret hx hb hr hlocks (I, AN, AI, X) (rfl) hK hP hD hS dX1_divideInTurn_39
    | succ n ih =>
      intro k X H locs ls hn hP hD hS hl
      refine lv_iload_n hx hb dX1_divideInTurn_2 rfl (lv_at hl 0 rfl) ?_
      refine lv_bipush (v := nI 100) hx hb dX1_divideInTurn_3 (by decide) ?_
      refine b_ge_f (tgt := 39) hx hb dX1_divideInTurn_5 (by decide) (by omega) (by omega) ?_
      refine lv_aload_n hx hb dX1_divideInTurn_8 rfl (lv_at hl 2 rfl) ?_
      refine lv_iload_n hx hb dX1_divideInTurn_9 rfl (lv_at hl 3 rfl) ?_
      refine tL_ld (i := b) hx hb hK hP (by omega) (by omega) dX1_divideInTurn_10 ?_
      refine lv_lconst (v := 0) hx hb dX1_divideInTurn_11 (by decide) ?_
      refine b_lceq (tgt := 39) hx hb dX1_divideInTurn_12 dX1_divideInTurn_13 (by decide) (fun h => ?_) (fun h => ?_)
      · exact g_vret hx hb hr hlocks (I, AN, AI, X) (by rw [ldit, if_pos h]) hK hP hD hS dX1_divideInTurn_39
      · refine lv_aload_n hx hb dX1_divideInTurn_16 rfl (lv_at hl 1 rfl) ?_
        refine lv_aload_n hx hb dX1_divideInTurn_17 rfl (lv_at hl 2 rfl) ?_
        refine lv_aload_n hx hb dX1_divideInTurn_18 rfl (lv_at hl 1 rfl) ?_
        refine lv_iload_n hx hb dX1_divideInTurn_19 rfl (lv_at hl 3 rfl) ?_
        refine tL_ld (i := a) hx hb hK hP (by omega) (by omega) dX1_divideInTurn_20 ?_
        refine lv_aload_n hx hb dX1_divideInTurn_21 rfl (lv_at hl 2 rfl) ?_
        refine lv_iload_n hx hb dX1_divideInTurn_22 rfl (lv_at hl 3 rfl) ?_
        refine tL_ld (i := b) hx hb hK hP (by omega) (by omega) dX1_divideInTurn_23 ?_
        refine lv_ldiv hx hb dX1_divideInTurn_24 (h) ?_
        refine g_callv (va_runS (As := [.ref (ad (a + 18)), .ref (ad (b + 18)), .long ((X (a + 18) q) / (X (b + 18) q))]) (rest := []) ⟨hx, hb, hml, hown, hts⟩ (ctX1_subtract l D cs ad I AN AI X _ a b ((X (a + 18) q) / (X (b + 18) q)) ha hb4) (va_cwS 3 hts (gi_S gw_235 gw_236 gw_56 gw_237) rfl rfl rfl (by decide +kernel) ⟨Nat.le_of_ble_eq_true rfl, Nat.le_of_ble_eq_true rfl⟩) ⟨g_blind, g_pre hP hK hD hN⟩ rfl rfl hl.1 rfl (lv_room (Nat.le_of_ble_eq_true rfl)) dX1_divideInTurn_25 ⟨Nat.zero_le _, Nat.zero_le _⟩) hD hS hA (fun u H locs hw hP hD hS => ?_)
        obtain rfl := hw
        have hP : va_P D vc (wT cs ad I AN AI (lsbt a b ((X (a + 18) q) / (X (b + 18) q)) X)) H := hP
        have hD : va_D A (wT cs ad I AN AI (lsbt a b ((X (a + 18) q) / (X (b + 18) q)) X)) := hD
        refine lv_aload_n hx hb dX1_divideInTurn_28 rfl (lv_at hl 1 rfl) ?_
        refine lv_aload_n hx hb dX1_divideInTurn_29 rfl (lv_at hl 2 rfl) ?_
        refine g_callv (va_runS (As := [.ref (ad (a + 18)), .ref (ad (b + 18))]) (rest := []) ⟨hx, hb, hml, hown, hts⟩ (ctX1_exchange l D cs ad I AN AI (lsbt a b ((X (a + 18) q) / (X (b + 18) q)) X) _ a b ha hb4) (va_cwS 2 hts (gi_S gw_238 gw_239 gw_56 gw_240) rfl rfl rfl (by decide +kernel) ⟨Nat.le_of_ble_eq_true rfl, Nat.le_of_ble_eq_true rfl⟩) ⟨g_blind, g_pre hP hK hD hN⟩ rfl rfl hl.1 rfl (lv_room (Nat.le_of_ble_eq_true rfl)) dX1_divideInTurn_30 ⟨Nat.zero_le _, Nat.zero_le _⟩) hD hS hA (fun u H locs hw hP hD hS => ?_)
        obtain rfl := hw
        have hP : va_P D vc (wT cs ad I AN AI (lexc a b (lsbt a b ((X (a + 18) q) / (X (b + 18) q)) X))) H := hP
        have hD : va_D A (wT cs ad I AN AI (lexc a b (lsbt a b ((X (a + 18) q) / (X (b + 18) q)) X))) := hD
        refine b_iinc (lv' := [(3, .int (nI (k + 1))), (0, .ref (ad (a + 18))), (1, .ref (ad (b + 18))), (2, .int (nI q))]) hx hb dX1_divideInTurn_33 hl (k := 0) rfl (by decide) rfl (fun ls hl => ?_)
        refine lv_goto (tgt := 2) hx hb dX1_divideInTurn_36 (by decide) ?_
        rw [show ldit a b q (n + 1) X = ldit a b q n (lexc a b (lsbt a b (X (a + 18) q / X (b + 18) q) X)) from if_neg h]
        exact ih (k + 1) _ H locs ls (by omega) hP hD hS (lv_sub hl [0, 1, 2, 3] rfl)
  exact lp2 100 0 AL _ _ ls (by omega) hP hD hS (lv_sub hl [0, 1, 2, 3] rfl)

/-- the rows of the lattice at the start -/
def lbeg (h : Nat) (AL : Nat → Nat → Int64) : Nat → Nat → Int64 := fo (fun p X => fo (fun r Y => up2 Y (r + 18) p (if p = 3 + r then 1 else 0)) h 0 (up2 X 21 p 0)) 6 0 AL

abbrev rmX1_begin : Room := { frames := 1, cells := 0, slots := 0, locals := 21 }
set_option maxHeartbeats 4000000 in
set_option maxRecDepth 100000 in
/-- begin -/
theorem ctX1_begin (l : Launch) (D : va_G) (cs : Nat → ClassId) (ad : Nat → Nat) (I : Nat → Nat) (AN : Nat → Nat → Nat) (AI : Nat → Nat → Int32) (AL : Nat → Nat → Int64) (sz : Nat) (a : Nat) (ha : a ≤ 3) : Met l yX1_begin (Cond.code yX1_begin cX1_begin 4 none :: GW) rmX1_begin (va_Pc [.ref (ad 3), .int (nI a)] (gP D cs (wT cs ad I AN AI AL) sz)) (va_Qv (fun u : TS => u = (up1 I 5 a, AN, AI, lbeg a AL)) (gB D cs (va_A (wT cs ad I AN AI AL) sz) (wTs cs ad)) (va_A (wT cs ad I AN AI AL) sz)) 0 0 (va_A (wT cs ad I AN AI AL) sz) := by
  refine Met.ofW (cc := cX1_begin) (maxL := 4) (ret := none) (by decide) rfl ?_
  intro p e s m args below meth c s₁ B hml hv
  obtain ⟨rfl, hsz, hP, hK, hD0, hN⟩ := hv
  have hx := B.exec
  have hb := B.bytes
  have hr := B.returns
  have hts : ∀ w ∈ GW, w.before _ s = true := fun w h => atoms_spec (ws := Cond.code yX1_begin cX1_begin 4 none :: GW) B.pre w (List.mem_cons_of_mem _ h)
  have hown : s.vm.findClass RX1 = some m.cls := findClass_of_methodNamed B.named
  have hlocks := B.notSynchronized
  subst hsz
  have hD := hD0.self (sz := s.heap.size)
  generalize hAe : va_A (wT cs ad I AN AI AL) s.heap.size = A at hD ⊢
  have hA : ∀ q : Nat, s.heap.size ≤ q → A q := fun q h => by rw [← hAe]; exact Or.inr h
  have hS : va_S A s.heap s.heap [] := va_S.rf
  have hl := lv_entry [.ref (ad 3), .int (nI a)] (n := 4) (Nat.le_of_ble_eq_true rfl)
  rw [lg_entry_eq]
  generalize (lg_sl [.ref (ad 3), .int (nI a)] ++ List.replicate (4 - (lg_sl [.ref (ad 3), .int (nI a)]).length) Slot.unset).toArray = ls at hl ⊢
  have hl : lv_has ls 4 [(0, .ref (ad 3)), (1, .int (nI a))] := hl
  generalize hargs : ([.ref (ad 3), .int (nI a)] : List Value).toArray = args at *
  show W p l e rmX1_begin s m args below meth c s.heap [] 0 0 _ (F0 m 0 ls [])
  refine lv_aload_n hx hb dX1_begin_0 rfl (lv_at hl 0 rfl) ?_
  refine lv_iconst (v := nI 0) hx hb dX1_begin_1 (by decide) ?_
  refine lv_iconst (v := nI 3) hx hb dX1_begin_2 (by decide) ?_
  refine lv_iload_n hx hb dX1_begin_3 rfl (lv_at hl 1 rfl) ?_
  refine va_mmin hx hb (by rw [hml]; exact hl.1.symm) hown (hts _ gw_222) (hts _ gw_73) (hts _ gw_54) (hts _ gw_74) (Nat.le_of_ble_eq_true rfl) (Nat.le_of_ble_eq_true rfl) (Nat.zero_le _) (Nat.zero_le _) dX1_begin_4 ?_
  rw [mn_r (by omega) (by decide)]
  refine va_mmax hx hb (by rw [hml]; exact hl.1.symm) hown (hts _ gw_223) (hts _ gw_76) (hts _ gw_54) (hts _ gw_77) (Nat.le_of_ble_eq_true rfl) (Nat.le_of_ble_eq_true rfl) (Nat.zero_le _) (Nat.zero_le _) dX1_begin_7 ?_
  rw [mx_r (by omega)]
  refine b_put (own := RX1) (C := RX1) (T := TX1) (N := 4) (ci := 1) (v := .int (nI a)) hx hb hts usX1 tyX1 tyX1_ok nmX1 hown hK hP hD hS 3 (by decide) rfl rfl 3 (by decide) (hts _ gw_120) rfl rfl rfl (Nat.le_of_ble_eq_true rfl) dX1_begin_10 sT_lh (fun H locs hP hD hS => ?_)
  refine lv_iconst (v := nI 0) hx hb dX1_begin_13 (by decide) ?_
  refine lv_istore_n (lv' := [(2, .int (nI 0)), (0, .ref (ad 3)), (1, .int (nI a))]) hx hb dX1_begin_14 rfl hl (by decide) rfl (fun ls hl => ?_)
  have lp15 : ∀ (Q : State → Prop) (n p9 : Nat) (X : Nat → Nat → Int64) (H : Heap) (locs : List Loc) (ls : Array Slot), p9 + n = 6 → va_P D vc (wT cs ad (up1 I 5 a) AN AI X) H → va_D A (wT cs ad (up1 I 5 a) AN AI X) → va_S A s.heap H locs → lv_has ls 4 [(2, .int (nI p9)), (0, .ref (ad 3)), (1, .int (nI a))] → (∀ (H : Heap) (locs : List Loc) (ls : Array Slot), va_P D vc (wT cs ad (up1 I 5 a) AN AI (fo (fun p X => fo (fun r Y => up2 Y (r + 18) p (if p = 3 + r then 1 else 0)) a 0 (up2 X (3 + 18) p 0)) n p9 X)) H → va_D A (wT cs ad (up1 I 5 a) AN AI (fo (fun p X => fo (fun r Y => up2 Y (r + 18) p (if p = 3 + r then 1 else 0)) a 0 (up2 X (3 + 18) p 0)) n p9 X)) → va_S A s.heap H locs → lv_has ls 4 [(2, .int (nI 6)), (0, .ref (ad 3)), (1, .int (nI a))] → W p l e rmX1_begin s m args below meth c H locs 0 0 Q (F0 m 70 ls [])) → W p l e rmX1_begin s m args below meth c H locs 0 0 Q (F0 m 15 ls []) := by
    intro Q n
    induction n with
    | zero =>
      intro p9 X H locs ls hn hP hD hS hl kx
      have hi : p9 = 6 := by omega
      refine lv_iload_n hx hb dX1_begin_15 rfl (lv_at hl 0 rfl) ?_
      refine lv_bipush (v := nI 6) hx hb dX1_begin_16 (by decide) ?_
      refine b_ge_t (tgt := 70) hx hb dX1_begin_18 (by decide) (by omega) (by omega) ?_
      rw [hi] at hl
      exact kx H locs ls hP hD hS (lv_sub hl [0, 1, 2] rfl)
    | succ n ih =>
      intro p9 X H locs ls hn hP hD hS hl kx
      have hi : p9 < 6 := by omega
      refine lv_iload_n hx hb dX1_begin_15 rfl (lv_at hl 0 rfl) ?_
      refine lv_bipush (v := nI 6) hx hb dX1_begin_16 (by decide) ?_
      refine b_ge_f (tgt := 70) hx hb dX1_begin_18 (by decide) (by omega) (by omega) ?_
      refine lv_aload_n hx hb dX1_begin_21 rfl (lv_at hl 1 rfl) ?_
      refine b_get (own := RX1) (C := RX1) (T := TX1) (N := 4) (ci := 1) (v := .ref (ad 21)) hx hb hts usX1 hown hK hP 3 (by decide) rfl rfl 2 (by decide) (hts _ gw_118) rfl dX1_begin_22 ?_
      refine lv_iload_n hx hb dX1_begin_25 rfl (lv_at hl 0 rfl) ?_
      refine lv_lconst (v := 0) hx hb dX1_begin_26 (by decide) ?_
      refine tL_st (i := 3) hx hb hK hP hD hS (by omega) (by omega) dX1_begin_27 (fun H locs hP hD hS => ?_)
      refine lv_iconst (v := nI 0) hx hb dX1_begin_28 (by decide) ?_
      refine lv_istore_n (lv' := [(3, .int (nI 0)), (2, .int (nI p9)), (0, .ref (ad 3)), (1, .int (nI a))]) hx hb dX1_begin_29 rfl hl (by decide) rfl (fun ls hl => ?_)
      have lp30 : ∀ (Q : State → Prop) (n r9 : Nat) (Y : Nat → Nat → Int64) (H : Heap) (locs : List Loc) (ls : Array Slot), r9 + n = a → va_P D vc (wT cs ad (up1 I 5 a) AN AI Y) H → va_D A (wT cs ad (up1 I 5 a) AN AI Y) → va_S A s.heap H locs → lv_has ls 4 [(3, .int (nI r9)), (2, .int (nI p9)), (0, .ref (ad 3)), (1, .int (nI a))] → (∀ (H : Heap) (locs : List Loc) (ls : Array Slot), va_P D vc (wT cs ad (up1 I 5 a) AN AI (fo (fun r Y => up2 Y (r + 18) p9 (if p9 = 3 + r then 1 else 0)) n r9 Y)) H → va_D A (wT cs ad (up1 I 5 a) AN AI (fo (fun r Y => up2 Y (r + 18) p9 (if p9 = 3 + r then 1 else 0)) n r9 Y)) → va_S A s.heap H locs → lv_has ls 4 [(3, .int (nI a)), (2, .int (nI p9)), (0, .ref (ad 3)), (1, .int (nI a))] → W p l e rmX1_begin s m args below meth c H locs 0 0 Q (F0 m 64 ls [])) → W p l e rmX1_begin s m args below meth c H locs 0 0 Q (F0 m 30 ls []) := by
        intro Q n
        induction n with
        | zero =>
          intro r9 Y H locs ls hn hP hD hS hl kx
          have hi : r9 = a := by omega
          refine lv_iload_n hx hb dX1_begin_30 rfl (lv_at hl 0 rfl) ?_
          refine lv_aload_n hx hb dX1_begin_31 rfl (lv_at hl 2 rfl) ?_
          refine b_get (own := RX1) (C := RX1) (T := TX1) (N := 4) (ci := 1) (v := .int (nI a)) hx hb hts usX1 hown hK hP 3 (by decide) rfl rfl 3 (by decide) (hts _ gw_120) rfl dX1_begin_32 ?_
          refine b_ge_t (tgt := 64) hx hb dX1_begin_35 (by decide) (by omega) (by omega) ?_
          rw [hi] at hl
          exact kx H locs ls hP hD hS (lv_sub hl [0, 1, 2, 3] rfl)
        | succ n ih =>
          intro r9 Y H locs ls hn hP hD hS hl kx
          have hi : r9 < a := by omega
          refine lv_iload_n hx hb dX1_begin_30 rfl (lv_at hl 0 rfl) ?_
          refine lv_aload_n hx hb dX1_begin_31 rfl (lv_at hl 2 rfl) ?_
          refine b_get (own := RX1) (C := RX1) (T := TX1) (N := 4) (ci := 1) (v := .int (nI a)) hx hb hts usX1 hown hK hP 3 (by decide) rfl rfl 3 (by decide) (hts _ gw_120) rfl dX1_begin_32 ?_
          refine b_ge_f (tgt := 64) hx hb dX1_begin_35 (by decide) (by omega) (by omega) ?_
          refine lv_aload_n hx hb dX1_begin_38 rfl (lv_at hl 2 rfl) ?_
          refine b_get (own := RX1) (C := RX1) (T := TX1) (N := 4) (ci := 1) (v := .ref (ad 6)) hx hb hts usX1 hown hK hP 3 (by decide) rfl rfl 0 (by decide) (hts _ gw_115) rfl dX1_begin_39 ?_
          refine lv_iload_n hx hb dX1_begin_42 rfl (lv_at hl 0 rfl) ?_
          refine tL_r hx hb hK hP (by omega) dX1_begin_43 ?_
          refine lv_iload_n hx hb dX1_begin_44 rfl (lv_at hl 1 rfl) ?_
          refine lv_iload_n hx hb dX1_begin_45 rfl (lv_at hl 1 rfl) ?_
          refine lv_iconst (v := nI 3) hx hb dX1_begin_46 (by decide) ?_
          refine lv_iload_n hx hb dX1_begin_47 rfl (lv_at hl 0 rfl) ?_
          refine b_addn hx hb dX1_begin_48 ?_
          by_cases hpr : p9 = 3 + r9
          · refine b_ne_f (tgt := 56) hx hb dX1_begin_49 (by decide) (hpr)  ?_
            refine lv_lconst (v := 1) hx hb dX1_begin_52 (by decide) ?_
            refine lv_goto (tgt := 57) hx hb dX1_begin_53 (by decide) ?_
            refine tL_st (i := r9) hx hb hK hP hD hS (by omega) (by omega) dX1_begin_57 (fun H locs hP hD hS => ?_)
            refine b_iinc (lv' := [(3, .int (nI (r9 + 1))), (2, .int (nI p9)), (0, .ref (ad 3)), (1, .int (nI a))]) hx hb dX1_begin_58 hl (k := 0) rfl (by decide) rfl (fun ls hl => ?_)
            refine lv_goto (tgt := 30) hx hb dX1_begin_61 (by decide) ?_
            rw [show (1 : Int64) = (if p9 = 3 + r9 then 1 else 0) from (if_pos hpr).symm] at hP hD
            exact ih (r9 + 1) _ H locs ls (by omega) hP hD hS (lv_sub hl [0, 1, 2, 3] rfl) kx
          · refine b_ne_t (tgt := 56) hx hb dX1_begin_49 (by decide) (hpr) (by omega) (by omega) ?_
            refine lv_lconst (v := 0) hx hb dX1_begin_56 (by decide) ?_
            refine tL_st (i := r9) hx hb hK hP hD hS (by omega) (by omega) dX1_begin_57 (fun H locs hP hD hS => ?_)
            refine b_iinc (lv' := [(3, .int (nI (r9 + 1))), (2, .int (nI p9)), (0, .ref (ad 3)), (1, .int (nI a))]) hx hb dX1_begin_58 hl (k := 0) rfl (by decide) rfl (fun ls hl => ?_)
            refine lv_goto (tgt := 30) hx hb dX1_begin_61 (by decide) ?_
            rw [show up2 Y (r9 + 18) p9 0 = up2 Y (r9 + 18) p9 (if p9 = 3 + r9 then 1 else 0) by rw [if_neg hpr]] at hP hD
            exact ih (r9 + 1) _ H locs ls (by omega) hP hD hS (lv_sub hl [0, 1, 2, 3] rfl) kx
      refine lp30 _ (a) 0 (up2 X (3 + 18) p9 0) _ _ ls (by omega) hP hD hS (lv_sub hl [0, 1, 2, 3] rfl) (fun H locs ls hP hD hS hl => ?_)
      refine b_iinc (lv' := [(2, .int (nI (p9 + 1))), (3, .int (nI a)), (0, .ref (ad 3)), (1, .int (nI a))]) hx hb dX1_begin_64 hl (k := 1) rfl (by decide) rfl (fun ls hl => ?_)
      refine lv_goto (tgt := 15) hx hb dX1_begin_67 (by decide) ?_
      exact ih (p9 + 1) _ H locs ls (by omega) hP hD hS (lv_sub hl [0, 2, 3] rfl) kx
  refine lp15 _ (6) 0 AL _ _ ls (by omega) hP hD hS (lv_sub hl [0, 1, 2] rfl) (fun H locs ls hP hD hS hl => ?_)
  exact g_vret hx hb hr hlocks (up1 I 5 a, AN, AI, fo (fun p X => fo (fun r Y => up2 Y (r + 18) p (if p = 3 + r then 1 else 0)) a 0 (up2 X (3 + 18) p 0)) (6) 0 AL) (rfl) hK hP hD hS dX1_begin_70

abbrev rmX1_gather : Room := { frames := 2, cells := 0, slots := 0, locals := 47 }
set_option maxHeartbeats 4000000 in
set_option maxRecDepth 100000 in
/-- gather -/
theorem ctX1_gather (l : Launch) (D : va_G) (cs : Nat → ClassId) (ad : Nat → Nat) (I : Nat → Nat) (AN : Nat → Nat → Nat) (AI : Nat → Nat → Int32) (AL : Nat → Nat → Int64) (sz : Nat) (f q : Nat) (h5 : I 5 ≤ 3) (hf : f < I 5) (hq : q < 6) : Met l yX1_gather (Cond.code yX1_gather cX1_gather 4 none :: GW) rmX1_gather (va_Pc [.ref (ad 3), .int (nI f), .int (nI q)] (gP D cs (wT cs ad I AN AI AL) sz)) (va_Qv (fun u : TS => u = (I, AN, AI, lgat (I 5) f q AL)) (gB D cs (va_A (wT cs ad I AN AI AL) sz) (wTs cs ad)) (va_A (wT cs ad I AN AI AL) sz)) 0 0 (va_A (wT cs ad I AN AI AL) sz) := by
  refine Met.ofW (cc := cX1_gather) (maxL := 4) (ret := none) (by decide) rfl ?_
  intro p e s m args below meth c s₁ B hml hv
  obtain ⟨rfl, hsz, hP, hK, hD0, hN⟩ := hv
  have hx := B.exec
  have hb := B.bytes
  have hr := B.returns
  have hts : ∀ w ∈ GW, w.before _ s = true := fun w h => atoms_spec (ws := Cond.code yX1_gather cX1_gather 4 none :: GW) B.pre w (List.mem_cons_of_mem _ h)
  have hown : s.vm.findClass RX1 = some m.cls := findClass_of_methodNamed B.named
  have hlocks := B.notSynchronized
  subst hsz
  have hD := hD0.self (sz := s.heap.size)
  generalize hAe : va_A (wT cs ad I AN AI AL) s.heap.size = A at hD ⊢
  have hA : ∀ q : Nat, s.heap.size ≤ q → A q := fun q h => by rw [← hAe]; exact Or.inr h
  have hS : va_S A s.heap s.heap [] := va_S.rf
  have hl := lv_entry [.ref (ad 3), .int (nI f), .int (nI q)] (n := 4) (Nat.le_of_ble_eq_true rfl)
  rw [lg_entry_eq]
  generalize (lg_sl [.ref (ad 3), .int (nI f), .int (nI q)] ++ List.replicate (4 - (lg_sl [.ref (ad 3), .int (nI f), .int (nI q)]).length) Slot.unset).toArray = ls at hl ⊢
  have hl : lv_has ls 4 [(0, .ref (ad 3)), (1, .int (nI f)), (2, .int (nI q))] := hl
  generalize hargs : ([.ref (ad 3), .int (nI f), .int (nI q)] : List Value).toArray = args at *
  show W p l e rmX1_gather s m args below meth c s.heap [] 0 0 _ (F0 m 0 ls [])
  refine lv_iload_n hx hb dX1_gather_0 rfl (lv_at hl 1 rfl) ?_
  refine lv_iconst (v := nI 1) hx hb dX1_gather_1 (by decide) ?_
  refine b_addn hx hb dX1_gather_2 ?_
  refine lv_istore_n (lv' := [(3, .int (nI (f + 1))), (0, .ref (ad 3)), (1, .int (nI f)), (2, .int (nI q))]) hx hb dX1_gather_3 rfl hl (by decide) rfl (fun ls hl => ?_)
  have lp4 : ∀ (Q : State → Prop) (n r9 : Nat) (X : Nat → Nat → Int64) (H : Heap) (locs : List Loc) (ls : Array Slot), r9 + n = I 5 → va_P D vc (wT cs ad I AN AI X) H → va_D A (wT cs ad I AN AI X) → va_S A s.heap H locs → lv_has ls 4 [(3, .int (nI r9)), (0, .ref (ad 3)), (1, .int (nI f)), (2, .int (nI q))] → (∀ (H : Heap) (locs : List Loc) (ls : Array Slot), va_P D vc (wT cs ad I AN AI (fo (fun r X => ldit f r q 100 X) n r9 X)) H → va_D A (wT cs ad I AN AI (fo (fun r X => ldit f r q 100 X) n r9 X)) → va_S A s.heap H locs → lv_has ls 4 [(3, .int (nI (I 5))), (0, .ref (ad 3)), (1, .int (nI f)), (2, .int (nI q))] → W p l e rmX1_gather s m args below meth c H locs 0 0 Q (F0 m 34 ls [])) → W p l e rmX1_gather s m args below meth c H locs 0 0 Q (F0 m 4 ls []) := by
    intro Q n
    induction n with
    | zero =>
      intro r9 X H locs ls hn hP hD hS hl kx
      have hi : r9 = I 5 := by omega
      refine lv_iload_n hx hb dX1_gather_4 rfl (lv_at hl 0 rfl) ?_
      refine lv_aload_n hx hb dX1_gather_5 rfl (lv_at hl 1 rfl) ?_
      refine b_get (own := RX1) (C := RX1) (T := TX1) (N := 4) (ci := 1) (v := .int (nI (I 5))) hx hb hts usX1 hown hK hP 3 (by decide) rfl rfl 3 (by decide) (hts _ gw_120) rfl dX1_gather_6 ?_
      refine b_ge_t (tgt := 34) hx hb dX1_gather_9 (by decide) (by omega) (by omega) ?_
      rw [hi] at hl
      exact kx H locs ls hP hD hS (lv_sub hl [0, 1, 2, 3] rfl)
    | succ n ih =>
      intro r9 X H locs ls hn hP hD hS hl kx
      have hi : r9 < I 5 := by omega
      refine lv_iload_n hx hb dX1_gather_4 rfl (lv_at hl 0 rfl) ?_
      refine lv_aload_n hx hb dX1_gather_5 rfl (lv_at hl 1 rfl) ?_
      refine b_get (own := RX1) (C := RX1) (T := TX1) (N := 4) (ci := 1) (v := .int (nI (I 5))) hx hb hts usX1 hown hK hP 3 (by decide) rfl rfl 3 (by decide) (hts _ gw_120) rfl dX1_gather_6 ?_
      refine b_ge_f (tgt := 34) hx hb dX1_gather_9 (by decide) (by omega) (by omega) ?_
      refine lv_aload_n hx hb dX1_gather_12 rfl (lv_at hl 1 rfl) ?_
      refine b_get (own := RX1) (C := RX1) (T := TX1) (N := 4) (ci := 1) (v := .ref (ad 6)) hx hb hts usX1 hown hK hP 3 (by decide) rfl rfl 0 (by decide) (hts _ gw_115) rfl dX1_gather_13 ?_
      refine lv_iload_n hx hb dX1_gather_16 rfl (lv_at hl 2 rfl) ?_
      refine tL_r hx hb hK hP (by omega) dX1_gather_17 ?_
      refine lv_aload_n hx hb dX1_gather_18 rfl (lv_at hl 1 rfl) ?_
      refine b_get (own := RX1) (C := RX1) (T := TX1) (N := 4) (ci := 1) (v := .ref (ad 6)) hx hb hts usX1 hown hK hP 3 (by decide) rfl rfl 0 (by decide) (hts _ gw_115) rfl dX1_gather_19 ?_
      refine lv_iload_n hx hb dX1_gather_22 rfl (lv_at hl 0 rfl) ?_
      refine tL_r hx hb hK hP (by omega) dX1_gather_23 ?_
      refine lv_iload_n hx hb dX1_gather_24 rfl (lv_at hl 3 rfl) ?_
      refine g_callv (va_runS (As := [.ref (ad (f + 18)), .ref (ad (r9 + 18)), .int (nI q)]) (rest := []) ⟨hx, hb, hml, hown, hts⟩ (ctX1_divideInTurn l D cs ad I AN AI X _ f r9 q (by omega) (by omega) hq) (va_cwS 3 hts (gi_S gw_232 gw_233 gw_56 gw_234) rfl rfl rfl (by decide +kernel) ⟨Nat.le_of_ble_eq_true rfl, Nat.le_of_ble_eq_true rfl⟩) ⟨g_blind, g_pre hP hK hD hN⟩ rfl rfl hl.1 rfl (lv_room (Nat.le_of_ble_eq_true rfl)) dX1_gather_25 ⟨Nat.zero_le _, Nat.zero_le _⟩) hD hS hA (fun u H locs hw hP hD hS => ?_)
      obtain rfl := hw
      have hP : va_P D vc (wT cs ad I AN AI (ldit f r9 q 100 X)) H := hP
      have hD : va_D A (wT cs ad I AN AI (ldit f r9 q 100 X)) := hD
      refine b_iinc (lv' := [(3, .int (nI (r9 + 1))), (0, .ref (ad 3)), (1, .int (nI f)), (2, .int (nI q))]) hx hb dX1_gather_28 hl (k := 0) rfl (by decide) rfl (fun ls hl => ?_)
      refine lv_goto (tgt := 4) hx hb dX1_gather_31 (by decide) ?_
      exact ih (r9 + 1) _ H locs ls (by omega) hP hD hS (lv_sub hl [0, 1, 2, 3] rfl) kx
  refine lp4 _ ((I 5) - (f + 1)) (f + 1) AL _ _ ls (by omega) hP hD hS (lv_sub hl [0, 1, 2, 3] rfl) (fun H locs ls hP hD hS hl => ?_)
  generalize hX : fo (fun r X => ldit f r q 100 X) ((I 5) - (f + 1)) (f + 1) AL = X at hP hD
  refine lv_aload_n hx hb dX1_gather_34 rfl (lv_at hl 1 rfl) ?_
  refine b_get (own := RX1) (C := RX1) (T := TX1) (N := 4) (ci := 1) (v := .ref (ad 6)) hx hb hts usX1 hown hK hP 3 (by decide) rfl rfl 0 (by decide) (hts _ gw_115) rfl dX1_gather_35 ?_
  refine lv_iload_n hx hb dX1_gather_38 rfl (lv_at hl 2 rfl) ?_
  refine tL_r hx hb hK hP (by omega) dX1_gather_39 ?_
  refine lv_iload_n hx hb dX1_gather_40 rfl (lv_at hl 3 rfl) ?_
  refine tL_ld (i := f) hx hb hK hP (by omega) (by omega) dX1_gather_41 ?_
  refine lv_lconst (v := 0) hx hb dX1_gather_42 (by decide) ?_
  refine b_lcge (tgt := 56) hx hb dX1_gather_43 dX1_gather_44 (by decide) (fun h => ?_) (fun h => ?_)
  · exact g_vret hx hb hr hlocks (I, AN, AI, X) (by subst hX; exact congrArg (fun z => (I, AN, AI, z)) (if_neg h).symm) hK hP hD hS dX1_gather_56
  · refine lv_aload_n hx hb dX1_gather_47 rfl (lv_at hl 1 rfl) ?_
    refine b_get (own := RX1) (C := RX1) (T := TX1) (N := 4) (ci := 1) (v := .ref (ad 6)) hx hb hts usX1 hown hK hP 3 (by decide) rfl rfl 0 (by decide) (hts _ gw_115) rfl dX1_gather_48 ?_
    refine lv_iload_n hx hb dX1_gather_51 rfl (lv_at hl 2 rfl) ?_
    refine tL_r hx hb hK hP (by omega) dX1_gather_52 ?_
    refine g_callv (va_runS (As := [.ref (ad (f + 18))]) (rest := []) ⟨hx, hb, hml, hown, hts⟩ (ctX1_negate l D cs ad I AN AI X _ f (by omega)) (va_cwS 1 hts (gi_S gw_241 gw_242 gw_56 gw_243) rfl rfl rfl (by decide +kernel) ⟨Nat.le_of_ble_eq_true rfl, Nat.le_of_ble_eq_true rfl⟩) ⟨g_blind, g_pre hP hK hD hN⟩ rfl rfl hl.1 rfl (lv_room (Nat.le_of_ble_eq_true rfl)) dX1_gather_53 ⟨Nat.zero_le _, Nat.zero_le _⟩) hD hS hA (fun u H locs hw hP hD hS => ?_)
    obtain rfl := hw
    have hP : va_P D vc (wT cs ad I AN AI (lneg f X)) H := hP
    have hD : va_D A (wT cs ad I AN AI (lneg f X)) := hD
    exact g_vret hx hb hr hlocks (I, AN, AI, lneg f X) (by subst hX; exact congrArg (fun z => (I, AN, AI, z)) (if_pos h).symm) hK hP hD hS dX1_gather_56

theorem ne_of_gt0 {x : Int64} (h : 0 < x) : ¬ x = 0 := by
  intro e
  subst e
  exact absurd h (by decide)

abbrev rmX1_lessen : Room := { frames := 1, cells := 0, slots := 0, locals := 25 }
set_option maxHeartbeats 4000000 in
set_option maxRecDepth 100000 in
/-- lessen -/
theorem ctX1_lessen (l : Launch) (D : va_G) (cs : Nat → ClassId) (ad : Nat → Nat) (I : Nat → Nat) (AN : Nat → Nat → Nat) (AI : Nat → Nat → Int32) (AL : Nat → Nat → Int64) (sz : Nat) (t r0 : Nat) (ht : t < 4) (hr0 : r0 < 3) (hbg : ∀ r, r < 3 → AN 7 r < 6) : Met l yX1_lessen (Cond.code yX1_lessen cX1_lessen 5 none :: GW) rmX1_lessen (va_Pc [.ref (ad 3), .ref (ad (t + 18)), .int (nI r0)] (gP D cs (wT cs ad I AN AI AL) sz)) (va_Qv (fun u : TS => u = (I, AN, AI, lles AN t r0 AL)) (gB D cs (va_A (wT cs ad I AN AI AL) sz) (wTs cs ad)) (va_A (wT cs ad I AN AI AL) sz)) 0 0 (va_A (wT cs ad I AN AI AL) sz) := by
  refine Met.ofW (cc := cX1_lessen) (maxL := 5) (ret := none) (by decide) rfl ?_
  intro p e s m args below meth c s₁ B hml hv
  obtain ⟨rfl, hsz, hP, hK, hD0, hN⟩ := hv
  have hx := B.exec
  have hb := B.bytes
  have hr := B.returns
  have hts : ∀ w ∈ GW, w.before _ s = true := fun w h => atoms_spec (ws := Cond.code yX1_lessen cX1_lessen 5 none :: GW) B.pre w (List.mem_cons_of_mem _ h)
  have hown : s.vm.findClass RX1 = some m.cls := findClass_of_methodNamed B.named
  have hlocks := B.notSynchronized
  subst hsz
  have hD := hD0.self (sz := s.heap.size)
  generalize hAe : va_A (wT cs ad I AN AI AL) s.heap.size = A at hD ⊢
  have hA : ∀ q : Nat, s.heap.size ≤ q → A q := fun q h => by rw [← hAe]; exact Or.inr h
  have hS : va_S A s.heap s.heap [] := va_S.rf
  have hl := lv_entry [.ref (ad 3), .ref (ad (t + 18)), .int (nI r0)] (n := 5) (Nat.le_of_ble_eq_true rfl)
  rw [lg_entry_eq]
  generalize (lg_sl [.ref (ad 3), .ref (ad (t + 18)), .int (nI r0)] ++ List.replicate (5 - (lg_sl [.ref (ad 3), .ref (ad (t + 18)), .int (nI r0)]).length) Slot.unset).toArray = ls at hl ⊢
  have hl : lv_has ls 5 [(0, .ref (ad 3)), (1, .ref (ad (t + 18))), (2, .int (nI r0))] := hl
  generalize hargs : ([.ref (ad 3), .ref (ad (t + 18)), .int (nI r0)] : List Value).toArray = args at *
  show W p l e rmX1_lessen s m args below meth c s.heap [] 0 0 _ (F0 m 0 ls [])
  have hbr := hbg r0 hr0
  refine lv_aload_n hx hb dX1_lessen_0 rfl (lv_at hl 0 rfl) ?_
  refine b_get (own := RX1) (C := RX1) (T := TX1) (N := 4) (ci := 1) (v := .ref (ad 6)) hx hb hts usX1 hown hK hP 3 (by decide) rfl rfl 0 (by decide) (hts _ gw_115) rfl dX1_lessen_1 ?_
  refine lv_iload_n hx hb dX1_lessen_4 rfl (lv_at hl 2 rfl) ?_
  refine tL_r hx hb hK hP (by omega) dX1_lessen_5 ?_
  refine lv_aload_n hx hb dX1_lessen_6 rfl (lv_at hl 0 rfl) ?_
  refine b_get (own := RX1) (C := RX1) (T := TX1) (N := 4) (ci := 1) (v := .ref (ad 7)) hx hb hts usX1 hown hK hP 3 (by decide) rfl rfl 1 (by decide) (hts _ gw_117) rfl dX1_lessen_7 ?_
  refine lv_iload_n hx hb dX1_lessen_10 rfl (lv_at hl 2 rfl) ?_
  refine tB_ld hx hb hK hP (by omega) dX1_lessen_11 ?_
  refine tL_ld (i := r0) hx hb hK hP (by omega) (by omega) dX1_lessen_12 ?_
  refine lv_lstore_n (lv' := [(3, .long (AL (r0 + 18) (AN 7 r0))), (0, .ref (ad 3)), (1, .ref (ad (t + 18))), (2, .int (nI r0))]) hx hb dX1_lessen_13 rfl hl (by decide) rfl (fun ls hl => ?_)
  generalize hbe : AL (r0 + 18) (AN 7 r0) = be at hl
  refine lv_lload_n hx hb dX1_lessen_14 rfl (lv_at hl 0 rfl) ?_
  refine lv_lconst (v := 0) hx hb dX1_lessen_15 (by decide) ?_
  refine b_lcle (tgt := 42) hx hb dX1_lessen_16 dX1_lessen_17 (by decide) (fun h => ?_) (fun h => ?_)
  · exact g_vret hx hb hr hlocks (I, AN, AI, AL) (by subst hbe; exact congrArg (fun z => (I, AN, AI, z)) (if_neg h).symm) hK hP hD hS dX1_lessen_42
  · refine lv_aload_n hx hb dX1_lessen_20 rfl (lv_at hl 2 rfl) ?_
    refine lv_aload_n hx hb dX1_lessen_21 rfl (lv_at hl 1 rfl) ?_
    refine b_get (own := RX1) (C := RX1) (T := TX1) (N := 4) (ci := 1) (v := .ref (ad 6)) hx hb hts usX1 hown hK hP 3 (by decide) rfl rfl 0 (by decide) (hts _ gw_115) rfl dX1_lessen_22 ?_
    refine lv_iload_n hx hb dX1_lessen_25 rfl (lv_at hl 3 rfl) ?_
    refine tL_r hx hb hK hP (by omega) dX1_lessen_26 ?_
    refine lv_aload_n hx hb dX1_lessen_27 rfl (lv_at hl 2 rfl) ?_
    refine lv_aload_n hx hb dX1_lessen_28 rfl (lv_at hl 1 rfl) ?_
    refine b_get (own := RX1) (C := RX1) (T := TX1) (N := 4) (ci := 1) (v := .ref (ad 7)) hx hb hts usX1 hown hK hP 3 (by decide) rfl rfl 1 (by decide) (hts _ gw_117) rfl dX1_lessen_29 ?_
    refine lv_iload_n hx hb dX1_lessen_32 rfl (lv_at hl 3 rfl) ?_
    refine tB_ld hx hb hK hP (by omega) dX1_lessen_33 ?_
    refine tL_ld (i := t) hx hb hK hP (by omega) (by omega) dX1_lessen_34 ?_
    refine lv_lload_n hx hb dX1_lessen_35 rfl (lv_at hl 0 rfl) ?_
    refine g_calll (va_runS (As := [.long (AL (t + 18) (AN 7 r0)), .long be]) (rest := [.ref (ad (r0 + 18)), .ref (ad (t + 18))]) ⟨hx, hb, hml, hown, hts⟩ (ctJ9_floorDiv l D cs ad I AN AI AL _ (AL (t + 18) (AN 7 r0)) be (ne_of_gt0 h)) (va_cwS 2 hts (gi_S gw_248 gw_249 gw_54 gw_250) rfl rfl rfl (by decide +kernel) ⟨Nat.le_of_ble_eq_true rfl, Nat.le_of_ble_eq_true rfl⟩) ⟨g_blind, g_pre hP hK hD hN⟩ rfl rfl hl.1 rfl (lv_room (Nat.le_of_ble_eq_true rfl)) dX1_lessen_36 ⟨Nat.zero_le _, Nat.zero_le _⟩) hD hS hA (fun r u H locs hw hP hD hS => ?_)
    obtain ⟨rfl, rfl⟩ := hw
    have hP : va_P D vc (wT cs ad I AN AI AL) H := hP
    have hD : va_D A (wT cs ad I AN AI AL) := hD
    refine g_callv (va_runS (As := [.ref (ad (t + 18)), .ref (ad (r0 + 18)), .long (fdiv64 (AL (t + 18) (AN 7 r0)) be)]) (rest := []) ⟨hx, hb, hml, hown, hts⟩ (ctX1_subtract l D cs ad I AN AI AL _ t r0 (fdiv64 (AL (t + 18) (AN 7 r0)) be) ht (by omega)) (va_cwS 3 hts (gi_S gw_235 gw_236 gw_56 gw_237) rfl rfl rfl (by decide +kernel) ⟨Nat.le_of_ble_eq_true rfl, Nat.le_of_ble_eq_true rfl⟩) ⟨g_blind, g_pre hP hK hD hN⟩ rfl rfl hl.1 rfl (lv_room (Nat.le_of_ble_eq_true rfl)) dX1_lessen_39 ⟨Nat.zero_le _, Nat.zero_le _⟩) hD hS hA (fun u H locs hw hP hD hS => ?_)
    obtain rfl := hw
    have hP : va_P D vc (wT cs ad I AN AI (lsbt t r0 (fdiv64 (AL (t + 18) (AN 7 r0)) be) AL)) H := hP
    have hD : va_D A (wT cs ad I AN AI (lsbt t r0 (fdiv64 (AL (t + 18) (AN 7 r0)) be) AL)) := hD
    exact g_vret hx hb hr hlocks (I, AN, AI, lsbt t r0 (fdiv64 (AL (t + 18) (AN 7 r0)) be) AL) (by subst hbe; exact congrArg (fun z => (I, AN, AI, z)) (if_pos h).symm) hK hP hD hS dX1_lessen_42
