def R_law : String := "TriangularSystemsLaw"
def lw_P (b : Addr) (xs : List Int32) (args : Array Value) (s : State) : Prop := args = #[.ref b] ∧ s.IntsAt b xs ∧ xs.length ≤ 2049 ∧ (Jvm.Cond.and given_1 narrow_1).before args s = true
def lw_Q (_ : Array Value) (s : State) (o : Outcome) (t : State) : Prop := o = .returned (some (.int 1)) ∧ Framed s o t [] 666090 7097800
def lw_Z (below : List Frame) (a : Array Value) (s : State) : State → Prop := fun t => ∃ o, t.status = .running ∧ Ended t below o ∧ lw_Q a s o t
/-- the law's own end, with 1 on the stack, nothing written that was there before, its room as the claim has it -/
theorem lw_ret {p : Program} {l : Launch} {e : Env} {s : State} {m : MethodId} {below : List Frame} {meth : Method} {c : Code} {b : Nat} (hx : p.tables.exec = Jvm.exec) (hb : c.code = code) (hr : meth.sig.returnType = ret) (hlocks : meth.locks = false) {pc : Nat} {H : Heap} {ls : Array Slot} (hdg : decode code pc = .ok (.ireturn, 1)) : W p l e room_1 s m #[Value.ref b] below meth c H [] 666090 7097800 (lw_Z below #[Value.ref b] s) (F0 m pc ls [.int 1]) := by
  intro T hT X
  obtain ⟨fs, hret, hrun, hended, hW, hframe⟩ := X.leave (v := some (.int 1)) (hlocks := hlocks) (fun h => by rw [hr] at h; cases h)
  have hmeth' : T.vm.method? m = some meth := X.method'
  refine ⟨T.setFrames fs, ?_, .returned (some (.int 1)), hrun, hended, rfl, ⟨_, rfl⟩, hW, hframe⟩
  jvm_step X.here [X.here.top, hx, hb, hdg, hmeth', hr, ret, narrow_b1]
  (try refine ⟨rfl, ?_⟩); (try refine ⟨rfl, ?_⟩)
  first | (intro acts; rw [hret _ acts rfl rfl rfl]) | rw [hret _ _ rfl rfl rfl]
  exact Steps.refl _
/-- what holds at the law's entry: the machine, the code, the tables' words (any of lw_tbl by 'hts w (by decide +kernel)'), the script of L ints xs at the cell b, what the Statement gives of the start (any of its parts by flat_of_before) -/
def lw_At (p : Program) (s : State) (m : MethodId) (meth : Method) (c : Code) (b L : Nat) (xs : Nat → Int32) : Prop :=
  p.tables.exec = Jvm.exec ∧ c.code = code ∧ meth.sig.returnType = ret ∧ c.maxLocals = 8 ∧ s.vm.findClass R_law = some m.cls ∧ (∀ w ∈ lw_tbl, w.before #[Value.ref b] s = true) ∧ va_X b L xs s s.heap ∧ b < s.heap.size ∧ meth.locks = false ∧ (Jvm.Cond.and given_1 narrow_1).before #[Value.ref b] s = true
def MATH : Prop := M_eq ∧ M_put ∧ M_at ∧ M_rank ∧ M_sol ∧ M_free ∧ M_plain ∧ M_dir ∧ M_whole ∧ M_base ∧ M_least ∧ M_near ∧ M_squ ∧ M_box ∧ M_solves
def clP (sz b L : Nat) (xs : Nat → Int32) (U : State) : Prop := U.heap.size = sz ∧ va_X b L xs U U.heap ∧ b < sz
theorem clP_blind {av : List Value} {sz b L : Nat} {xs : Nat → Int32} : FrameBlind (va_Pc av (clP sz b L xs)) := fun a U g mk q => by
  obtain ⟨q0, q1, q2, q3⟩ := q
  exact ⟨q0, q1, va_X.moved (u := U) (U := U.calling g mk a) (Vm.Alike.refl U.vm) q2, q3⟩
abbrev rmL_cell : Room := { frames := 0, cells := 0, slots := 0, locals := 0 }
set_option maxHeartbeats 4000000 in
set_option maxRecDepth 100000 in
theorem ctL_cell (l : Launch) (sz b L : Nat) (xs : Nat → Int32) (hL : L ≤ 2049) : Met l yL_cell (Cond.code yL_cell cL_cell 2 (some FieldType.int) :: GW) rmL_cell (va_Pc [.ref b, .int (nI 0)] (clP sz b L xs)) (va_Qi (fun (r : Int32) (_ : Unit) => r = if 0 < L then xs 0 else nI 0) (fun _ _ => True) (fun q : Nat => sz ≤ q)) 0 0 (fun q : Nat => sz ≤ q) := by
  refine Met.ofW (cc := cL_cell) (maxL := 2) (ret := (some FieldType.int)) (by decide) rfl ?_
  intro p e s m args below meth c s₁ B hml hv
  obtain ⟨rfl, hsz, hX, hbl⟩ := hv
  have hx := B.exec
  have hb := B.bytes
  have hr := B.returns
  subst hsz
  have hbA : ¬ (fun q : Nat => s.heap.size ≤ q) b := Nat.not_le.mpr hbl
  have hS : va_S (fun q : Nat => s.heap.size ≤ q) s.heap s.heap [] := va_S.rf
  have hlocks := B.notSynchronized
  have hl := lv_entry [.ref b, .int (nI 0)] (n := 2) (Nat.le_of_ble_eq_true rfl)
  rw [lg_entry_eq]
  generalize (lg_sl [.ref b, .int (nI 0)] ++ List.replicate (2 - (lg_sl [.ref b, .int (nI 0)]).length) Slot.unset).toArray = ls at hl ⊢
  have hl : lv_has ls 2 [(0, .ref b), (1, .int (nI 0))] := hl
  generalize hargs : ([.ref b, .int (nI 0)] : List Value).toArray = args at *
  show W p l e rmL_cell s m args below meth c s.heap [] 0 0 _ (F0 m 0 ls [])
  refine lv_iload_n hx hb dL_cell_0 rfl (lv_at hl 1 rfl) ?_
  refine lv_aload_n hx hb dL_cell_1 rfl (lv_at hl 0 rfl) ?_
  refine va_slen hx hb hX hbl hbA hS dL_cell_2 ?_
  by_cases h0 : 0 < L
  · refine b_ge_f (a := 0) (b := L) (tgt := 12) hx hb dL_cell_3 (by decide) h0 (by omega) ?_
    refine lv_aload_n hx hb dL_cell_6 rfl (lv_at hl 0 rfl) ?_
    refine lv_iload_n hx hb dL_cell_7 rfl (lv_at hl 1 rfl) ?_
    refine l_sld hx hb hX hbl hbA hS (j := 0) h0 (by omega) dL_cell_8 ?_
    refine lv_goto (tgt := 13) hx hb dL_cell_9 (by decide) ?_
    exact W.iret hx hb hr (fun t ht hW => ⟨⟨_, (), rfl, (if_pos h0).symm, trivial⟩, hS.F ht⟩) hS.2.2 dL_cell_13
  · refine b_ge_t (a := 0) (b := L) (tgt := 12) hx hb dL_cell_3 (by decide) (by omega) (by decide) ?_
    refine lv_iconst (v := nI 0) hx hb dL_cell_12 (by decide) ?_
    exact W.iret hx hb hr (fun t ht hW => ⟨⟨_, (), rfl, (if_neg h0).symm, trivial⟩, hS.F ht⟩) hS.2.2 dL_cell_13

set_option maxHeartbeats 4000000 in
set_option maxRecDepth 100000 in
/-- THE LOOP: n rounds more at the most -/
theorem law_loop (hM : MATH) {p : Program} {l : Launch} (hlt : l.stackTraces = false) {e : Env} {s : State} {m : MethodId} {below : List Frame} {meth : Method} {c : Code} {D : va_G} {cs : Nat → ClassId} {ad am : Nat → Nat} {o b L : Nat} {xs : Nat → Int32} {sa : Nat → Nat} (hC : LC p s m meth c D cs b L xs sa) (hL : L ≤ 2049) : ∀ (n i : Nat) (w : TS × (Nat → Int64)) (v : MS) (H : Heap) (locs : List Loc) (ls : Array Slot) (cells slots : Nat), L ≤ i + 4 * n + 3 → i ≤ 3000 → cells + n ≤ 600000 → slots + 6 * n ≤ 7000000 → LSt s D cs ad am o w v H locs → lv_has ls 8 (lvL b o (ad 0) (am 0) i) →
    W p l e room_1 s m #[Value.ref b] below meth c H locs cells slots (lw_Z below #[Value.ref b] s) (F0 m 33 ls []) := by
  obtain ⟨hx, hb, hr, hml, hown, hts, hlocks, hK, hN, hX, hbl, hXW, hXN⟩ := id hC
  have hbA : ¬ (fun q : Nat => s.heap.size ≤ q) b := Nat.not_le.mpr hbl
  intro n
  induction n with
  | zero =>
    intro i w v H locs ls cells slots hn hi hcc hss hS0 hl
    obtain ⟨hP, hD, hS, hI⟩ := id hS0
    refine lv_iload hx hb dL_law_33 (lv_at hl 0 rfl) ?_
    refine lv_aload_n hx hb dL_law_35 rfl (lv_at hl 3 rfl) ?_
    refine va_slen hx hb hX hbl hbA hS dL_law_36 ?_
    refine lv_iconst (v := nI 4) hx hb dL_law_37 (by decide) ?_
    refine lv_isub hx hb dL_law_38 ?_
    refine lv_icmp_gt (tgt := 932) hx hb dL_law_39 (by decide) (fun _ => ?_) (fun q => absurd ?_ q)
    · refine lv_iconst (v := nI 1) hx hb dL_law_932 (by decide) ?_
      refine va_forget hS.2.2 ?_
      exact W.widen (k := 666090) (n := 7097800) (by omega) (by omega) (lw_ret hx hb hr hlocks dL_law_933)
    · rw [Int32.lt_iff_toInt_lt, nI_toInt (by omega)]
      have h9 : (Int32.ofNat L - nI 4).toInt = (L : Int) - 4 := pk_sub_toInt (a := L) (b := 4) (by omega) (by decide)
      rw [h9]
      omega
  | succ n ih =>
    intro i w v H locs ls cells slots hn hi hcc hss hS0 hl
    obtain ⟨hP, hD, hS, hI⟩ := id hS0
    refine lv_iload hx hb dL_law_33 (lv_at hl 0 rfl) ?_
    refine lv_aload_n hx hb dL_law_35 rfl (lv_at hl 3 rfl) ?_
    refine va_slen hx hb hX hbl hbA hS dL_law_36 ?_
    refine lv_iconst (v := nI 4) hx hb dL_law_37 (by decide) ?_
    refine lv_isub hx hb dL_law_38 ?_
    have h9 : (Int32.ofNat L - nI 4).toInt = (L : Int) - 4 := pk_sub_toInt (a := L) (b := 4) (by omega) (by decide)
    refine lv_icmp_gt (tgt := 932) hx hb dL_law_39 (by decide) (fun _ => ?_) (fun hq => ?_)
    · refine lv_iconst (v := nI 1) hx hb dL_law_932 (by decide) ?_
      refine va_forget hS.2.2 ?_
      exact W.widen (k := 666090) (n := 7097800) (by omega) (by omega) (lw_ret hx hb hr hlocks dL_law_933)
    rw [Int32.lt_iff_toInt_lt, nI_toInt (by omega), h9] at hq
    have hi4 : i + 4 ≤ L := by omega
    have kk : ∀ (w : TS × (Nat → Int64)) (v : MS) (H : Heap) (locs : List Loc) (ls : Array Slot), LSt s D cs ad am o w v H locs → lv_has ls 8 (lvL b o (ad 0) (am 0) i) → W p l e room_1 s m #[Value.ref b] below meth c H locs (cells + 1) (slots + 6) (lw_Z below #[Value.ref b] s) (F0 m 926 ls []) := by
      intro w v H locs ls hS1 hl
      refine lv_iinc (v := nI (i + 4)) (lv' := lvL b o (ad 0) (am 0) (i + 4)) hx hb dL_law_926 hl (k := 0) rfl (nI_add i 4) (by decide) rfl (fun ls hl => ?_)
      refine lv_goto (tgt := 33) hx hb dL_law_929 (by decide) ?_
      exact ih (i + 4) w v H locs ls (cells + 1) (slots + 6) (by omega) (by omega) (by omega) (by omega) hS1 hl
    refine lv_aload_n hx hb dL_law_42 rfl (lv_at hl 3 rfl) ?_
    refine lv_iload hx hb dL_law_43 (lv_at hl 0 rfl) ?_
    refine l_sld hx hb hX hbl hbA hS (j := i) (by omega) (by omega) dL_law_45 ?_
    refine lv_bipush (v := nI 31) hx hb dL_law_46 (by decide) ?_
    refine lv_iand hx hb dL_law_48 ?_
    generalize xs i &&& nI 31 = y
    by_cases hy : y.toInt < 0 ∨ 16 < y.toInt
    · refine lv_tableOut (tgt := 926) hx hb dL_law_49 hy (by decide) ?_
      exact kk w v H locs ls hS0 hl |> fun k9 => W.widen (k := cells + 1) (n := slots + 6) (by omega) (by omega) k9
    have hy2 : y.toInt = 0 ∨ y.toInt = 1 ∨ y.toInt = 2 ∨ y.toInt = 3 ∨ y.toInt = 4 ∨ y.toInt = 5 ∨ y.toInt = 6 ∨ y.toInt = 7 ∨ y.toInt = 8 ∨ y.toInt = 9 ∨ y.toInt = 10 ∨ y.toInt = 11 ∨ y.toInt = 12 ∨ y.toInt = 13 ∨ y.toInt = 14 ∨ y.toInt = 15 ∨ y.toInt = 16 := by omega
    rcases hy2 with h | h | h | h | h | h | h | h | h | h | h | h | h | h | h | h | h
    · refine lv_tableIn (off := 83) (tgt := 132) hx hb dL_law_49 (by rw [h]; decide) (by rw [h]; decide) (by rw [h]; rfl) (by decide) ?_
      exact lo_equation hlt hM.1 hC hS0 hi4 hL (by omega) (by omega) hl kk
    · refine lv_tableIn (off := 127) (tgt := 176) hx hb dL_law_49 (by rw [h]; decide) (by rw [h]; decide) (by rw [h]; rfl) (by decide) ?_
      exact lo_put hlt hM.2.1 hC hS0 hi4 hL (by omega) (by omega) hl kk
    · refine lv_tableIn (off := 214) (tgt := 263) hx hb dL_law_49 (by rw [h]; decide) (by rw [h]; decide) (by rw [h]; rfl) (by decide) ?_
      exact lo_at hlt hM.2.2.1 hC hS0 hi4 hL (by omega) (by omega) hl kk
    · refine lv_tableIn (off := 282) (tgt := 331) hx hb dL_law_49 (by rw [h]; decide) (by rw [h]; decide) (by rw [h]; rfl) (by decide) ?_
      exact lo_rank hlt hM.2.2.2.1 hC hS0 hi4 hL (by omega) (by omega) hl kk
    · refine lv_tableIn (off := 295) (tgt := 344) hx hb dL_law_49 (by rw [h]; decide) (by rw [h]; decide) (by rw [h]; rfl) (by decide) ?_
      exact lo_solutions hlt hM.2.2.2.2.1 hC hS0 hi4 hL (by omega) (by omega) hl kk
    · refine lv_tableIn (off := 308) (tgt := 357) hx hb dL_law_49 (by rw [h]; decide) (by rw [h]; decide) (by rw [h]; rfl) (by decide) ?_
      exact lo_free hlt hM.2.2.2.2.2.1 hC hS0 hi4 hL (by omega) (by omega) hl kk
    · refine lv_tableIn (off := 333) (tgt := 382) hx hb dL_law_49 (by rw [h]; decide) (by rw [h]; decide) (by rw [h]; rfl) (by decide) ?_
      exact lo_plain hlt hM.2.2.2.2.2.2.1 hC hS0 hi4 hL (by omega) (by omega) hl kk
    · refine lv_tableIn (off := 400) (tgt := 449) hx hb dL_law_49 (by rw [h]; decide) (by rw [h]; decide) (by rw [h]; rfl) (by decide) ?_
      exact lo_direction hlt hM.2.2.2.2.2.2.2.1 hC hS0 hi4 hL (by omega) (by omega) hl kk
    · refine lv_tableIn (off := 479) (tgt := 528) hx hb dL_law_49 (by rw [h]; decide) (by rw [h]; decide) (by rw [h]; rfl) (by decide) ?_
      exact lo_whole hlt hM.2.2.2.2.2.2.2.2.1 hC hS0 hi4 hL (by omega) (by omega) hl kk
    · refine lv_tableIn (off := 492) (tgt := 541) hx hb dL_law_49 (by rw [h]; decide) (by rw [h]; decide) (by rw [h]; rfl) (by decide) ?_
      exact lo_base hlt hM.2.2.2.2.2.2.2.2.2.1 hC hS0 hi4 hL (by omega) (by omega) hl kk
    · refine lv_tableIn (off := 559) (tgt := 608) hx hb dL_law_49 (by rw [h]; decide) (by rw [h]; decide) (by rw [h]; rfl) (by decide) ?_
      exact lo_least hlt hM.2.2.2.2.2.2.2.2.2.2.1 hC hS0 hi4 hL (by omega) (by omega) hl kk
    · refine lv_tableIn (off := 614) (tgt := 663) hx hb dL_law_49 (by rw [h]; decide) (by rw [h]; decide) (by rw [h]; rfl) (by decide) ?_
      exact lo_nearest hlt hM.2.2.2.2.2.2.2.2.2.2.2.1 hC hS0 hi4 hL (by omega) (by omega) hl kk
    · refine lv_tableIn (off := 681) (tgt := 730) hx hb dL_law_49 (by rw [h]; decide) (by rw [h]; decide) (by rw [h]; rfl) (by decide) ?_
      exact lo_squares hlt hM.2.2.2.2.2.2.2.2.2.2.2.2.1 hC hS0 hi4 hL (by omega) (by omega) hl kk
    · refine lv_tableIn (off := 736) (tgt := 785) hx hb dL_law_49 (by rw [h]; decide) (by rw [h]; decide) (by rw [h]; rfl) (by decide) ?_
      exact lo_inBox hlt hM.2.2.2.2.2.2.2.2.2.2.2.2.2.1 hC hS0 hi4 hL (by omega) (by omega) hl kk
    · refine lv_tableIn (off := 792) (tgt := 841) hx hb dL_law_49 (by rw [h]; decide) (by rw [h]; decide) (by rw [h]; rfl) (by decide) ?_
      exact lo_solves hlt hM.2.2.2.2.2.2.2.2.2.2.2.2.2.2 hC hS0 hi4 hL (by omega) (by omega) hl kk
    · refine lv_tableIn (off := 841) (tgt := 890) hx hb dL_law_49 (by rw [h]; decide) (by rw [h]; decide) (by rw [h]; rfl) (by decide) ?_
      exact lo_count hlt  hC hS0 hi4 hL (by omega) (by omega) hl kk
    · refine lv_tableIn (off := 866) (tgt := 915) hx hb dL_law_49 (by rw [h]; decide) (by rw [h]; decide) (by rw [h]; rfl) (by decide) ?_
      exact lo_clear hlt  hC hS0 hi4 hL (by omega) (by omega) hl kk

theorem NWs_on : ∀ w ∈ NWs, w.onTables = true := by decide +kernel
theorem NWs_in : ∀ w ∈ NWs, w ∈ lw_tbl := by decide +kernel
theorem XWs_in : ∀ w ∈ XWs, w ∈ lw_tbl := by decide +kernel
theorem SRs_in : ∀ q ∈ SRs, Cond.stringRef RX2 q.1 q.2 ∈ lw_tbl := by decide +kernel
theorem SRs_ex : ∀ k, k ∈ SRs.map (fun q => q.1) → Cond.exactly (Term.string RX2 k) "java/lang/String" ∈ flatC (Jvm.Cond.and given_1 narrow_1) := by
  intro k hk
  simp only [SRs, List.map_cons, List.map_nil, List.mem_cons, List.not_mem_nil, or_false] at hk
  rcases hk with rfl | rfl | rfl | rfl | rfl | rfl | rfl | rfl | rfl | rfl <;> decide +kernel
theorem zs_1 : Cond.laysStatic Bundle.tN "UNASSIGNED_STACK" Bundle.steD ∈ lw_tbl := by decide +kernel
theorem zs_2 : Cond.laysStatic Bundle.tN "SUPPRESSED_SENTINEL" Bundle.listD ∈ lw_tbl := by decide +kernel
theorem zs_3 : Cond.initialized Bundle.tN ∈ lw_tbl := by decide +kernel
theorem zs_4 : Cond.isRef (.static Bundle.tN "UNASSIGNED_STACK" Bundle.steD) ∈ flatC (Jvm.Cond.and given_1 narrow_1) := by decide +kernel
theorem zs_5 : Cond.isRef (.static Bundle.tN "SUPPRESSED_SENTINEL" Bundle.listD) ∈ flatC (Jvm.Cond.and given_1 narrow_1) := by decide +kernel
theorem P3 {D : va_G} {H : Heap} {a b c : va_W} (h : va_P D vc ((a ++ b) ++ c) H) : va_P D vc ((a ++ c) ++ b) H := va_P.swap h
theorem D3 {A : Nat → Prop} {a b c : va_W} (h : va_D A ((a ++ b) ++ c)) : va_D A ((a ++ c) ++ b) := va_D.swap h
theorem Inv0 (q : Int32) : Inv (I0 q, (fun _ _ => 0), (fun _ _ => 0), (fun _ _ => 0)) ((fun k => if k = 1 then nOf q else 0), (fun _ => 0), (fun _ _ => 0), (fun _ => 0), (fun _ _ => 0)) :=
  ⟨⟨(nOf_b q).1, (nOf_b q).2, Nat.zero_le _⟩, ⟨rfl, rfl⟩, fun i j hi _ => absurd hi (Nat.not_lt_zero _), ⟨fun _ _ => (show (0 : Nat) < 6 by decide), fun _ _ => (show (0 : Nat) < 2 ^ 31 by decide)⟩, ⟨fun _ _ => (show (0 : Nat) < 3 by decide), fun _ _ => (show (0 : Nat) < 3 by decide), fun _ _ => (show (0 : Nat) < 2 by decide), fun _ _ => (show (0 : Nat) < 3 by decide)⟩⟩

set_option maxHeartbeats 4000000 in
set_option maxRecDepth 100000 in
/-- THE LAW, from its entry -/
theorem whole_start (hM : MATH) {p : Program} {e : Env} {s : State} {m : MethodId} {below : List Frame} {meth : Method} {c : Code} (l : Launch) (hlt : l.stackTraces = false) {b L : Nat} {xs : Nat → Int32} (hL : L ≤ 2049) (C0 : lw_At p s m meth c b L xs) : W p l e room_1 s m #[Value.ref b] below meth c s.heap [] 0 0 (lw_Z below #[Value.ref b] s) (entryFrame m ([Value.ref b] : List Value).toArray 8) := by
  obtain ⟨hx, hb, hr, hml, hown, htb, hX, hbl, hlocks, hgv⟩ := id C0
  have hts : ∀ w ∈ GW, w.before #[Value.ref b] s = true := fun w h => htb w ((List.mem_filter.mp h).1)
  have hA : ∀ q : Nat, s.heap.size ≤ q → (fun q : Nat => s.heap.size ≤ q) q := fun _ h => h
  have hbA : ¬ (fun q : Nat => s.heap.size ≤ q) b := Nat.not_le.mpr hbl
  have hA2 : ∀ a : Nat, a < s.heap.size → ¬ (fun q : Nat => s.heap.size ≤ q) a := fun a h => Nat.not_le.mpr h
  have hfl := flat_of_before _ hgv
  have hown : s.vm.findClass RL = some m.cls := hown
  have hN : NW s := fun w hw => va_Nw.of (NWs_on w hw) (htb w (NWs_in w hw))
  have hAI : va_AOA .int s := htb (Cond.arrayOver (.array .int)) (by decide +kernel)
  have hAL : va_AOA .long s := htb (Cond.arrayOver (.array .long)) (by decide +kernel)
  have hXN : XN s := ⟨va_Nc.of (hfl (Cond.not (.castable xIAE xIOB)) (by decide +kernel)), va_Nc.of (hfl (Cond.not (.castable xISE xIOB)) (by decide +kernel)), va_Nc.of (hfl (Cond.not (.castable xIAE xISE)) (by decide +kernel))⟩
  obtain ⟨sa, hXW⟩ : ∃ sa, XW sa (fun q : Nat => s.heap.size ≤ q) s s.heap := by
    have hst : ∀ k : Nat, ∃ a : Nat, ∀ tx, (k, tx) ∈ SRs → vk_R RX2 k tx a s := by
      intro k
      by_cases hk : k ∈ SRs.map (fun q => q.1)
      · obtain ⟨a, c9, cA, kA, q1, -⟩ := Cond.exactly_spec (args := #[Value.ref b]) (first := s) (o := none) (s := s) (idx := []) (t := Term.string RX2 k) (cls := "java/lang/String") (hfl _ (SRs_ex k hk))
        exact ⟨a, fun tx h => vk_R.of (htb _ (SRs_in _ h)) q1⟩
      · exact ⟨0, fun tx h => absurd (List.mem_map.mpr ⟨_, h, rfl⟩) hk⟩
    obtain ⟨sa, hsa⟩ := Classical.axiomOfChoice hst
    exact ⟨sa, fun w hw => va_Nw.of (XWs_on w hw) (htb w (XWs_in w hw)), fun q h => hsa q.1 q.2 h, vx_Zqof (htb _ zs_1) (htb _ zs_3) (hfl _ zs_4) hA2, vx_Zqof (htb _ zs_2) (htb _ zs_3) (hfl _ zs_5) hA2⟩
  obtain ⟨c0, iS0, hKn0⟩ := u_known (C := RX0) (T := TX0) (N := 5) (n := 5) hts usX0 (hts _ gw_81)
  obtain ⟨c1, iS1, hKn1⟩ := u_known (C := RX1) (T := TX1) (N := 4) (n := 4) hts usX1 (hts _ gw_109)
  obtain ⟨c2, iS2, hKn2⟩ := u_known (C := RX2) (T := TX2) (N := 5) (n := 5) hts usX2 (hts _ gw_65)
  obtain ⟨c3, iS3, hKn3⟩ := u_known (C := RX3) (T := TX3) (N := 23) (n := 23) hts usX3 (hts _ gw_499)
  obtain ⟨D, hKc⟩ : ∃ D : va_G, ∀ (k : Nat) (q : vw_C), vc[k]? = some q → u_Kn s q.1 q.2.1 q.2.2 (D.1 k) (D.2 k) := by
    refine ⟨(fun k => if k = 0 then c0 else if k = 1 then c1 else if k = 2 then c2 else c3, fun k => if k = 0 then iS0 else if k = 1 then iS1 else if k = 2 then iS2 else iS3), ?_⟩
    intro k q hq
    match k, hq with
    | 0, hq => cases hq; exact hKn0
    | 1, hq => cases hq; exact hKn1
    | 2, hq => cases hq; exact hKn2
    | 3, hq => cases hq; exact hKn3
    | k + 4, hq => simp [vc] at hq
  obtain ⟨ca, ka, ma, a1, a2, a3⟩ := Cond.arrayClass_spec (hts _ gw_106)
  obtain ⟨cb, kb, mb, b1, b2, b3⟩ := Cond.arrayClass_spec (hts _ gw_107)
  obtain ⟨cd, kd, md, d1, d2, d3⟩ := Cond.arrayClass_spec (hts _ gw_574)
  obtain ⟨me, ce, ke, e0, -, e2, e3, e1⟩ := arrayOverA_spec hAI
  obtain ⟨mf, cf, kf, f0, -, f2, f3, f1⟩ := arrayOverA_spec hAL
  obtain ⟨cs, hK⟩ : ∃ cs : Nat → ClassId, va_K D vc (tyK cs) s := by
    refine ⟨fun k => if k = 0 then ca else if k = 1 then cb else if k = 2 then cd else if k = 3 then ce else cf, hKc, ?_⟩
    intro k q hq
    match k, hq with
    | 0, hq => cases hq; exact ⟨fun N z => ⟨(fun q hq => by cases hq), ka, a2, ma, a3⟩, a1⟩
    | 1, hq => cases hq; exact ⟨fun N z => ⟨(fun q hq => by cases hq), kb, b2, mb, b3⟩, b1⟩
    | 2, hq => cases hq; exact ⟨fun N z => ⟨(fun q hq => by cases hq), kd, d2, md, d3⟩, d1⟩
    | 3, hq => cases hq; exact ⟨fun N z => ⟨(fun q hq => by cases hq), ke, e2, me, e3⟩, e1⟩
    | 4, hq => cases hq; exact ⟨fun N z => ⟨(fun q hq => by cases hq), kf, f2, mf, f3⟩, f1⟩
    | k + 5, hq => simp [tyK] at hq
  have hS : va_S (fun q : Nat => s.heap.size ≤ q) s.heap s.heap [] := va_S.rf
  have hP : va_P D vc [] s.heap := fun k q h => by simp at h
  have hD : va_D (fun q : Nat => s.heap.size ≤ q) [] := ⟨fun i j p q h => by simp at h, fun k q h => by simp at h⟩
  have hl := lv_entry ([.ref b]) (n := 8) (Nat.le_of_ble_eq_true rfl)
  rw [lg_entry_eq]
  generalize (lg_sl ([.ref b]) ++ List.replicate (8 - (lg_sl ([.ref b])).length) Slot.unset).toArray = ls at hl ⊢
  have hl : lv_has ls 8 [(0, .ref b)] := hl
  refine va_new (ci := 2) (fs := [.int 0, .null, .null, .null, .int 0]) (C := RX2) (T := TX2) (N := 5) hx hb hts usX2 tyX2 tyX2_ok hown (hts _ gw_64) (hts _ gw_65) (hts _ gw_53) hK hP hD hS hA rfl (fun j hj => by rcases (show j = 0 ∨ j = 1 ∨ j = 2 ∨ j = 3 ∨ j = 4 by omega) with rfl | rfl | rfl | rfl | rfl <;> rfl) (Nat.le_of_ble_eq_true rfl) (Nat.le_of_ble_eq_true rfl) dL_law_0 (fun x0 H hP hD hS => ?_)
  have hP : va_P D vc ([(x0, .inr (2, [.int 0, .null, .null, .null, .int 0]))]) H := hP
  have hD : va_D (fun q : Nat => s.heap.size ≤ q) ([(x0, .inr (2, [.int 0, .null, .null, .null, .int 0]))]) := hD
  refine lv_dup hx hb dL_law_3 rfl ?_
  refine lv_aload_n hx hb dL_law_4 rfl (lv_at hl 0 rfl) ?_
  refine lv_iconst (v := nI 0) hx hb dL_law_5 (by decide) ?_
  refine va_calli (va_runS (As := [.ref b, .int (nI 0)]) (rest := [.ref x0, .ref x0]) ⟨hx, hb, hml, hown, hts⟩ (ctL_cell l H.size b L xs hL) (va_cwS 2 hts (gi_S gw_271 gw_272 gw_52 gw_273) rfl rfl rfl (by decide +kernel) ⟨Nat.le_of_ble_eq_true rfl, Nat.le_of_ble_eq_true rfl⟩) ⟨clP_blind, fun U hU hW => ⟨rfl, by rw [hU], by rw [hU]; exact va_X.moved hW.alike (hX.kept (hS.2.1 b hbl hbA)), Nat.lt_of_lt_of_le hbl hS.1⟩⟩ rfl rfl hl.1 rfl (lv_room (Nat.le_of_ble_eq_true rfl)) dL_law_6 ⟨Nat.le_of_ble_eq_true rfl, Nat.le_of_ble_eq_true rfl⟩) hS (fun q h1 h2 => Nat.le_trans hS.1 h2) (fun q h => Nat.le_trans hS.1 h) (fun n0 u0 t H1 locs ht hvm hn0 hB hz hk hS => ?_)
  have hP : va_P D vc ([(x0, .inr (2, [.int 0, .null, .null, .null, .int 0]))]) H1 := hP.kept (fun k q h => hk q.1 ((hP k q h).lt) (fun z => by have h9 := (hP k q h).lt; omega))
  generalize H1 = H at hP hS ⊢
  have hS00 := hS
  refine va_callv (va_runI (As := [.int n0]) (rest := [.ref x0]) ⟨hx, hb, hml, hown, hts⟩ (ctX2_init l D cs x0 H.size n0) (cwI 1 hts (gi_C gw_68) rfl rfl rfl (hts _ gw_53) (hts _ gw_66) (hts _ gw_67) rfl (by decide +kernel) ⟨Nat.le_of_ble_eq_true rfl, Nat.le_of_ble_eq_true rfl⟩) ⟨gC_blind, gC_pre hP hK hD hN hAI hAL⟩ rfl rfl hl.1 rfl (lv_room (Nat.le_of_ble_eq_true rfl)) dL_law_9 ⟨Nat.le_of_ble_eq_true rfl, Nat.le_of_ble_eq_true rfl⟩) hS (fun q _ h => g_free hD hS hA q h) (g_free hD hS hA) (fun ad t H1 locs ht hvm hw hB hz1 hk1 hS => ?_)
  have hw : ad 0 = x0 := hw
  obtain ⟨hP1, -, hD1⟩ := hB
  rw [ht] at hP1
  have hP := hP1
  have hD := hD1.weaken (fun _ _ _ h => g_free hD hS00 hA _ h)
  generalize H1 = H at hP hS ⊢
  rw [← hw]
  refine lv_astore_n (lv' := [(1, .ref (ad 0)), (0, .ref b)]) hx hb dL_law_12 rfl hl (by decide) rfl (fun ls hl => ?_)
  refine va_new (ci := 3) (fs := [.int 0, .int 0, .int 0, .null, .int 0, .null, .null, .null, .null, .null, .null, .long 0, .long 0, .long 0, .null, .int 0, .null, .null, .null, .null, .null, .long 0, .null]) (C := RX3) (T := TX3) (N := 23) hx hb hts usX3 tyX3 tyX3_ok hown (hts _ gw_498) (hts _ gw_499) (hts _ gw_57) hK hP hD hS hA rfl (fun j hj => by rcases (show j = 0 ∨ j = 1 ∨ j = 2 ∨ j = 3 ∨ j = 4 ∨ j = 5 ∨ j = 6 ∨ j = 7 ∨ j = 8 ∨ j = 9 ∨ j = 10 ∨ j = 11 ∨ j = 12 ∨ j = 13 ∨ j = 14 ∨ j = 15 ∨ j = 16 ∨ j = 17 ∨ j = 18 ∨ j = 19 ∨ j = 20 ∨ j = 21 ∨ j = 22 by omega) with rfl | rfl | rfl | rfl | rfl | rfl | rfl | rfl | rfl | rfl | rfl | rfl | rfl | rfl | rfl | rfl | rfl | rfl | rfl | rfl | rfl | rfl | rfl <;> rfl) (Nat.le_of_ble_eq_true rfl) (Nat.le_of_ble_eq_true rfl) dL_law_13 (fun y0 H hP hD hS => ?_)
  have hP : va_P D vc (wT cs ad (I0 n0) (fun _ _ => 0) (fun _ _ => 0) (fun _ _ => 0) ++ [(y0, .inr (3, [.int 0, .int 0, .int 0, .null, .int 0, .null, .null, .null, .null, .null, .null, .long 0, .long 0, .long 0, .null, .int 0, .null, .null, .null, .null, .null, .long 0, .null]))]) H := hP
  have hD : va_D (fun q : Nat => s.heap.size ≤ q) (wT cs ad (I0 n0) (fun _ _ => 0) (fun _ _ => 0) (fun _ _ => 0) ++ [(y0, .inr (3, [.int 0, .int 0, .int 0, .null, .int 0, .null, .null, .null, .null, .null, .null, .long 0, .long 0, .long 0, .null, .int 0, .null, .null, .null, .null, .null, .long 0, .null]))]) := hD
  refine lv_dup hx hb dL_law_16 rfl ?_
  refine lv_aload_n hx hb dL_law_17 rfl (lv_at hl 1 rfl) ?_
  refine lv_iconst (v := nI 0) hx hb dL_law_18 (by decide) ?_
  refine va_calli (va_runS (As := [.ref b, .int (nI 0)]) (rest := [.ref y0, .ref y0]) ⟨hx, hb, hml, hown, hts⟩ (ctL_cell l H.size b L xs hL) (va_cwS 2 hts (gi_S gw_271 gw_272 gw_52 gw_273) rfl rfl rfl (by decide +kernel) ⟨Nat.le_of_ble_eq_true rfl, Nat.le_of_ble_eq_true rfl⟩) ⟨clP_blind, fun U hU hW => ⟨rfl, by rw [hU], by rw [hU]; exact va_X.moved hW.alike (hX.kept (hS.2.1 b hbl hbA)), Nat.lt_of_lt_of_le hbl hS.1⟩⟩ rfl rfl hl.1 rfl (lv_room (Nat.le_of_ble_eq_true rfl)) dL_law_19 ⟨Nat.le_of_ble_eq_true rfl, Nat.le_of_ble_eq_true rfl⟩) hS (fun q h1 h2 => Nat.le_trans hS.1 h2) (fun q h => Nat.le_trans hS.1 h) (fun n1 u0 t H1 locs ht hvm hn1 hB hz hk hS => ?_)
  have hP : va_P D vc (wT cs ad (I0 n0) (fun _ _ => 0) (fun _ _ => 0) (fun _ _ => 0) ++ [(y0, .inr (3, [.int 0, .int 0, .int 0, .null, .int 0, .null, .null, .null, .null, .null, .null, .long 0, .long 0, .long 0, .null, .int 0, .null, .null, .null, .null, .null, .long 0, .null]))]) H1 := hP.kept (fun k q h => hk q.1 ((hP k q h).lt) (fun z => by have h9 := (hP k q h).lt; omega))
  generalize H1 = H at hP hS ⊢
  have hPy := P_r hP
  have hDy := D_r hD
  have hS8 := hS
  refine va_callv (va_runI (As := [.int n1]) (rest := [.ref y0]) ⟨hx, hb, hml, hown, hts⟩ (ctX3_init l D cs y0 H.size n1) (cwI 1 hts (gi_C gw_502) rfl rfl rfl (hts _ gw_57) (hts _ gw_500) (hts _ gw_501) rfl (by decide +kernel) ⟨Nat.le_of_ble_eq_true rfl, Nat.le_of_ble_eq_true rfl⟩) ⟨gC_blind, gC_pre hPy hK hDy hN hAI hAL⟩ rfl rfl hl.1 rfl (lv_room (Nat.le_of_ble_eq_true rfl)) dL_law_22 ⟨Nat.le_of_ble_eq_true rfl, Nat.le_of_ble_eq_true rfl⟩) hS (fun q _ h => g_free hDy hS hA q h) (g_free hDy hS hA) (fun am t H1 locs ht hvm hw hB hz1 hk1 hS => ?_)
  have hw : am 0 = y0 := hw
  obtain ⟨hP1, -, hD1⟩ := hB
  rw [ht] at hP1
  have hP9 : va_P D vc (wT cs ad (I0 n0) (fun _ _ => 0) (fun _ _ => 0) (fun _ _ => 0)) H1 := (P_l hP).kept (fun k q h => hk1 q.1 ((P_l hP) k q h).lt (by
    rintro (⟨j, e9, hj⟩ | h9)
    · exact D_x hD h hj rfl
    · exact absurd ((P_l hP) k q h).lt (by omega)))
  have hj0 : ∀ (k : Nat) (q : Nat × va_E), (wT cs ad (I0 n0) (fun _ _ => 0) (fun _ _ => 0) (fun _ _ => 0))[k]? = some q → q.1 < H.size := fun k q h => ((P_l hP) k q h).lt
  have hP := hP9.app hP1
  have hD := va_D.app (D_l hD) (hD1.weaken (fun _ _ _ h => g_free hDy hS8 hA _ h)) (fun i j p9 q9 hi hj => by
    have h8 := hD1.2 j q9 hj
    intro e9
    rcases h8 with ⟨k8, e8, h8⟩ | h8
    · exact D_x hD hi h8 e9
    · exact absurd (hj0 i p9 hi) (by omega))
  generalize H1 = H at hP hS ⊢
  rw [← hw]
  refine lv_astore_n (lv' := [(2, .ref (am 0)), (1, .ref (ad 0)), (0, .ref b)]) hx hb dL_law_25 rfl hl (by decide) rfl (fun ls hl => ?_)
  refine lv_iconst (v := nI 1) hx hb dL_law_26 (by decide) ?_
  refine b_newa (atype := .long) (t0 := 1) (ty := .long) (a0 := (1, .inr (.inl (fun _ => 0)))) hx hb (hts _ gw_107) rfl (by intro C h; cases h) rfl hK hP hD hS hA 1 (fun _ => rfl) (by decide) (by decide) (Nat.le_of_ble_eq_true rfl) (Nat.le_of_ble_eq_true rfl) dL_law_27 (fun o H hP hD hS => ?_)
  refine lv_astore_n (lv' := [(3, .ref o), (2, .ref (am 0)), (1, .ref (ad 0)), (0, .ref b)]) hx hb dL_law_29 rfl hl (by decide) rfl (fun ls hl => ?_)
  refine lv_iconst (v := nI 1) hx hb dL_law_30 (by decide) ?_
  refine lv_istore (lv' := [(4, .int (nI 1)), (3, .ref o), (2, .ref (am 0)), (1, .ref (ad 0)), (0, .ref b)]) hx hb dL_law_31 hl (by decide) rfl (fun ls hl => ?_)
  have hn01 : n0 = n1 := by rw [hn0, hn1]
  subst hn01
  have hC : LC p s m meth c D cs b L xs sa := ⟨hx, hb, hr, hml, hown, hts, hlocks, hK, hN, hX, hbl, hXW, hXN⟩
  refine law_loop hM hlt hC hL 512 1 ((I0 n0, (fun _ _ => 0), (fun _ _ => 0), (fun _ _ => 0)), fun _ => 0) ((fun k => if k = 1 then nOf n0 else 0), (fun _ => 0), (fun _ _ => 0), (fun _ => 0), (fun _ _ => 0)) H _ ls _ _ (by omega) (by decide) (by decide) (by decide) ⟨?_, ?_, hS, ?_⟩ (lv_sub hl [0, 1, 2, 4, 3] rfl)
  · exact P3 hP
  · exact D3 hD
  · exact Inv0 n0
