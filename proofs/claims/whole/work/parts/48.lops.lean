/-! What the law needs of the mathematics, operation by operation; the law's own steps. -/
/-- class and model hold the same system -/
def Inv (u : TS) (v : MS) : Prop := (1 ≤ u.1 0 ∧ u.1 0 ≤ 3 ∧ u.1 1 ≤ 3) ∧ (v.1 1 = u.1 0 ∧ v.1 2 = u.1 1) ∧ (∀ i j, i < u.1 1 → j ≤ u.1 0 → v.2.2.2.1 (plc (u.1 0) i j) = u.2.2.1 (i + 8) j ∧ -9 ≤ (u.2.2.1 (i + 8) j).toInt ∧ (u.2.2.1 (i + 8) j).toInt ≤ 9) ∧ ((∀ r, r < 3 → u.2.1 7 r < 6) ∧ ∀ k, k < 7 → u.2.1 5 k < 2 ^ 31) ∧ okA v.2.2.1
/-- the helper's outcome and the model's answer r and state v agree -/
def Agree (k : Nat × Int64 × TS) (r : Int64) (v : MS) : Prop := nI (v.1 0) = nI k.1 ∧ k.1 < 4 ∧ (k.1 = 0 → k.2.1 = r) ∧ Inv k.2.2 v
abbrev lk9 (v : MS) : Nat × (Nat → Nat → Nat) × (Nat → Nat → Int64) := lkF (v.1 1) (v.1 2) v.2.2.2.1 v.2.2.1 v.2.2.2.2
abbrev mL (v : MS) : MS := (up1 (up1 v.1 0 0) 3 (lk9 v).1, v.2.1, (lk9 v).2.1, v.2.2.2.1, (lk9 v).2.2)
def M_eq : Prop := ∀ u v, Inv u v → Agree (clEq u) (Int32.toInt64 (if v.1 2 = 3 then nI 0 else nI (v.1 2))) (eqM v.1 v.2.1 v.2.2.1 v.2.2.2.1 v.2.2.2.2)
def M_put : Prop := ∀ u v g x w, Inv u v → Agree (clPut u g x w) (if puR v.1 v.2.2.2.1 g x w = 0 then 0 else 1) (puM v.1 v.2.1 v.2.2.1 v.2.2.2.1 v.2.2.2.2 g x w)
def M_at : Prop := ∀ u v g x, Inv u v → Agree (clAt u g x) (Int32.toInt64 (if plM v.1 g x then atM v.1 v.2.2.2.1 g x else nI 0)) (up1 v.1 0 (if plM v.1 g x then 0 else 1), v.2.1, v.2.2.1, v.2.2.2.1, v.2.2.2.2)
def M_rank : Prop := ∀ u v, Inv u v → (E9 u).1 = (lk9 v).1 ∧ Inv (tE u) (mL v)
def M_sol : Prop := ∀ u v, Inv u v → (if agr (u.1 0) (u.1 1) (E9 u) then nI (u.1 0 - (E9 u).1) else -1) = (if plok (v.1 1) (v.1 2) v.2.2.2.1 v.2.2.1 v.2.2.2.2 then nI (v.1 1 - (lk9 v).1) else -1) ∧ ∀ G X, Inv (tE u) (up1 (up1 v.1 0 0) 3 (lk9 v).1, G, (lk9 v).2.1, v.2.2.2.1, X)
def M_free : Prop := ∀ u v k, Inv u v → enc (fr9 u k) = enc (fra (lk9 v).2.1 k (v.1 1) 0 0) ∧ Inv (tE u) (mL v)
def M_plain : Prop := ∀ u v x q, Inv u v → (∀ c, c < (lk9 v).1 → okLow (plAL (v.1 1) (v.1 2) v.2.2.2.1 v.2.2.1 v.2.2.2.2 7 c) (plall (v.1 1) (v.1 2) v.2.2.2.1 v.2.2.1 v.2.2.2.2)) ∧ Agree (clPlain u x q) (plnR v.1 v.2.1 v.2.2.1 v.2.2.2.1 v.2.2.2.2 x q) (plnS v.1 v.2.1 v.2.2.1 v.2.2.2.1 v.2.2.2.2 x q)
def M_dir : Prop := ∀ u v k x q, Inv u v → (∀ f, frA (v.1 1) (v.1 2) v.2.2.2.1 v.2.2.1 v.2.2.2.2 k = some f → ∀ c, c < (lk9 v).1 → okLow (diAL (v.1 1) (v.1 2) f v.2.2.2.1 v.2.2.1 v.2.2.2.2 7 c) (diall (v.1 1) (v.1 2) f v.2.2.2.1 v.2.2.1 v.2.2.2.2)) ∧ Agree (clDir u k x q) (dirR v.1 v.2.1 v.2.2.1 v.2.2.2.1 v.2.2.2.2 k x q) (dirS v.1 v.2.1 v.2.2.1 v.2.2.2.1 v.2.2.2.2 k x q)
abbrev fb9 (v : MS) : Nat × (Nat → Nat → Nat) × (Nat → Nat → Int64) := fbS (v.1 1) (v.1 2) v.2.2.2.1 v.2.2.1 v.2.2.2.2
abbrev fl9 (v : MS) : Nat × (Nat → Nat → Nat) × (Nat → Nat → Int64) := fwL (v.1 1) (v.1 2) v.2.2.2.1 v.2.2.1 v.2.2.2.2
abbrev ff9 (v : MS) (mo : Nat → Nat) : Bool × (Nat → Nat → Int64) := fwF (v.1 1) (v.1 2) v.2.2.2.1 v.2.2.1 v.2.2.2.2 mo
def M_whole : Prop := ∀ u v, Inv u v → ∃ mo, okB (v.1 1) (v.1 2) v.2.2.2.1 v.2.2.1 v.2.2.2.2 ∧ okW (v.1 1) (v.1 2) v.2.2.2.1 v.2.2.1 v.2.2.2.2 mo ∧ re9 u = (ff9 v mo).1 ∧ ∀ G9, Inv (tS u) (up1 (up1 (up1 (up1 v.1 0 0) 3 (lk9 v).1) 4 (fb9 v).1) 3 (fl9 v).1, G9, (fl9 v).2.1, v.2.2.2.1, (ff9 v mo).2)
def M_base : Prop := ∀ u v k x, Inv u v → okB (v.1 1) (v.1 2) v.2.2.2.1 v.2.2.1 v.2.2.2.2 ∧ Agree (clBase u k x) (basR v.1 v.2.2.1 v.2.2.2.1 v.2.2.2.2 k x) (basS v.1 v.2.1 v.2.2.1 v.2.2.2.1 v.2.2.2.2 k x)
def M_least : Prop := ∀ u v x, Inv u v → ∃ mo, okB (v.1 1) (v.1 2) v.2.2.2.1 v.2.2.1 v.2.2.2.2 ∧ okW (v.1 1) (v.1 2) v.2.2.2.1 v.2.2.1 v.2.2.2.2 mo ∧ ∀ v', leaI v.1 v.2.2.1 v.2.2.2.1 v.2.2.2.2 mo x v' → Agree (clLeast u x) (leaR v.1 v.2.2.1 v.2.2.2.1 v.2.2.2.2 mo x) v'
abbrev nr9 (v : MS) : Int64 × (Nat → Nat → Int64) := nrF (v.1 1) (v.1 2) v.2.2.2.1 v.2.2.1 v.2.2.2.2
def M_near : Prop := ∀ u v x q, Inv u v → (∀ y, y < v.1 1 → okLow ((nr9 v).2 13 y) (nr9 v).1) ∧ Agree (clNear u x q) (neaR v.1 v.2.1 v.2.2.1 v.2.2.2.1 v.2.2.2.2 x q) (neaS v.1 v.2.1 v.2.2.1 v.2.2.2.1 v.2.2.2.2 x q)
def M_squ : Prop := ∀ u v q, Inv u v → okLow (squV (v.1 1) (v.1 2) v.2.2.2.1 v.2.2.1 v.2.2.2.2) (nr9 v).1 ∧ Agree (clSqu u q) (squR v.1 v.2.1 v.2.2.1 v.2.2.2.1 v.2.2.2.2 q) (squS v.1 v.2.1 v.2.2.1 v.2.2.2.1 v.2.2.2.2 q)
def M_box : Prop := ∀ u v q, Inv u v → Agree (clBox u q) (Int32.toInt64 (if faM q then nI (boxM (v.1 1) (v.1 2) q.toNatClampNeg v.2.2.2.1) else nI 0)) (if faM q then (up1 v.1 0 0, v.2.1, v.2.2.1, v.2.2.2.1, v.2.2.2.2) else (up1 v.1 0 1, v.2.1, v.2.2.1, v.2.2.2.1, v.2.2.2.2))
abbrev m0 (v : MS) : MS := (up1 v.1 0 0, v.2.1, v.2.2.1, v.2.2.2.1, v.2.2.2.2)
def M_solves : Prop := ∀ u v x y z, Inv u v → (fnd (fun k => exc (u.1 0) u.2.2.1 k (Int32.toInt64 x) (Int32.toInt64 y) (Int32.toInt64 z) ≠ 0) (u.1 1) 0).isNone = isS (v.1 1) (v.1 2) v.2.2.2.1 (Int32.toInt64 x) (Int32.toInt64 y) (Int32.toInt64 z) ∧ Inv u (m0 v)
theorem Inv.code {u : TS} {v : MS} (h : Inv u v) (k : Nat) : Inv u (up1 v.1 0 k, v.2.1, v.2.2.1, v.2.2.2.1, v.2.2.2.2) := h
theorem Inv.clear {u : TS} {v : MS} (h : Inv u v) : Inv (up1 u.1 1 0, u.2) (up1 (up1 v.1 0 0) 2 0, v.2) := ⟨⟨h.1.1, h.1.2.1, Nat.zero_le _⟩, ⟨h.2.1.1, rfl⟩, fun i j hi _ => absurd hi (Nat.not_lt_zero _), h.2.2.2.1, h.2.2.2.2⟩
/-- the law's own standing facts -/
def LC (p : Program) (s : State) (m : MethodId) (meth : Method) (c : Code) (D : va_G) (cs : Nat → ClassId) (b L : Nat) (xs : Nat → Int32) (sa : Nat → Nat) : Prop :=
  p.tables.exec = Jvm.exec ∧ c.code = code ∧ meth.sig.returnType = ret ∧ c.maxLocals = 8 ∧ s.vm.findClass RL = some m.cls ∧ (∀ w ∈ GW, w.before #[Value.ref b] s = true) ∧ meth.locks = false ∧ va_K D vc (tyK cs) s ∧ NW s ∧ va_X b L xs s s.heap ∧ b < s.heap.size ∧ XW sa (fun q : Nat => s.heap.size ≤ q) s s.heap ∧ XN s
/-- the worlds of class and model, and how they stand to each other -/
def LSt (s : State) (D : va_G) (cs : Nat → ClassId) (ad am : Nat → Nat) (o : Nat) (w : TS × (Nat → Int64)) (v : MS) (H : Heap) (locs : List Loc) : Prop :=
  va_P D vc (wH cs ad o w ++ wMs cs am v) H ∧ va_D (fun q : Nat => s.heap.size ≤ q) (wH cs ad o w ++ wMs cs am v) ∧ va_S (fun q : Nat => s.heap.size ≤ q) s.heap H locs ∧ Inv w.1 v
abbrev lvL (b o x y i : Nat) : List (Nat × Value) := [(4, .int (nI i)), (3, .ref o), (2, .ref y), (0, .ref b), (1, .ref x)]
theorem gi_SW {own : String} {idx maxL : Nat} {y : MethodName} {bytes : ByteArray} {ret : Option FieldType} {hh : List (Nat × Nat × Nat × Nat)} (hm : Cond.methodLink own idx y ∈ GW) (hi : Cond.static y ∈ GW) (hini : Cond.initialized y.cls ∈ GW) (hc : Cond.codeWith y bytes maxL ret hh ∈ GW) : GoodIn GW (va_wsS own idx y (Cond.codeWith y bytes maxL ret hh :: GW)) := by
  intro w hw
  have h9 : w ∈ GW := by
    unfold va_wsS at hw
    rcases List.mem_append.mp hw with h | h
    · simp only [List.mem_cons, List.not_mem_nil, or_false] at h
      rcases h with rfl | rfl | rfl
      · exact hm
      · exact hi
      · exact hini
    · rcases List.mem_cons.mp h with rfl | h
      · exact hc
      · exact h
  exact ⟨h9, gw_good h9⟩
section L48
variable {p : Program} {l : Launch} {e : Env} {R : Room} {s : State} {m : MethodId} {args : Array Value} {below : List Frame} {meth : Method} {c : Code} {H : Heap} {locs : List Loc} {cells slots : Nat} {Q : State → Prop}
variable {cc : ByteArray} {pc : Nat} {ls : Array Slot} {rest : List Value} {D : va_G} {cs : Nat → ClassId} {A : Nat → Prop} {H0 : Heap} {wa w9 : va_W} {o n : Nat} {f : Nat → Int64}
theorem l_sld (hx : p.tables.exec = Jvm.exec) (hb : c.code = cc) {b L : Nat} {xs : Nat → Int32} (hX : va_X b L xs s H0) (hbl : b < H0.size) (hbA : ¬ A b) (hS : va_S A H0 H locs) {j : Nat} (hj : j < L) (hL : L < 2 ^ 31) (hdg : decode cc pc = .ok (.iaload, 1))
    (kk : W p l e R s m args below meth c H locs cells slots Q (F0 m (pc + 1) ls (.int (xs j) :: rest))) : W p l e R s m args below meth c H locs cells slots Q (F0 m pc ls (.int (nI j) :: .ref b :: rest)) := by
  refine va_sld hx hb hX hbl hbA hS (vp_in_nI hj hL) hdg ?_
  rw [nI_clamp (by omega)]
  exact kk
theorem l_out (hx : p.tables.exec = Jvm.exec) (hb : c.code = cc) (hK : va_K D vc (tyK cs) s) (hP : va_P D vc ((wa ++ [(o, .inl (cs 1, 1, .inr (.inl f)))]) ++ w9) H) (hlen : wa.length = n) (hdg : decode cc pc = .ok (.laload, 1))
    (kk : W p l e R s m args below meth c H locs cells slots Q (F0 m (pc + 1) ls (.long (f 0) :: rest))) : W p l e R s m args below meth c H locs cells slots Q (F0 m pc ls (.int (nI 0) :: .ref o :: rest)) := by
  refine va_lald hx hb hK (P_l hP) n 1 (h_at hlen) rfl (vp_in_nI (by decide) (by decide)) hdg ?_
  rw [nI_clamp (by decide)]
  exact kk
end L48

set_option maxHeartbeats 4000000 in
set_option maxRecDepth 100000 in
theorem lo_equation {p : Program} {l : Launch} (hlt : l.stackTraces = false) {e : Env} {s : State} {m : MethodId} {below : List Frame} {meth : Method} {c : Code} {H : Heap} {locs : List Loc} {cells slots : Nat} {Q : State → Prop} {ls : Array Slot} {D : va_G} {cs : Nat → ClassId} {ad am : Nat → Nat} {o b L i : Nat} {xs : Nat → Int32} {sa : Nat → Nat} (hM : M_eq) {w : TS × (Nat → Int64)} {v : MS} (hC : LC p s m meth c D cs b L xs sa) (hLS : LSt s D cs ad am o w v H locs) (hi : i + 4 ≤ L) (hL : L ≤ 2049) (hc : cells + 1 ≤ 666090) (hs : slots + 6 ≤ 7097800) (hl : lv_has ls 8 (lvL b o (ad 0) (am 0) i))
    (kk : ∀ (w : TS × (Nat → Int64)) (v : MS) (H : Heap) (locs : List Loc) (ls : Array Slot), LSt s D cs ad am o w v H locs → lv_has ls 8 (lvL b o (ad 0) (am 0) i) → W p l e room_1 s m #[Value.ref b] below meth c H locs (cells + 1) (slots + 6) Q (F0 m 926 ls [])) : W p l e room_1 s m #[Value.ref b] below meth c H locs cells slots Q (F0 m 132 ls []) := by
  obtain ⟨hx, hb, hr, hml, hown, hts, hlocks, hK, hN, hX, hbl, hXW, hXN⟩ := hC
  obtain ⟨⟨I, AN, AI, AL⟩, f⟩ := w
  obtain ⟨J, G, BN, BI, BL⟩ := v
  obtain ⟨hP, hD, hS, hI⟩ := hLS
  have hA : ∀ q : Nat, s.heap.size ≤ q → (fun q : Nat => s.heap.size ≤ q) q := fun _ h => h
  have hbA : ¬ (fun q : Nat => s.heap.size ≤ q) b := Nat.not_le.mpr hbl
  have hn3 : I 0 ≤ 3 := hI.1.2.1
  have he3 : I 1 ≤ 3 := hI.1.2.2
  have hbg : ∀ r, r < 3 → AN 7 r < 6 := hI.2.2.2.1.1
  have hdc : ∀ k, k < 7 → AN 5 k < 2 ^ 31 := hI.2.2.2.1.2
  have hok : okA BN := hI.2.2.2.2
  have eJ1 : J 1 = I 0 := hI.2.1.1
  have eJ2 : J 2 = I 1 := hI.2.1.2
  have hj1 : J 1 ≤ 3 := by omega
  have hj2 : J 2 ≤ 3 := by omega
  have hl : lv_has ls 8 [(4, .int (nI i)), (3, .ref o), (2, .ref (am 0)), (0, .ref b), (1, .ref (ad 0))] := hl
  have hAg := hM (I, AN, AI, AL) (J, G, BN, BI, BL) hI
  dsimp only at hAg
  refine lv_aload_n hx hb dL_law_132 rfl (lv_at hl 4 rfl) ?_
  refine lv_aload_n hx hb dL_law_133 rfl (lv_at hl 1 rfl) ?_
  refine f_calli (wf := wH cs ad o) (vx_runSW (As := [.ref (ad 0), .ref o]) (rest := []) ⟨hx, hb, hml, hown, hts⟩ (ctL_equation l hlt D cs ad I AN AI AL f o _ sa hn3 he3) (vx_cwSW 2 hts (gi_SW gw_274 gw_275 gw_52 gw_276) rfl rfl rfl (by decide +kernel) ⟨Nat.le_of_ble_eq_true rfl, Nat.le_of_ble_eq_true rfl⟩) ⟨gH_blind, gH_pre (P_l hP) hK (D_l hD) hN hS hA hXW hXN⟩ rfl rfl hl.1 rfl (lv_room (Nat.le_of_ble_eq_true rfl)) dL_law_134 ⟨hc, hs⟩) hP hD hS hA (fun _ => wH_ads) (fun r w9 H locs hw hP hD hS => ?_)
  obtain ⟨u9, f9⟩ := w9
  obtain ⟨rfl, hw2, hw3⟩ := hw
  have hw2 : u9 = (clEq (I, AN, AI, AL)).2.2 := hw2
  have hw3 : (clEq (I, AN, AI, AL)).1 = 0 → f9 0 = (clEq (I, AN, AI, AL)).2.1 := hw3
  obtain ⟨k9, hk9⟩ : ∃ k9, k9 = (clEq (I, AN, AI, AL)).1 := ⟨_, rfl⟩
  rw [← hk9] at hw3 ⊢
  refine lv_istore (lv' := [(5, .int (nI k9)), (4, .int (nI i)), (3, .ref o), (2, .ref (am 0)), (0, .ref b), (1, .ref (ad 0))]) hx hb dL_law_137 hl (by decide) rfl (fun ls hl => ?_)
  refine lv_aload_n hx hb dL_law_139 rfl (lv_at hl 3 rfl) ?_
  refine f_calli (wf := wMs cs am) (va_runV (As := []) (rest := []) ⟨hx, hb, hml, hown, hts⟩ (ctX3_equation l D cs am J G BN BI BL _ hj2) (cwV 0 hts (gi_V gw_579 gw_580 gw_581 gw_57 gw_582) rfl rfl rfl (by decide +kernel) ⟨Nat.le_of_ble_eq_true rfl, Nat.le_of_ble_eq_true rfl⟩) ⟨g_blind, va_recv hK (P_l (P_swap hP)) (ci := 3) (q0 := 0) rfl (wm_at (by decide) rfl), g_pre (P_l (P_swap hP)) hK (D_l (D_swap hD)) hN⟩ rfl rfl hl.1 rfl (lv_room (Nat.le_of_ble_eq_true rfl)) dL_law_140 ⟨show _ ≤ 666090 by omega, show _ ≤ 7097800 by omega⟩) (P_swap hP) (D_swap hD) hS hA (fun _ => wm_ads) (fun rm v9 H locs hw hP hD hS => ?_)
  obtain ⟨hv9, hrm⟩ := hw
  obtain ⟨r9, hr9⟩ : ∃ r9, r9 = rm := ⟨_, rfl⟩
  rw [← hr9] at hrm ⊢
  rw [← hrm, ← hv9] at hAg
  have hP : va_P D vc (wH cs ad o (u9, f9) ++ wMs cs am v9) H := P_swap hP
  have hD : va_D (fun q : Nat => s.heap.size ≤ q) (wH cs ad o (u9, f9) ++ wMs cs am v9) := D_swap hD
  have hag : Agree (clEq (I, AN, AI, AL)) (Int32.toInt64 r9) v9 := hAg
  obtain ⟨hg1, hg2, hg3, hg4⟩ := hag
  rw [← hk9] at hg1 hg2 hg3
  rw [← hw2] at hg4
  obtain ⟨J9, G9, BN9, BI9, BL9⟩ := v9
  refine lv_istore (lv' := [(6, .int r9), (5, .int (nI k9)), (4, .int (nI i)), (3, .ref o), (2, .ref (am 0)), (0, .ref b), (1, .ref (ad 0))]) hx hb dL_law_143 hl (by decide) rfl (fun ls hl => ?_)
  refine lv_aload_n hx hb dL_law_145 rfl (lv_at hl 4 rfl) ?_
  refine f_calli (wf := wMs cs am) (va_runV (As := []) (rest := []) ⟨hx, hb, hml, hown, hts⟩ (ctX3_thrown l D cs am J9 G9 BN9 BI9 BL9 _ ) (cwV 0 hts (gi_V gw_575 gw_576 gw_577 gw_57 gw_578) rfl rfl rfl (by decide +kernel) ⟨Nat.le_of_ble_eq_true rfl, Nat.le_of_ble_eq_true rfl⟩) ⟨g_blind, va_recv hK (P_l (P_swap hP)) (ci := 3) (q0 := 0) rfl (wm_at (by decide) rfl), g_pre (P_l (P_swap hP)) hK (D_l (D_swap hD)) hN⟩ rfl rfl hl.1 rfl (lv_room (Nat.le_of_ble_eq_true rfl)) dL_law_146 ⟨show _ ≤ 666090 by omega, show _ ≤ 7097800 by omega⟩) (P_swap hP) (D_swap hD) hS hA (fun _ => wm_ads) (fun rt v8 H locs hw hP hD hS => ?_)
  obtain ⟨rfl, rfl⟩ := hw
  have hP : va_P D vc (wH cs ad o (u9, f9) ++ wMs cs am (J9, G9, BN9, BI9, BL9)) H := P_swap hP
  have hD : va_D (fun q : Nat => s.heap.size ≤ q) (wH cs ad o (u9, f9) ++ wMs cs am (J9, G9, BN9, BI9, BL9)) := D_swap hD
  refine lv_iload hx hb dL_law_149 (lv_at hl 1 rfl) ?_
  refine lv_icmp_eq (tgt := 156) hx hb dL_law_151 (by decide) (fun _ => ?_) (fun q => absurd hg1 q)
  refine lv_iload hx hb dL_law_156 (lv_at hl 1 rfl) ?_
  by_cases hk0 : k9 = 0
  · refine lv_if_ne (tgt := 173) hx hb dL_law_158 (by decide) (fun q => absurd (by rw [hk0]; rfl) q) (fun _ => ?_)
    refine lv_aload_n hx hb dL_law_161 rfl (lv_at hl 3 rfl) ?_
    refine lv_iconst (v := nI 0) hx hb dL_law_162 (by decide) ?_
    refine l_out hx hb hK hP wT_len dL_law_163 ?_
    refine lv_iload hx hb dL_law_164 (lv_at hl 0 rfl) ?_
    refine lv_i2l (v := Int32.toInt64 r9) hx hb dL_law_166 rfl ?_
    have hfin : f9 0 = Int32.toInt64 r9 := by rw [hw3 hk0, hg3 hk0]
    refine b_lceq (tgt := 173) hx hb dL_law_167 dL_law_168 (by decide) (fun _ => ?_) (fun q => absurd hfin q)
    refine lv_goto (tgt := 926) hx hb dL_law_173 (by decide) ?_
    exact kk (u9, f9) (J9, G9, BN9, BI9, BL9) _ _ ls ⟨hP, hD, hS, hg4⟩ (lv_sub hl [2, 3, 4, 5, 6] rfl)
  · refine lv_if_ne (tgt := 173) hx hb dL_law_158 (by decide) (fun _ => ?_) (fun q => absurd ((nI_eq (a := k9) (b := 0) (by omega) (by decide)).mp q) hk0)
    refine lv_goto (tgt := 926) hx hb dL_law_173 (by decide) ?_
    exact kk (u9, f9) (J9, G9, BN9, BI9, BL9) _ _ ls ⟨hP, hD, hS, hg4⟩ (lv_sub hl [2, 3, 4, 5, 6] rfl)

set_option maxHeartbeats 4000000 in
set_option maxRecDepth 100000 in
theorem lo_put {p : Program} {l : Launch} (hlt : l.stackTraces = false) {e : Env} {s : State} {m : MethodId} {below : List Frame} {meth : Method} {c : Code} {H : Heap} {locs : List Loc} {cells slots : Nat} {Q : State → Prop} {ls : Array Slot} {D : va_G} {cs : Nat → ClassId} {ad am : Nat → Nat} {o b L i : Nat} {xs : Nat → Int32} {sa : Nat → Nat} (hM : M_put) {w : TS × (Nat → Int64)} {v : MS} (hC : LC p s m meth c D cs b L xs sa) (hLS : LSt s D cs ad am o w v H locs) (hi : i + 4 ≤ L) (hL : L ≤ 2049) (hc : cells + 1 ≤ 666090) (hs : slots + 6 ≤ 7097800) (hl : lv_has ls 8 (lvL b o (ad 0) (am 0) i))
    (kk : ∀ (w : TS × (Nat → Int64)) (v : MS) (H : Heap) (locs : List Loc) (ls : Array Slot), LSt s D cs ad am o w v H locs → lv_has ls 8 (lvL b o (ad 0) (am 0) i) → W p l e room_1 s m #[Value.ref b] below meth c H locs (cells + 1) (slots + 6) Q (F0 m 926 ls [])) : W p l e room_1 s m #[Value.ref b] below meth c H locs cells slots Q (F0 m 176 ls []) := by
  obtain ⟨hx, hb, hr, hml, hown, hts, hlocks, hK, hN, hX, hbl, hXW, hXN⟩ := hC
  obtain ⟨⟨I, AN, AI, AL⟩, f⟩ := w
  obtain ⟨J, G, BN, BI, BL⟩ := v
  obtain ⟨hP, hD, hS, hI⟩ := hLS
  have hA : ∀ q : Nat, s.heap.size ≤ q → (fun q : Nat => s.heap.size ≤ q) q := fun _ h => h
  have hbA : ¬ (fun q : Nat => s.heap.size ≤ q) b := Nat.not_le.mpr hbl
  have hn3 : I 0 ≤ 3 := hI.1.2.1
  have he3 : I 1 ≤ 3 := hI.1.2.2
  have hbg : ∀ r, r < 3 → AN 7 r < 6 := hI.2.2.2.1.1
  have hdc : ∀ k, k < 7 → AN 5 k < 2 ^ 31 := hI.2.2.2.1.2
  have hok : okA BN := hI.2.2.2.2
  have eJ1 : J 1 = I 0 := hI.2.1.1
  have eJ2 : J 2 = I 1 := hI.2.1.2
  have hj1 : J 1 ≤ 3 := by omega
  have hj2 : J 2 ≤ 3 := by omega
  have hl : lv_has ls 8 [(4, .int (nI i)), (3, .ref o), (2, .ref (am 0)), (0, .ref b), (1, .ref (ad 0))] := hl
  have hAg := hM (I, AN, AI, AL) (J, G, BN, BI, BL) (xs (i + 1)) (xs (i + 2)) (xs (i + 3)) hI
  dsimp only at hAg
  refine lv_aload_n hx hb dL_law_176 rfl (lv_at hl 4 rfl) ?_
  refine lv_aload_n hx hb dL_law_177 rfl (lv_at hl 3 rfl) ?_
  refine lv_iload hx hb dL_law_178 (lv_at hl 0 rfl) ?_
  refine lv_iconst (v := nI 1) hx hb dL_law_180 (by decide) ?_
  refine b_addn hx hb dL_law_181 ?_
  refine l_sld hx hb hX hbl hbA hS (by omega) (by omega) dL_law_182 ?_
  refine lv_aload_n hx hb dL_law_183 rfl (lv_at hl 3 rfl) ?_
  refine lv_iload hx hb dL_law_184 (lv_at hl 0 rfl) ?_
  refine lv_iconst (v := nI 2) hx hb dL_law_186 (by decide) ?_
  refine b_addn hx hb dL_law_187 ?_
  refine l_sld hx hb hX hbl hbA hS (by omega) (by omega) dL_law_188 ?_
  refine lv_aload_n hx hb dL_law_189 rfl (lv_at hl 3 rfl) ?_
  refine lv_iload hx hb dL_law_190 (lv_at hl 0 rfl) ?_
  refine lv_iconst (v := nI 3) hx hb dL_law_192 (by decide) ?_
  refine b_addn hx hb dL_law_193 ?_
  refine l_sld hx hb hX hbl hbA hS (by omega) (by omega) dL_law_194 ?_
  refine lv_aload_n hx hb dL_law_195 rfl (lv_at hl 1 rfl) ?_
  refine f_calli (wf := wH cs ad o) (vx_runSW (As := [.ref (ad 0), .int (xs (i + 1)), .int (xs (i + 2)), .int (xs (i + 3)), .ref o]) (rest := []) ⟨hx, hb, hml, hown, hts⟩ (ctL_put l hlt D cs ad I AN AI AL f o _ sa (xs (i + 1)) (xs (i + 2)) (xs (i + 3)) hn3 he3) (vx_cwSW 5 hts (gi_SW gw_350 gw_351 gw_52 gw_352) rfl rfl rfl (by decide +kernel) ⟨Nat.le_of_ble_eq_true rfl, Nat.le_of_ble_eq_true rfl⟩) ⟨gH_blind, gH_pre (P_l hP) hK (D_l hD) hN hS hA hXW hXN⟩ rfl rfl hl.1 rfl (lv_room (Nat.le_of_ble_eq_true rfl)) dL_law_196 ⟨hc, hs⟩) hP hD hS hA (fun _ => wH_ads) (fun r w9 H locs hw hP hD hS => ?_)
  obtain ⟨u9, f9⟩ := w9
  obtain ⟨rfl, hw2, hw3⟩ := hw
  have hw2 : u9 = (clPut (I, AN, AI, AL) (xs (i + 1)) (xs (i + 2)) (xs (i + 3))).2.2 := hw2
  have hw3 : (clPut (I, AN, AI, AL) (xs (i + 1)) (xs (i + 2)) (xs (i + 3))).1 = 0 → f9 0 = (clPut (I, AN, AI, AL) (xs (i + 1)) (xs (i + 2)) (xs (i + 3))).2.1 := hw3
  obtain ⟨k9, hk9⟩ : ∃ k9, k9 = (clPut (I, AN, AI, AL) (xs (i + 1)) (xs (i + 2)) (xs (i + 3))).1 := ⟨_, rfl⟩
  rw [← hk9] at hw3 ⊢
  refine lv_istore (lv' := [(5, .int (nI k9)), (4, .int (nI i)), (3, .ref o), (2, .ref (am 0)), (0, .ref b), (1, .ref (ad 0))]) hx hb dL_law_199 hl (by decide) rfl (fun ls hl => ?_)
  refine lv_aload_n hx hb dL_law_201 rfl (lv_at hl 3 rfl) ?_
  refine lv_aload_n hx hb dL_law_202 rfl (lv_at hl 4 rfl) ?_
  refine lv_iload hx hb dL_law_203 (lv_at hl 1 rfl) ?_
  refine lv_iconst (v := nI 1) hx hb dL_law_205 (by decide) ?_
  refine b_addn hx hb dL_law_206 ?_
  refine l_sld hx hb hX hbl hbA hS (by omega) (by omega) dL_law_207 ?_
  refine lv_aload_n hx hb dL_law_208 rfl (lv_at hl 4 rfl) ?_
  refine lv_iload hx hb dL_law_209 (lv_at hl 1 rfl) ?_
  refine lv_iconst (v := nI 2) hx hb dL_law_211 (by decide) ?_
  refine b_addn hx hb dL_law_212 ?_
  refine l_sld hx hb hX hbl hbA hS (by omega) (by omega) dL_law_213 ?_
  refine lv_aload_n hx hb dL_law_214 rfl (lv_at hl 4 rfl) ?_
  refine lv_iload hx hb dL_law_215 (lv_at hl 1 rfl) ?_
  refine lv_iconst (v := nI 3) hx hb dL_law_217 (by decide) ?_
  refine b_addn hx hb dL_law_218 ?_
  refine l_sld hx hb hX hbl hbA hS (by omega) (by omega) dL_law_219 ?_
  refine f_calli (wf := wMs cs am) (va_runV (As := [.int (xs (i + 1)), .int (xs (i + 2)), .int (xs (i + 3))]) (rest := []) ⟨hx, hb, hml, hown, hts⟩ (ctX3_put l D cs am J G BN BI BL _ (xs (i + 1)) (xs (i + 2)) (xs (i + 3)) hj1 hj2) (cwV 3 hts (gi_V gw_583 gw_584 gw_585 gw_57 gw_586) rfl rfl rfl (by decide +kernel) ⟨Nat.le_of_ble_eq_true rfl, Nat.le_of_ble_eq_true rfl⟩) ⟨g_blind, va_recv hK (P_l (P_swap hP)) (ci := 3) (q0 := 0) rfl (wm_at (by decide) rfl), g_pre (P_l (P_swap hP)) hK (D_l (D_swap hD)) hN⟩ rfl rfl hl.1 rfl (lv_room (Nat.le_of_ble_eq_true rfl)) dL_law_220 ⟨show _ ≤ 666090 by omega, show _ ≤ 7097800 by omega⟩) (P_swap hP) (D_swap hD) hS hA (fun _ => wm_ads) (fun rm v9 H locs hw hP hD hS => ?_)
  obtain ⟨hv9, hrm⟩ := hw
  obtain ⟨r9, hr9⟩ : ∃ r9, r9 = rm := ⟨_, rfl⟩
  rw [← hr9] at hrm ⊢
  rw [← hrm, ← hv9] at hAg
  have hP : va_P D vc (wH cs ad o (u9, f9) ++ wMs cs am v9) H := P_swap hP
  have hD : va_D (fun q : Nat => s.heap.size ≤ q) (wH cs ad o (u9, f9) ++ wMs cs am v9) := D_swap hD
  have hag : Agree (clPut (I, AN, AI, AL) (xs (i + 1)) (xs (i + 2)) (xs (i + 3))) (if r9 = 0 then 0 else 1) v9 := hAg
  obtain ⟨hg1, hg2, hg3, hg4⟩ := hag
  rw [← hk9] at hg1 hg2 hg3
  rw [← hw2] at hg4
  obtain ⟨J9, G9, BN9, BI9, BL9⟩ := v9
  refine lv_istore (lv' := [(6, .int r9), (5, .int (nI k9)), (4, .int (nI i)), (3, .ref o), (2, .ref (am 0)), (0, .ref b), (1, .ref (ad 0))]) hx hb dL_law_223 hl (by decide) rfl (fun ls hl => ?_)
  refine lv_aload_n hx hb dL_law_225 rfl (lv_at hl 4 rfl) ?_
  refine f_calli (wf := wMs cs am) (va_runV (As := []) (rest := []) ⟨hx, hb, hml, hown, hts⟩ (ctX3_thrown l D cs am J9 G9 BN9 BI9 BL9 _ ) (cwV 0 hts (gi_V gw_575 gw_576 gw_577 gw_57 gw_578) rfl rfl rfl (by decide +kernel) ⟨Nat.le_of_ble_eq_true rfl, Nat.le_of_ble_eq_true rfl⟩) ⟨g_blind, va_recv hK (P_l (P_swap hP)) (ci := 3) (q0 := 0) rfl (wm_at (by decide) rfl), g_pre (P_l (P_swap hP)) hK (D_l (D_swap hD)) hN⟩ rfl rfl hl.1 rfl (lv_room (Nat.le_of_ble_eq_true rfl)) dL_law_226 ⟨show _ ≤ 666090 by omega, show _ ≤ 7097800 by omega⟩) (P_swap hP) (D_swap hD) hS hA (fun _ => wm_ads) (fun rt v8 H locs hw hP hD hS => ?_)
  obtain ⟨rfl, rfl⟩ := hw
  have hP : va_P D vc (wH cs ad o (u9, f9) ++ wMs cs am (J9, G9, BN9, BI9, BL9)) H := P_swap hP
  have hD : va_D (fun q : Nat => s.heap.size ≤ q) (wH cs ad o (u9, f9) ++ wMs cs am (J9, G9, BN9, BI9, BL9)) := D_swap hD
  refine lv_iload hx hb dL_law_229 (lv_at hl 1 rfl) ?_
  refine lv_icmp_eq (tgt := 236) hx hb dL_law_231 (by decide) (fun _ => ?_) (fun q => absurd hg1 q)
  refine lv_iload hx hb dL_law_236 (lv_at hl 1 rfl) ?_
  by_cases hk0 : k9 = 0
  · refine lv_if_ne (tgt := 260) hx hb dL_law_238 (by decide) (fun q => absurd (by rw [hk0]; rfl) q) (fun _ => ?_)
    refine lv_aload_n hx hb dL_law_241 rfl (lv_at hl 3 rfl) ?_
    refine lv_iconst (v := nI 0) hx hb dL_law_242 (by decide) ?_
    refine l_out hx hb hK hP wT_len dL_law_243 ?_
    refine lv_iload hx hb dL_law_244 (lv_at hl 0 rfl) ?_
    by_cases hr0 : r9 = 0
    · refine lv_if_eq (tgt := 253) hx hb dL_law_246 (by decide) (fun _ => ?_) (fun q => absurd hr0 q)
      refine lv_lconst (v := 0) hx hb dL_law_253 (by decide) ?_
      have hfin : f9 0 = 0 := by rw [hw3 hk0, hg3 hk0, if_pos hr0]
      refine b_lceq (tgt := 260) hx hb dL_law_254 dL_law_255 (by decide) (fun _ => ?_) (fun q => absurd hfin q)
      refine lv_goto (tgt := 926) hx hb dL_law_260 (by decide) ?_
      exact kk (u9, f9) (J9, G9, BN9, BI9, BL9) _ _ ls ⟨hP, hD, hS, hg4⟩ (lv_sub hl [2, 3, 4, 5, 6] rfl)
    · refine lv_if_eq (tgt := 253) hx hb dL_law_246 (by decide) (fun q => absurd q hr0) (fun _ => ?_)
      refine lv_lconst (v := 1) hx hb dL_law_249 (by decide) ?_
      refine lv_goto (tgt := 254) hx hb dL_law_250 (by decide) ?_
      have hfin : f9 0 = 1 := by rw [hw3 hk0, hg3 hk0, if_neg hr0]
      refine b_lceq (tgt := 260) hx hb dL_law_254 dL_law_255 (by decide) (fun _ => ?_) (fun q => absurd hfin q)
      refine lv_goto (tgt := 926) hx hb dL_law_260 (by decide) ?_
      exact kk (u9, f9) (J9, G9, BN9, BI9, BL9) _ _ ls ⟨hP, hD, hS, hg4⟩ (lv_sub hl [2, 3, 4, 5, 6] rfl)
  · refine lv_if_ne (tgt := 260) hx hb dL_law_238 (by decide) (fun _ => ?_) (fun q => absurd ((nI_eq (a := k9) (b := 0) (by omega) (by decide)).mp q) hk0)
    refine lv_goto (tgt := 926) hx hb dL_law_260 (by decide) ?_
    exact kk (u9, f9) (J9, G9, BN9, BI9, BL9) _ _ ls ⟨hP, hD, hS, hg4⟩ (lv_sub hl [2, 3, 4, 5, 6] rfl)

set_option maxHeartbeats 4000000 in
set_option maxRecDepth 100000 in
theorem lo_at {p : Program} {l : Launch} (hlt : l.stackTraces = false) {e : Env} {s : State} {m : MethodId} {below : List Frame} {meth : Method} {c : Code} {H : Heap} {locs : List Loc} {cells slots : Nat} {Q : State → Prop} {ls : Array Slot} {D : va_G} {cs : Nat → ClassId} {ad am : Nat → Nat} {o b L i : Nat} {xs : Nat → Int32} {sa : Nat → Nat} (hM : M_at) {w : TS × (Nat → Int64)} {v : MS} (hC : LC p s m meth c D cs b L xs sa) (hLS : LSt s D cs ad am o w v H locs) (hi : i + 4 ≤ L) (hL : L ≤ 2049) (hc : cells + 1 ≤ 666090) (hs : slots + 6 ≤ 7097800) (hl : lv_has ls 8 (lvL b o (ad 0) (am 0) i))
    (kk : ∀ (w : TS × (Nat → Int64)) (v : MS) (H : Heap) (locs : List Loc) (ls : Array Slot), LSt s D cs ad am o w v H locs → lv_has ls 8 (lvL b o (ad 0) (am 0) i) → W p l e room_1 s m #[Value.ref b] below meth c H locs (cells + 1) (slots + 6) Q (F0 m 926 ls [])) : W p l e room_1 s m #[Value.ref b] below meth c H locs cells slots Q (F0 m 263 ls []) := by
  obtain ⟨hx, hb, hr, hml, hown, hts, hlocks, hK, hN, hX, hbl, hXW, hXN⟩ := hC
  obtain ⟨⟨I, AN, AI, AL⟩, f⟩ := w
  obtain ⟨J, G, BN, BI, BL⟩ := v
  obtain ⟨hP, hD, hS, hI⟩ := hLS
  have hA : ∀ q : Nat, s.heap.size ≤ q → (fun q : Nat => s.heap.size ≤ q) q := fun _ h => h
  have hbA : ¬ (fun q : Nat => s.heap.size ≤ q) b := Nat.not_le.mpr hbl
  have hn3 : I 0 ≤ 3 := hI.1.2.1
  have he3 : I 1 ≤ 3 := hI.1.2.2
  have hbg : ∀ r, r < 3 → AN 7 r < 6 := hI.2.2.2.1.1
  have hdc : ∀ k, k < 7 → AN 5 k < 2 ^ 31 := hI.2.2.2.1.2
  have hok : okA BN := hI.2.2.2.2
  have eJ1 : J 1 = I 0 := hI.2.1.1
  have eJ2 : J 2 = I 1 := hI.2.1.2
  have hj1 : J 1 ≤ 3 := by omega
  have hj2 : J 2 ≤ 3 := by omega
  have hl : lv_has ls 8 [(4, .int (nI i)), (3, .ref o), (2, .ref (am 0)), (0, .ref b), (1, .ref (ad 0))] := hl
  have hAg := hM (I, AN, AI, AL) (J, G, BN, BI, BL) (xs (i + 1)) (xs (i + 2)) hI
  dsimp only at hAg
  refine lv_aload_n hx hb dL_law_263 rfl (lv_at hl 4 rfl) ?_
  refine lv_aload_n hx hb dL_law_264 rfl (lv_at hl 3 rfl) ?_
  refine lv_iload hx hb dL_law_265 (lv_at hl 0 rfl) ?_
  refine lv_iconst (v := nI 1) hx hb dL_law_267 (by decide) ?_
  refine b_addn hx hb dL_law_268 ?_
  refine l_sld hx hb hX hbl hbA hS (by omega) (by omega) dL_law_269 ?_
  refine lv_aload_n hx hb dL_law_270 rfl (lv_at hl 3 rfl) ?_
  refine lv_iload hx hb dL_law_271 (lv_at hl 0 rfl) ?_
  refine lv_iconst (v := nI 2) hx hb dL_law_273 (by decide) ?_
  refine b_addn hx hb dL_law_274 ?_
  refine l_sld hx hb hX hbl hbA hS (by omega) (by omega) dL_law_275 ?_
  refine lv_aload_n hx hb dL_law_276 rfl (lv_at hl 1 rfl) ?_
  refine f_calli (wf := wH cs ad o) (vx_runSW (As := [.ref (ad 0), .int (xs (i + 1)), .int (xs (i + 2)), .ref o]) (rest := []) ⟨hx, hb, hml, hown, hts⟩ (ctL_at l hlt D cs ad I AN AI AL f o _ sa (xs (i + 1)) (xs (i + 2)) hn3 he3) (vx_cwSW 4 hts (gi_SW gw_395 gw_396 gw_52 gw_397) rfl rfl rfl (by decide +kernel) ⟨Nat.le_of_ble_eq_true rfl, Nat.le_of_ble_eq_true rfl⟩) ⟨gH_blind, gH_pre (P_l hP) hK (D_l hD) hN hS hA hXW hXN⟩ rfl rfl hl.1 rfl (lv_room (Nat.le_of_ble_eq_true rfl)) dL_law_277 ⟨hc, hs⟩) hP hD hS hA (fun _ => wH_ads) (fun r w9 H locs hw hP hD hS => ?_)
  obtain ⟨u9, f9⟩ := w9
  obtain ⟨rfl, hw2, hw3⟩ := hw
  have hw2 : u9 = (clAt (I, AN, AI, AL) (xs (i + 1)) (xs (i + 2))).2.2 := hw2
  have hw3 : (clAt (I, AN, AI, AL) (xs (i + 1)) (xs (i + 2))).1 = 0 → f9 0 = (clAt (I, AN, AI, AL) (xs (i + 1)) (xs (i + 2))).2.1 := hw3
  obtain ⟨k9, hk9⟩ : ∃ k9, k9 = (clAt (I, AN, AI, AL) (xs (i + 1)) (xs (i + 2))).1 := ⟨_, rfl⟩
  rw [← hk9] at hw3 ⊢
  refine lv_istore (lv' := [(5, .int (nI k9)), (4, .int (nI i)), (3, .ref o), (2, .ref (am 0)), (0, .ref b), (1, .ref (ad 0))]) hx hb dL_law_280 hl (by decide) rfl (fun ls hl => ?_)
  refine lv_aload_n hx hb dL_law_282 rfl (lv_at hl 3 rfl) ?_
  refine lv_aload_n hx hb dL_law_283 rfl (lv_at hl 4 rfl) ?_
  refine lv_iload hx hb dL_law_284 (lv_at hl 1 rfl) ?_
  refine lv_iconst (v := nI 1) hx hb dL_law_286 (by decide) ?_
  refine b_addn hx hb dL_law_287 ?_
  refine l_sld hx hb hX hbl hbA hS (by omega) (by omega) dL_law_288 ?_
  refine lv_aload_n hx hb dL_law_289 rfl (lv_at hl 4 rfl) ?_
  refine lv_iload hx hb dL_law_290 (lv_at hl 1 rfl) ?_
  refine lv_iconst (v := nI 2) hx hb dL_law_292 (by decide) ?_
  refine b_addn hx hb dL_law_293 ?_
  refine l_sld hx hb hX hbl hbA hS (by omega) (by omega) dL_law_294 ?_
  refine f_calli (wf := wMs cs am) (va_runV (As := [.int (xs (i + 1)), .int (xs (i + 2))]) (rest := []) ⟨hx, hb, hml, hown, hts⟩ (ctX3_at l D cs am J G BN BI BL _ (xs (i + 1)) (xs (i + 2)) hj1 hj2) (cwV 2 hts (gi_V gw_600 gw_601 gw_602 gw_57 gw_603) rfl rfl rfl (by decide +kernel) ⟨Nat.le_of_ble_eq_true rfl, Nat.le_of_ble_eq_true rfl⟩) ⟨g_blind, va_recv hK (P_l (P_swap hP)) (ci := 3) (q0 := 0) rfl (wm_at (by decide) rfl), g_pre (P_l (P_swap hP)) hK (D_l (D_swap hD)) hN⟩ rfl rfl hl.1 rfl (lv_room (Nat.le_of_ble_eq_true rfl)) dL_law_295 ⟨show _ ≤ 666090 by omega, show _ ≤ 7097800 by omega⟩) (P_swap hP) (D_swap hD) hS hA (fun _ => wm_ads) (fun rm v9 H locs hw hP hD hS => ?_)
  obtain ⟨hv9, hrm⟩ := hw
  obtain ⟨r9, hr9⟩ : ∃ r9, r9 = rm := ⟨_, rfl⟩
  rw [← hr9] at hrm ⊢
  rw [← hrm, ← hv9] at hAg
  have hP : va_P D vc (wH cs ad o (u9, f9) ++ wMs cs am v9) H := P_swap hP
  have hD : va_D (fun q : Nat => s.heap.size ≤ q) (wH cs ad o (u9, f9) ++ wMs cs am v9) := D_swap hD
  have hag : Agree (clAt (I, AN, AI, AL) (xs (i + 1)) (xs (i + 2))) (Int32.toInt64 r9) v9 := hAg
  obtain ⟨hg1, hg2, hg3, hg4⟩ := hag
  rw [← hk9] at hg1 hg2 hg3
  rw [← hw2] at hg4
  obtain ⟨J9, G9, BN9, BI9, BL9⟩ := v9
  refine lv_istore (lv' := [(6, .int r9), (5, .int (nI k9)), (4, .int (nI i)), (3, .ref o), (2, .ref (am 0)), (0, .ref b), (1, .ref (ad 0))]) hx hb dL_law_298 hl (by decide) rfl (fun ls hl => ?_)
  refine lv_aload_n hx hb dL_law_300 rfl (lv_at hl 4 rfl) ?_
  refine f_calli (wf := wMs cs am) (va_runV (As := []) (rest := []) ⟨hx, hb, hml, hown, hts⟩ (ctX3_thrown l D cs am J9 G9 BN9 BI9 BL9 _ ) (cwV 0 hts (gi_V gw_575 gw_576 gw_577 gw_57 gw_578) rfl rfl rfl (by decide +kernel) ⟨Nat.le_of_ble_eq_true rfl, Nat.le_of_ble_eq_true rfl⟩) ⟨g_blind, va_recv hK (P_l (P_swap hP)) (ci := 3) (q0 := 0) rfl (wm_at (by decide) rfl), g_pre (P_l (P_swap hP)) hK (D_l (D_swap hD)) hN⟩ rfl rfl hl.1 rfl (lv_room (Nat.le_of_ble_eq_true rfl)) dL_law_301 ⟨show _ ≤ 666090 by omega, show _ ≤ 7097800 by omega⟩) (P_swap hP) (D_swap hD) hS hA (fun _ => wm_ads) (fun rt v8 H locs hw hP hD hS => ?_)
  obtain ⟨rfl, rfl⟩ := hw
  have hP : va_P D vc (wH cs ad o (u9, f9) ++ wMs cs am (J9, G9, BN9, BI9, BL9)) H := P_swap hP
  have hD : va_D (fun q : Nat => s.heap.size ≤ q) (wH cs ad o (u9, f9) ++ wMs cs am (J9, G9, BN9, BI9, BL9)) := D_swap hD
  refine lv_iload hx hb dL_law_304 (lv_at hl 1 rfl) ?_
  refine lv_icmp_eq (tgt := 311) hx hb dL_law_306 (by decide) (fun _ => ?_) (fun q => absurd hg1 q)
  refine lv_iload hx hb dL_law_311 (lv_at hl 1 rfl) ?_
  by_cases hk0 : k9 = 0
  · refine lv_if_ne (tgt := 328) hx hb dL_law_313 (by decide) (fun q => absurd (by rw [hk0]; rfl) q) (fun _ => ?_)
    refine lv_aload_n hx hb dL_law_316 rfl (lv_at hl 3 rfl) ?_
    refine lv_iconst (v := nI 0) hx hb dL_law_317 (by decide) ?_
    refine l_out hx hb hK hP wT_len dL_law_318 ?_
    refine lv_iload hx hb dL_law_319 (lv_at hl 0 rfl) ?_
    refine lv_i2l (v := Int32.toInt64 r9) hx hb dL_law_321 rfl ?_
    have hfin : f9 0 = Int32.toInt64 r9 := by rw [hw3 hk0, hg3 hk0]
    refine b_lceq (tgt := 328) hx hb dL_law_322 dL_law_323 (by decide) (fun _ => ?_) (fun q => absurd hfin q)
    refine lv_goto (tgt := 926) hx hb dL_law_328 (by decide) ?_
    exact kk (u9, f9) (J9, G9, BN9, BI9, BL9) _ _ ls ⟨hP, hD, hS, hg4⟩ (lv_sub hl [2, 3, 4, 5, 6] rfl)
  · refine lv_if_ne (tgt := 328) hx hb dL_law_313 (by decide) (fun _ => ?_) (fun q => absurd ((nI_eq (a := k9) (b := 0) (by omega) (by decide)).mp q) hk0)
    refine lv_goto (tgt := 926) hx hb dL_law_328 (by decide) ?_
    exact kk (u9, f9) (J9, G9, BN9, BI9, BL9) _ _ ls ⟨hP, hD, hS, hg4⟩ (lv_sub hl [2, 3, 4, 5, 6] rfl)

set_option maxHeartbeats 4000000 in
set_option maxRecDepth 100000 in
theorem lo_plain {p : Program} {l : Launch} (hlt : l.stackTraces = false) {e : Env} {s : State} {m : MethodId} {below : List Frame} {meth : Method} {c : Code} {H : Heap} {locs : List Loc} {cells slots : Nat} {Q : State → Prop} {ls : Array Slot} {D : va_G} {cs : Nat → ClassId} {ad am : Nat → Nat} {o b L i : Nat} {xs : Nat → Int32} {sa : Nat → Nat} (hM : M_plain) {w : TS × (Nat → Int64)} {v : MS} (hC : LC p s m meth c D cs b L xs sa) (hLS : LSt s D cs ad am o w v H locs) (hi : i + 4 ≤ L) (hL : L ≤ 2049) (hc : cells + 1 ≤ 666090) (hs : slots + 6 ≤ 7097800) (hl : lv_has ls 8 (lvL b o (ad 0) (am 0) i))
    (kk : ∀ (w : TS × (Nat → Int64)) (v : MS) (H : Heap) (locs : List Loc) (ls : Array Slot), LSt s D cs ad am o w v H locs → lv_has ls 8 (lvL b o (ad 0) (am 0) i) → W p l e room_1 s m #[Value.ref b] below meth c H locs (cells + 1) (slots + 6) Q (F0 m 926 ls [])) : W p l e room_1 s m #[Value.ref b] below meth c H locs cells slots Q (F0 m 382 ls []) := by
  obtain ⟨hx, hb, hr, hml, hown, hts, hlocks, hK, hN, hX, hbl, hXW, hXN⟩ := hC
  obtain ⟨⟨I, AN, AI, AL⟩, f⟩ := w
  obtain ⟨J, G, BN, BI, BL⟩ := v
  obtain ⟨hP, hD, hS, hI⟩ := hLS
  have hA : ∀ q : Nat, s.heap.size ≤ q → (fun q : Nat => s.heap.size ≤ q) q := fun _ h => h
  have hbA : ¬ (fun q : Nat => s.heap.size ≤ q) b := Nat.not_le.mpr hbl
  have hn3 : I 0 ≤ 3 := hI.1.2.1
  have he3 : I 1 ≤ 3 := hI.1.2.2
  have hbg : ∀ r, r < 3 → AN 7 r < 6 := hI.2.2.2.1.1
  have hdc : ∀ k, k < 7 → AN 5 k < 2 ^ 31 := hI.2.2.2.1.2
  have hok : okA BN := hI.2.2.2.2
  have eJ1 : J 1 = I 0 := hI.2.1.1
  have eJ2 : J 2 = I 1 := hI.2.1.2
  have hj1 : J 1 ≤ 3 := by omega
  have hj2 : J 2 ≤ 3 := by omega
  have hl : lv_has ls 8 [(4, .int (nI i)), (3, .ref o), (2, .ref (am 0)), (0, .ref b), (1, .ref (ad 0))] := hl
  obtain ⟨hlo, hAg⟩ := hM (I, AN, AI, AL) (J, G, BN, BI, BL) (xs (i + 1)) (xs (i + 2)) hI
  dsimp only at hAg hlo
  refine lv_aload_n hx hb dL_law_382 rfl (lv_at hl 4 rfl) ?_
  refine lv_aload_n hx hb dL_law_383 rfl (lv_at hl 3 rfl) ?_
  refine lv_iload hx hb dL_law_384 (lv_at hl 0 rfl) ?_
  refine lv_iconst (v := nI 1) hx hb dL_law_386 (by decide) ?_
  refine b_addn hx hb dL_law_387 ?_
  refine l_sld hx hb hX hbl hbA hS (by omega) (by omega) dL_law_388 ?_
  refine lv_aload_n hx hb dL_law_389 rfl (lv_at hl 3 rfl) ?_
  refine lv_iload hx hb dL_law_390 (lv_at hl 0 rfl) ?_
  refine lv_iconst (v := nI 2) hx hb dL_law_392 (by decide) ?_
  refine b_addn hx hb dL_law_393 ?_
  refine l_sld hx hb hX hbl hbA hS (by omega) (by omega) dL_law_394 ?_
  refine lv_aload_n hx hb dL_law_395 rfl (lv_at hl 1 rfl) ?_
  refine f_calli (wf := wH cs ad o) (vx_runSW (As := [.ref (ad 0), .int (xs (i + 1)), .int (xs (i + 2)), .ref o]) (rest := []) ⟨hx, hb, hml, hown, hts⟩ (ctL_plain l hlt D cs ad I AN AI AL f o _ sa (xs (i + 1)) (xs (i + 2)) hn3 he3 hdc) (vx_cwSW 4 hts (gi_SW gw_402 gw_403 gw_52 gw_404) rfl rfl rfl (by decide +kernel) ⟨Nat.le_of_ble_eq_true rfl, Nat.le_of_ble_eq_true rfl⟩) ⟨gH_blind, gH_pre (P_l hP) hK (D_l hD) hN hS hA hXW hXN⟩ rfl rfl hl.1 rfl (lv_room (Nat.le_of_ble_eq_true rfl)) dL_law_396 ⟨hc, hs⟩) hP hD hS hA (fun _ => wH_ads) (fun r w9 H locs hw hP hD hS => ?_)
  obtain ⟨u9, f9⟩ := w9
  obtain ⟨rfl, hw2, hw3⟩ := hw
  have hw2 : u9 = (clPlain (I, AN, AI, AL) (xs (i + 1)) (xs (i + 2))).2.2 := hw2
  have hw3 : (clPlain (I, AN, AI, AL) (xs (i + 1)) (xs (i + 2))).1 = 0 → f9 0 = (clPlain (I, AN, AI, AL) (xs (i + 1)) (xs (i + 2))).2.1 := hw3
  obtain ⟨k9, hk9⟩ : ∃ k9, k9 = (clPlain (I, AN, AI, AL) (xs (i + 1)) (xs (i + 2))).1 := ⟨_, rfl⟩
  rw [← hk9] at hw3 ⊢
  refine lv_istore (lv' := [(5, .int (nI k9)), (4, .int (nI i)), (3, .ref o), (2, .ref (am 0)), (0, .ref b), (1, .ref (ad 0))]) hx hb dL_law_399 hl (by decide) rfl (fun ls hl => ?_)
  refine lv_aload_n hx hb dL_law_401 rfl (lv_at hl 3 rfl) ?_
  refine lv_aload_n hx hb dL_law_402 rfl (lv_at hl 4 rfl) ?_
  refine lv_iload hx hb dL_law_403 (lv_at hl 1 rfl) ?_
  refine lv_iconst (v := nI 1) hx hb dL_law_405 (by decide) ?_
  refine b_addn hx hb dL_law_406 ?_
  refine l_sld hx hb hX hbl hbA hS (by omega) (by omega) dL_law_407 ?_
  refine lv_aload_n hx hb dL_law_408 rfl (lv_at hl 4 rfl) ?_
  refine lv_iload hx hb dL_law_409 (lv_at hl 1 rfl) ?_
  refine lv_iconst (v := nI 2) hx hb dL_law_411 (by decide) ?_
  refine b_addn hx hb dL_law_412 ?_
  refine l_sld hx hb hX hbl hbA hS (by omega) (by omega) dL_law_413 ?_
  refine f_calll (wf := wMs cs am) (va_runV (As := [.int (xs (i + 1)), .int (xs (i + 2))]) (rest := []) ⟨hx, hb, hml, hown, hts⟩ (ctX3_plain l D cs am J G BN BI BL _ (xs (i + 1)) (xs (i + 2)) hj1 hj2 hok hlo) (cwV 2 hts (gi_V gw_652 gw_653 gw_654 gw_57 gw_655) rfl rfl rfl (by decide +kernel) ⟨Nat.le_of_ble_eq_true rfl, Nat.le_of_ble_eq_true rfl⟩) ⟨g_blind, va_recv hK (P_l (P_swap hP)) (ci := 3) (q0 := 0) rfl (wm_at (by decide) rfl), g_pre (P_l (P_swap hP)) hK (D_l (D_swap hD)) hN⟩ rfl rfl hl.1 rfl (lv_room (Nat.le_of_ble_eq_true rfl)) dL_law_414 ⟨show _ ≤ 666090 by omega, show _ ≤ 7097800 by omega⟩) (P_swap hP) (D_swap hD) hS hA (fun _ => wm_ads) (fun rm v9 H locs hw hP hD hS => ?_)
  obtain ⟨hv9, hrm⟩ := hw
  obtain ⟨r9, hr9⟩ : ∃ r9, r9 = rm := ⟨_, rfl⟩
  rw [← hr9] at hrm ⊢
  rw [← hrm, ← hv9] at hAg
  have hP : va_P D vc (wH cs ad o (u9, f9) ++ wMs cs am v9) H := P_swap hP
  have hD : va_D (fun q : Nat => s.heap.size ≤ q) (wH cs ad o (u9, f9) ++ wMs cs am v9) := D_swap hD
  have hag : Agree (clPlain (I, AN, AI, AL) (xs (i + 1)) (xs (i + 2))) (r9) v9 := hAg
  obtain ⟨hg1, hg2, hg3, hg4⟩ := hag
  rw [← hk9] at hg1 hg2 hg3
  rw [← hw2] at hg4
  obtain ⟨J9, G9, BN9, BI9, BL9⟩ := v9
  refine lv_lstore (lv' := [(6, .long r9), (5, .int (nI k9)), (4, .int (nI i)), (3, .ref o), (2, .ref (am 0)), (0, .ref b), (1, .ref (ad 0))]) hx hb dL_law_417 hl (by decide) rfl (fun ls hl => ?_)
  refine lv_aload_n hx hb dL_law_419 rfl (lv_at hl 4 rfl) ?_
  refine f_calli (wf := wMs cs am) (va_runV (As := []) (rest := []) ⟨hx, hb, hml, hown, hts⟩ (ctX3_thrown l D cs am J9 G9 BN9 BI9 BL9 _ ) (cwV 0 hts (gi_V gw_575 gw_576 gw_577 gw_57 gw_578) rfl rfl rfl (by decide +kernel) ⟨Nat.le_of_ble_eq_true rfl, Nat.le_of_ble_eq_true rfl⟩) ⟨g_blind, va_recv hK (P_l (P_swap hP)) (ci := 3) (q0 := 0) rfl (wm_at (by decide) rfl), g_pre (P_l (P_swap hP)) hK (D_l (D_swap hD)) hN⟩ rfl rfl hl.1 rfl (lv_room (Nat.le_of_ble_eq_true rfl)) dL_law_420 ⟨show _ ≤ 666090 by omega, show _ ≤ 7097800 by omega⟩) (P_swap hP) (D_swap hD) hS hA (fun _ => wm_ads) (fun rt v8 H locs hw hP hD hS => ?_)
  obtain ⟨rfl, rfl⟩ := hw
  have hP : va_P D vc (wH cs ad o (u9, f9) ++ wMs cs am (J9, G9, BN9, BI9, BL9)) H := P_swap hP
  have hD : va_D (fun q : Nat => s.heap.size ≤ q) (wH cs ad o (u9, f9) ++ wMs cs am (J9, G9, BN9, BI9, BL9)) := D_swap hD
  refine lv_iload hx hb dL_law_423 (lv_at hl 1 rfl) ?_
  refine lv_icmp_eq (tgt := 430) hx hb dL_law_425 (by decide) (fun _ => ?_) (fun q => absurd hg1 q)
  refine lv_iload hx hb dL_law_430 (lv_at hl 1 rfl) ?_
  by_cases hk0 : k9 = 0
  · refine lv_if_ne (tgt := 446) hx hb dL_law_432 (by decide) (fun q => absurd (by rw [hk0]; rfl) q) (fun _ => ?_)
    refine lv_aload_n hx hb dL_law_435 rfl (lv_at hl 3 rfl) ?_
    refine lv_iconst (v := nI 0) hx hb dL_law_436 (by decide) ?_
    refine l_out hx hb hK hP wT_len dL_law_437 ?_
    refine lv_lload hx hb dL_law_438 (lv_at hl 0 rfl) ?_
    have hfin : f9 0 = r9 := by rw [hw3 hk0, hg3 hk0]
    refine b_lceq (tgt := 446) hx hb dL_law_440 dL_law_441 (by decide) (fun _ => ?_) (fun q => absurd hfin q)
    refine lv_goto (tgt := 926) hx hb dL_law_446 (by decide) ?_
    exact kk (u9, f9) (J9, G9, BN9, BI9, BL9) _ _ ls ⟨hP, hD, hS, hg4⟩ (lv_sub hl [2, 3, 4, 5, 6] rfl)
  · refine lv_if_ne (tgt := 446) hx hb dL_law_432 (by decide) (fun _ => ?_) (fun q => absurd ((nI_eq (a := k9) (b := 0) (by omega) (by decide)).mp q) hk0)
    refine lv_goto (tgt := 926) hx hb dL_law_446 (by decide) ?_
    exact kk (u9, f9) (J9, G9, BN9, BI9, BL9) _ _ ls ⟨hP, hD, hS, hg4⟩ (lv_sub hl [2, 3, 4, 5, 6] rfl)

set_option maxHeartbeats 4000000 in
set_option maxRecDepth 100000 in
theorem lo_direction {p : Program} {l : Launch} (hlt : l.stackTraces = false) {e : Env} {s : State} {m : MethodId} {below : List Frame} {meth : Method} {c : Code} {H : Heap} {locs : List Loc} {cells slots : Nat} {Q : State → Prop} {ls : Array Slot} {D : va_G} {cs : Nat → ClassId} {ad am : Nat → Nat} {o b L i : Nat} {xs : Nat → Int32} {sa : Nat → Nat} (hM : M_dir) {w : TS × (Nat → Int64)} {v : MS} (hC : LC p s m meth c D cs b L xs sa) (hLS : LSt s D cs ad am o w v H locs) (hi : i + 4 ≤ L) (hL : L ≤ 2049) (hc : cells + 1 ≤ 666090) (hs : slots + 6 ≤ 7097800) (hl : lv_has ls 8 (lvL b o (ad 0) (am 0) i))
    (kk : ∀ (w : TS × (Nat → Int64)) (v : MS) (H : Heap) (locs : List Loc) (ls : Array Slot), LSt s D cs ad am o w v H locs → lv_has ls 8 (lvL b o (ad 0) (am 0) i) → W p l e room_1 s m #[Value.ref b] below meth c H locs (cells + 1) (slots + 6) Q (F0 m 926 ls [])) : W p l e room_1 s m #[Value.ref b] below meth c H locs cells slots Q (F0 m 449 ls []) := by
  obtain ⟨hx, hb, hr, hml, hown, hts, hlocks, hK, hN, hX, hbl, hXW, hXN⟩ := hC
  obtain ⟨⟨I, AN, AI, AL⟩, f⟩ := w
  obtain ⟨J, G, BN, BI, BL⟩ := v
  obtain ⟨hP, hD, hS, hI⟩ := hLS
  have hA : ∀ q : Nat, s.heap.size ≤ q → (fun q : Nat => s.heap.size ≤ q) q := fun _ h => h
  have hbA : ¬ (fun q : Nat => s.heap.size ≤ q) b := Nat.not_le.mpr hbl
  have hn3 : I 0 ≤ 3 := hI.1.2.1
  have he3 : I 1 ≤ 3 := hI.1.2.2
  have hbg : ∀ r, r < 3 → AN 7 r < 6 := hI.2.2.2.1.1
  have hdc : ∀ k, k < 7 → AN 5 k < 2 ^ 31 := hI.2.2.2.1.2
  have hok : okA BN := hI.2.2.2.2
  have eJ1 : J 1 = I 0 := hI.2.1.1
  have eJ2 : J 2 = I 1 := hI.2.1.2
  have hj1 : J 1 ≤ 3 := by omega
  have hj2 : J 2 ≤ 3 := by omega
  have hl : lv_has ls 8 [(4, .int (nI i)), (3, .ref o), (2, .ref (am 0)), (0, .ref b), (1, .ref (ad 0))] := hl
  obtain ⟨hlo, hAg⟩ := hM (I, AN, AI, AL) (J, G, BN, BI, BL) (xs (i + 1)) (xs (i + 2)) (xs (i + 3)) hI
  dsimp only at hAg hlo
  refine lv_aload_n hx hb dL_law_449 rfl (lv_at hl 4 rfl) ?_
  refine lv_aload_n hx hb dL_law_450 rfl (lv_at hl 3 rfl) ?_
  refine lv_iload hx hb dL_law_451 (lv_at hl 0 rfl) ?_
  refine lv_iconst (v := nI 1) hx hb dL_law_453 (by decide) ?_
  refine b_addn hx hb dL_law_454 ?_
  refine l_sld hx hb hX hbl hbA hS (by omega) (by omega) dL_law_455 ?_
  refine lv_aload_n hx hb dL_law_456 rfl (lv_at hl 3 rfl) ?_
  refine lv_iload hx hb dL_law_457 (lv_at hl 0 rfl) ?_
  refine lv_iconst (v := nI 2) hx hb dL_law_459 (by decide) ?_
  refine b_addn hx hb dL_law_460 ?_
  refine l_sld hx hb hX hbl hbA hS (by omega) (by omega) dL_law_461 ?_
  refine lv_aload_n hx hb dL_law_462 rfl (lv_at hl 3 rfl) ?_
  refine lv_iload hx hb dL_law_463 (lv_at hl 0 rfl) ?_
  refine lv_iconst (v := nI 3) hx hb dL_law_465 (by decide) ?_
  refine b_addn hx hb dL_law_466 ?_
  refine l_sld hx hb hX hbl hbA hS (by omega) (by omega) dL_law_467 ?_
  refine lv_aload_n hx hb dL_law_468 rfl (lv_at hl 1 rfl) ?_
  refine f_calli (wf := wH cs ad o) (vx_runSW (As := [.ref (ad 0), .int (xs (i + 1)), .int (xs (i + 2)), .int (xs (i + 3)), .ref o]) (rest := []) ⟨hx, hb, hml, hown, hts⟩ (ctL_direction l hlt D cs ad I AN AI AL f o _ sa (xs (i + 1)) (xs (i + 2)) (xs (i + 3)) hn3 he3 hdc) (vx_cwSW 5 hts (gi_SW gw_427 gw_428 gw_52 gw_429) rfl rfl rfl (by decide +kernel) ⟨Nat.le_of_ble_eq_true rfl, Nat.le_of_ble_eq_true rfl⟩) ⟨gH_blind, gH_pre (P_l hP) hK (D_l hD) hN hS hA hXW hXN⟩ rfl rfl hl.1 rfl (lv_room (Nat.le_of_ble_eq_true rfl)) dL_law_469 ⟨hc, hs⟩) hP hD hS hA (fun _ => wH_ads) (fun r w9 H locs hw hP hD hS => ?_)
  obtain ⟨u9, f9⟩ := w9
  obtain ⟨rfl, hw2, hw3⟩ := hw
  have hw2 : u9 = (clDir (I, AN, AI, AL) (xs (i + 1)) (xs (i + 2)) (xs (i + 3))).2.2 := hw2
  have hw3 : (clDir (I, AN, AI, AL) (xs (i + 1)) (xs (i + 2)) (xs (i + 3))).1 = 0 → f9 0 = (clDir (I, AN, AI, AL) (xs (i + 1)) (xs (i + 2)) (xs (i + 3))).2.1 := hw3
  obtain ⟨k9, hk9⟩ : ∃ k9, k9 = (clDir (I, AN, AI, AL) (xs (i + 1)) (xs (i + 2)) (xs (i + 3))).1 := ⟨_, rfl⟩
  rw [← hk9] at hw3 ⊢
  refine lv_istore (lv' := [(5, .int (nI k9)), (4, .int (nI i)), (3, .ref o), (2, .ref (am 0)), (0, .ref b), (1, .ref (ad 0))]) hx hb dL_law_472 hl (by decide) rfl (fun ls hl => ?_)
  refine lv_aload_n hx hb dL_law_474 rfl (lv_at hl 3 rfl) ?_
  refine lv_aload_n hx hb dL_law_475 rfl (lv_at hl 4 rfl) ?_
  refine lv_iload hx hb dL_law_476 (lv_at hl 1 rfl) ?_
  refine lv_iconst (v := nI 1) hx hb dL_law_478 (by decide) ?_
  refine b_addn hx hb dL_law_479 ?_
  refine l_sld hx hb hX hbl hbA hS (by omega) (by omega) dL_law_480 ?_
  refine lv_aload_n hx hb dL_law_481 rfl (lv_at hl 4 rfl) ?_
  refine lv_iload hx hb dL_law_482 (lv_at hl 1 rfl) ?_
  refine lv_iconst (v := nI 2) hx hb dL_law_484 (by decide) ?_
  refine b_addn hx hb dL_law_485 ?_
  refine l_sld hx hb hX hbl hbA hS (by omega) (by omega) dL_law_486 ?_
  refine lv_aload_n hx hb dL_law_487 rfl (lv_at hl 4 rfl) ?_
  refine lv_iload hx hb dL_law_488 (lv_at hl 1 rfl) ?_
  refine lv_iconst (v := nI 3) hx hb dL_law_490 (by decide) ?_
  refine b_addn hx hb dL_law_491 ?_
  refine l_sld hx hb hX hbl hbA hS (by omega) (by omega) dL_law_492 ?_
  refine f_calll (wf := wMs cs am) (va_runV (As := [.int (xs (i + 1)), .int (xs (i + 2)), .int (xs (i + 3))]) (rest := []) ⟨hx, hb, hml, hown, hts⟩ (ctX3_direction l D cs am J G BN BI BL _ (xs (i + 1)) (xs (i + 2)) (xs (i + 3)) hj1 hj2 hok hlo) (cwV 3 hts (gi_V gw_679 gw_680 gw_681 gw_57 gw_682) rfl rfl rfl (by decide +kernel) ⟨Nat.le_of_ble_eq_true rfl, Nat.le_of_ble_eq_true rfl⟩) ⟨g_blind, va_recv hK (P_l (P_swap hP)) (ci := 3) (q0 := 0) rfl (wm_at (by decide) rfl), g_pre (P_l (P_swap hP)) hK (D_l (D_swap hD)) hN⟩ rfl rfl hl.1 rfl (lv_room (Nat.le_of_ble_eq_true rfl)) dL_law_493 ⟨show _ ≤ 666090 by omega, show _ ≤ 7097800 by omega⟩) (P_swap hP) (D_swap hD) hS hA (fun _ => wm_ads) (fun rm v9 H locs hw hP hD hS => ?_)
  obtain ⟨hv9, hrm⟩ := hw
  obtain ⟨r9, hr9⟩ : ∃ r9, r9 = rm := ⟨_, rfl⟩
  rw [← hr9] at hrm ⊢
  rw [← hrm, ← hv9] at hAg
  have hP : va_P D vc (wH cs ad o (u9, f9) ++ wMs cs am v9) H := P_swap hP
  have hD : va_D (fun q : Nat => s.heap.size ≤ q) (wH cs ad o (u9, f9) ++ wMs cs am v9) := D_swap hD
  have hag : Agree (clDir (I, AN, AI, AL) (xs (i + 1)) (xs (i + 2)) (xs (i + 3))) (r9) v9 := hAg
  obtain ⟨hg1, hg2, hg3, hg4⟩ := hag
  rw [← hk9] at hg1 hg2 hg3
  rw [← hw2] at hg4
  obtain ⟨J9, G9, BN9, BI9, BL9⟩ := v9
  refine lv_lstore (lv' := [(6, .long r9), (5, .int (nI k9)), (4, .int (nI i)), (3, .ref o), (2, .ref (am 0)), (0, .ref b), (1, .ref (ad 0))]) hx hb dL_law_496 hl (by decide) rfl (fun ls hl => ?_)
  refine lv_aload_n hx hb dL_law_498 rfl (lv_at hl 4 rfl) ?_
  refine f_calli (wf := wMs cs am) (va_runV (As := []) (rest := []) ⟨hx, hb, hml, hown, hts⟩ (ctX3_thrown l D cs am J9 G9 BN9 BI9 BL9 _ ) (cwV 0 hts (gi_V gw_575 gw_576 gw_577 gw_57 gw_578) rfl rfl rfl (by decide +kernel) ⟨Nat.le_of_ble_eq_true rfl, Nat.le_of_ble_eq_true rfl⟩) ⟨g_blind, va_recv hK (P_l (P_swap hP)) (ci := 3) (q0 := 0) rfl (wm_at (by decide) rfl), g_pre (P_l (P_swap hP)) hK (D_l (D_swap hD)) hN⟩ rfl rfl hl.1 rfl (lv_room (Nat.le_of_ble_eq_true rfl)) dL_law_499 ⟨show _ ≤ 666090 by omega, show _ ≤ 7097800 by omega⟩) (P_swap hP) (D_swap hD) hS hA (fun _ => wm_ads) (fun rt v8 H locs hw hP hD hS => ?_)
  obtain ⟨rfl, rfl⟩ := hw
  have hP : va_P D vc (wH cs ad o (u9, f9) ++ wMs cs am (J9, G9, BN9, BI9, BL9)) H := P_swap hP
  have hD : va_D (fun q : Nat => s.heap.size ≤ q) (wH cs ad o (u9, f9) ++ wMs cs am (J9, G9, BN9, BI9, BL9)) := D_swap hD
  refine lv_iload hx hb dL_law_502 (lv_at hl 1 rfl) ?_
  refine lv_icmp_eq (tgt := 509) hx hb dL_law_504 (by decide) (fun _ => ?_) (fun q => absurd hg1 q)
  refine lv_iload hx hb dL_law_509 (lv_at hl 1 rfl) ?_
  by_cases hk0 : k9 = 0
  · refine lv_if_ne (tgt := 525) hx hb dL_law_511 (by decide) (fun q => absurd (by rw [hk0]; rfl) q) (fun _ => ?_)
    refine lv_aload_n hx hb dL_law_514 rfl (lv_at hl 3 rfl) ?_
    refine lv_iconst (v := nI 0) hx hb dL_law_515 (by decide) ?_
    refine l_out hx hb hK hP wT_len dL_law_516 ?_
    refine lv_lload hx hb dL_law_517 (lv_at hl 0 rfl) ?_
    have hfin : f9 0 = r9 := by rw [hw3 hk0, hg3 hk0]
    refine b_lceq (tgt := 525) hx hb dL_law_519 dL_law_520 (by decide) (fun _ => ?_) (fun q => absurd hfin q)
    refine lv_goto (tgt := 926) hx hb dL_law_525 (by decide) ?_
    exact kk (u9, f9) (J9, G9, BN9, BI9, BL9) _ _ ls ⟨hP, hD, hS, hg4⟩ (lv_sub hl [2, 3, 4, 5, 6] rfl)
  · refine lv_if_ne (tgt := 525) hx hb dL_law_511 (by decide) (fun _ => ?_) (fun q => absurd ((nI_eq (a := k9) (b := 0) (by omega) (by decide)).mp q) hk0)
    refine lv_goto (tgt := 926) hx hb dL_law_525 (by decide) ?_
    exact kk (u9, f9) (J9, G9, BN9, BI9, BL9) _ _ ls ⟨hP, hD, hS, hg4⟩ (lv_sub hl [2, 3, 4, 5, 6] rfl)

set_option maxHeartbeats 4000000 in
set_option maxRecDepth 100000 in
theorem lo_base {p : Program} {l : Launch} (hlt : l.stackTraces = false) {e : Env} {s : State} {m : MethodId} {below : List Frame} {meth : Method} {c : Code} {H : Heap} {locs : List Loc} {cells slots : Nat} {Q : State → Prop} {ls : Array Slot} {D : va_G} {cs : Nat → ClassId} {ad am : Nat → Nat} {o b L i : Nat} {xs : Nat → Int32} {sa : Nat → Nat} (hM : M_base) {w : TS × (Nat → Int64)} {v : MS} (hC : LC p s m meth c D cs b L xs sa) (hLS : LSt s D cs ad am o w v H locs) (hi : i + 4 ≤ L) (hL : L ≤ 2049) (hc : cells + 1 ≤ 666090) (hs : slots + 6 ≤ 7097800) (hl : lv_has ls 8 (lvL b o (ad 0) (am 0) i))
    (kk : ∀ (w : TS × (Nat → Int64)) (v : MS) (H : Heap) (locs : List Loc) (ls : Array Slot), LSt s D cs ad am o w v H locs → lv_has ls 8 (lvL b o (ad 0) (am 0) i) → W p l e room_1 s m #[Value.ref b] below meth c H locs (cells + 1) (slots + 6) Q (F0 m 926 ls [])) : W p l e room_1 s m #[Value.ref b] below meth c H locs cells slots Q (F0 m 541 ls []) := by
  obtain ⟨hx, hb, hr, hml, hown, hts, hlocks, hK, hN, hX, hbl, hXW, hXN⟩ := hC
  obtain ⟨⟨I, AN, AI, AL⟩, f⟩ := w
  obtain ⟨J, G, BN, BI, BL⟩ := v
  obtain ⟨hP, hD, hS, hI⟩ := hLS
  have hA : ∀ q : Nat, s.heap.size ≤ q → (fun q : Nat => s.heap.size ≤ q) q := fun _ h => h
  have hbA : ¬ (fun q : Nat => s.heap.size ≤ q) b := Nat.not_le.mpr hbl
  have hn3 : I 0 ≤ 3 := hI.1.2.1
  have he3 : I 1 ≤ 3 := hI.1.2.2
  have hbg : ∀ r, r < 3 → AN 7 r < 6 := hI.2.2.2.1.1
  have hdc : ∀ k, k < 7 → AN 5 k < 2 ^ 31 := hI.2.2.2.1.2
  have hok : okA BN := hI.2.2.2.2
  have eJ1 : J 1 = I 0 := hI.2.1.1
  have eJ2 : J 2 = I 1 := hI.2.1.2
  have hj1 : J 1 ≤ 3 := by omega
  have hj2 : J 2 ≤ 3 := by omega
  have hl : lv_has ls 8 [(4, .int (nI i)), (3, .ref o), (2, .ref (am 0)), (0, .ref b), (1, .ref (ad 0))] := hl
  obtain ⟨hfb, hAg⟩ := hM (I, AN, AI, AL) (J, G, BN, BI, BL) (xs (i + 1)) (xs (i + 2)) hI
  dsimp only at hAg hfb
  refine lv_aload_n hx hb dL_law_541 rfl (lv_at hl 4 rfl) ?_
  refine lv_aload_n hx hb dL_law_542 rfl (lv_at hl 3 rfl) ?_
  refine lv_iload hx hb dL_law_543 (lv_at hl 0 rfl) ?_
  refine lv_iconst (v := nI 1) hx hb dL_law_545 (by decide) ?_
  refine b_addn hx hb dL_law_546 ?_
  refine l_sld hx hb hX hbl hbA hS (by omega) (by omega) dL_law_547 ?_
  refine lv_aload_n hx hb dL_law_548 rfl (lv_at hl 3 rfl) ?_
  refine lv_iload hx hb dL_law_549 (lv_at hl 0 rfl) ?_
  refine lv_iconst (v := nI 2) hx hb dL_law_551 (by decide) ?_
  refine b_addn hx hb dL_law_552 ?_
  refine l_sld hx hb hX hbl hbA hS (by omega) (by omega) dL_law_553 ?_
  refine lv_aload_n hx hb dL_law_554 rfl (lv_at hl 1 rfl) ?_
  refine f_calli (wf := wH cs ad o) (vx_runSW (As := [.ref (ad 0), .int (xs (i + 1)), .int (xs (i + 2)), .ref o]) (rest := []) ⟨hx, hb, hml, hown, hts⟩ (ctL_base l hlt D cs ad I AN AI AL f o _ sa (xs (i + 1)) (xs (i + 2)) hn3 he3 hbg) (vx_cwSW 4 hts (gi_SW gw_439 gw_440 gw_52 gw_441) rfl rfl rfl (by decide +kernel) ⟨Nat.le_of_ble_eq_true rfl, Nat.le_of_ble_eq_true rfl⟩) ⟨gH_blind, gH_pre (P_l hP) hK (D_l hD) hN hS hA hXW hXN⟩ rfl rfl hl.1 rfl (lv_room (Nat.le_of_ble_eq_true rfl)) dL_law_555 ⟨hc, hs⟩) hP hD hS hA (fun _ => wH_ads) (fun r w9 H locs hw hP hD hS => ?_)
  obtain ⟨u9, f9⟩ := w9
  obtain ⟨rfl, hw2, hw3⟩ := hw
  have hw2 : u9 = (clBase (I, AN, AI, AL) (xs (i + 1)) (xs (i + 2))).2.2 := hw2
  have hw3 : (clBase (I, AN, AI, AL) (xs (i + 1)) (xs (i + 2))).1 = 0 → f9 0 = (clBase (I, AN, AI, AL) (xs (i + 1)) (xs (i + 2))).2.1 := hw3
  obtain ⟨k9, hk9⟩ : ∃ k9, k9 = (clBase (I, AN, AI, AL) (xs (i + 1)) (xs (i + 2))).1 := ⟨_, rfl⟩
  rw [← hk9] at hw3 ⊢
  refine lv_istore (lv' := [(5, .int (nI k9)), (4, .int (nI i)), (3, .ref o), (2, .ref (am 0)), (0, .ref b), (1, .ref (ad 0))]) hx hb dL_law_558 hl (by decide) rfl (fun ls hl => ?_)
  refine lv_aload_n hx hb dL_law_560 rfl (lv_at hl 3 rfl) ?_
  refine lv_aload_n hx hb dL_law_561 rfl (lv_at hl 4 rfl) ?_
  refine lv_iload hx hb dL_law_562 (lv_at hl 1 rfl) ?_
  refine lv_iconst (v := nI 1) hx hb dL_law_564 (by decide) ?_
  refine b_addn hx hb dL_law_565 ?_
  refine l_sld hx hb hX hbl hbA hS (by omega) (by omega) dL_law_566 ?_
  refine lv_aload_n hx hb dL_law_567 rfl (lv_at hl 4 rfl) ?_
  refine lv_iload hx hb dL_law_568 (lv_at hl 1 rfl) ?_
  refine lv_iconst (v := nI 2) hx hb dL_law_570 (by decide) ?_
  refine b_addn hx hb dL_law_571 ?_
  refine l_sld hx hb hX hbl hbA hS (by omega) (by omega) dL_law_572 ?_
  refine f_calll (wf := wMs cs am) (va_runV (As := [.int (xs (i + 1)), .int (xs (i + 2))]) (rest := []) ⟨hx, hb, hml, hown, hts⟩ (ctX3_base l D cs am J G BN BI BL _ (xs (i + 1)) (xs (i + 2)) hj1 hj2 hok hfb) (cwV 2 hts (gi_V gw_683 gw_684 gw_685 gw_57 gw_686) rfl rfl rfl (by decide +kernel) ⟨Nat.le_of_ble_eq_true rfl, Nat.le_of_ble_eq_true rfl⟩) ⟨g_blind, va_recv hK (P_l (P_swap hP)) (ci := 3) (q0 := 0) rfl (wm_at (by decide) rfl), g_pre (P_l (P_swap hP)) hK (D_l (D_swap hD)) hN⟩ rfl rfl hl.1 rfl (lv_room (Nat.le_of_ble_eq_true rfl)) dL_law_573 ⟨show _ ≤ 666090 by omega, show _ ≤ 7097800 by omega⟩) (P_swap hP) (D_swap hD) hS hA (fun _ => wm_ads) (fun rm v9 H locs hw hP hD hS => ?_)
  obtain ⟨hv9, hrm⟩ := hw
  obtain ⟨r9, hr9⟩ : ∃ r9, r9 = rm := ⟨_, rfl⟩
  rw [← hr9] at hrm ⊢
  rw [← hrm, ← hv9] at hAg
  have hP : va_P D vc (wH cs ad o (u9, f9) ++ wMs cs am v9) H := P_swap hP
  have hD : va_D (fun q : Nat => s.heap.size ≤ q) (wH cs ad o (u9, f9) ++ wMs cs am v9) := D_swap hD
  have hag : Agree (clBase (I, AN, AI, AL) (xs (i + 1)) (xs (i + 2))) (r9) v9 := hAg
  obtain ⟨hg1, hg2, hg3, hg4⟩ := hag
  rw [← hk9] at hg1 hg2 hg3
  rw [← hw2] at hg4
  obtain ⟨J9, G9, BN9, BI9, BL9⟩ := v9
  refine lv_lstore (lv' := [(6, .long r9), (5, .int (nI k9)), (4, .int (nI i)), (3, .ref o), (2, .ref (am 0)), (0, .ref b), (1, .ref (ad 0))]) hx hb dL_law_576 hl (by decide) rfl (fun ls hl => ?_)
  refine lv_aload_n hx hb dL_law_578 rfl (lv_at hl 4 rfl) ?_
  refine f_calli (wf := wMs cs am) (va_runV (As := []) (rest := []) ⟨hx, hb, hml, hown, hts⟩ (ctX3_thrown l D cs am J9 G9 BN9 BI9 BL9 _ ) (cwV 0 hts (gi_V gw_575 gw_576 gw_577 gw_57 gw_578) rfl rfl rfl (by decide +kernel) ⟨Nat.le_of_ble_eq_true rfl, Nat.le_of_ble_eq_true rfl⟩) ⟨g_blind, va_recv hK (P_l (P_swap hP)) (ci := 3) (q0 := 0) rfl (wm_at (by decide) rfl), g_pre (P_l (P_swap hP)) hK (D_l (D_swap hD)) hN⟩ rfl rfl hl.1 rfl (lv_room (Nat.le_of_ble_eq_true rfl)) dL_law_579 ⟨show _ ≤ 666090 by omega, show _ ≤ 7097800 by omega⟩) (P_swap hP) (D_swap hD) hS hA (fun _ => wm_ads) (fun rt v8 H locs hw hP hD hS => ?_)
  obtain ⟨rfl, rfl⟩ := hw
  have hP : va_P D vc (wH cs ad o (u9, f9) ++ wMs cs am (J9, G9, BN9, BI9, BL9)) H := P_swap hP
  have hD : va_D (fun q : Nat => s.heap.size ≤ q) (wH cs ad o (u9, f9) ++ wMs cs am (J9, G9, BN9, BI9, BL9)) := D_swap hD
  refine lv_iload hx hb dL_law_582 (lv_at hl 1 rfl) ?_
  refine lv_icmp_eq (tgt := 589) hx hb dL_law_584 (by decide) (fun _ => ?_) (fun q => absurd hg1 q)
  refine lv_iload hx hb dL_law_589 (lv_at hl 1 rfl) ?_
  by_cases hk0 : k9 = 0
  · refine lv_if_ne (tgt := 605) hx hb dL_law_591 (by decide) (fun q => absurd (by rw [hk0]; rfl) q) (fun _ => ?_)
    refine lv_aload_n hx hb dL_law_594 rfl (lv_at hl 3 rfl) ?_
    refine lv_iconst (v := nI 0) hx hb dL_law_595 (by decide) ?_
    refine l_out hx hb hK hP wT_len dL_law_596 ?_
    refine lv_lload hx hb dL_law_597 (lv_at hl 0 rfl) ?_
    have hfin : f9 0 = r9 := by rw [hw3 hk0, hg3 hk0]
    refine b_lceq (tgt := 605) hx hb dL_law_599 dL_law_600 (by decide) (fun _ => ?_) (fun q => absurd hfin q)
    refine lv_goto (tgt := 926) hx hb dL_law_605 (by decide) ?_
    exact kk (u9, f9) (J9, G9, BN9, BI9, BL9) _ _ ls ⟨hP, hD, hS, hg4⟩ (lv_sub hl [2, 3, 4, 5, 6] rfl)
  · refine lv_if_ne (tgt := 605) hx hb dL_law_591 (by decide) (fun _ => ?_) (fun q => absurd ((nI_eq (a := k9) (b := 0) (by omega) (by decide)).mp q) hk0)
    refine lv_goto (tgt := 926) hx hb dL_law_605 (by decide) ?_
    exact kk (u9, f9) (J9, G9, BN9, BI9, BL9) _ _ ls ⟨hP, hD, hS, hg4⟩ (lv_sub hl [2, 3, 4, 5, 6] rfl)

set_option maxHeartbeats 4000000 in
set_option maxRecDepth 100000 in
theorem lo_least {p : Program} {l : Launch} (hlt : l.stackTraces = false) {e : Env} {s : State} {m : MethodId} {below : List Frame} {meth : Method} {c : Code} {H : Heap} {locs : List Loc} {cells slots : Nat} {Q : State → Prop} {ls : Array Slot} {D : va_G} {cs : Nat → ClassId} {ad am : Nat → Nat} {o b L i : Nat} {xs : Nat → Int32} {sa : Nat → Nat} (hM : M_least) {w : TS × (Nat → Int64)} {v : MS} (hC : LC p s m meth c D cs b L xs sa) (hLS : LSt s D cs ad am o w v H locs) (hi : i + 4 ≤ L) (hL : L ≤ 2049) (hc : cells + 1 ≤ 666090) (hs : slots + 6 ≤ 7097800) (hl : lv_has ls 8 (lvL b o (ad 0) (am 0) i))
    (kk : ∀ (w : TS × (Nat → Int64)) (v : MS) (H : Heap) (locs : List Loc) (ls : Array Slot), LSt s D cs ad am o w v H locs → lv_has ls 8 (lvL b o (ad 0) (am 0) i) → W p l e room_1 s m #[Value.ref b] below meth c H locs (cells + 1) (slots + 6) Q (F0 m 926 ls [])) : W p l e room_1 s m #[Value.ref b] below meth c H locs cells slots Q (F0 m 608 ls []) := by
  obtain ⟨hx, hb, hr, hml, hown, hts, hlocks, hK, hN, hX, hbl, hXW, hXN⟩ := hC
  obtain ⟨⟨I, AN, AI, AL⟩, f⟩ := w
  obtain ⟨J, G, BN, BI, BL⟩ := v
  obtain ⟨hP, hD, hS, hI⟩ := hLS
  have hA : ∀ q : Nat, s.heap.size ≤ q → (fun q : Nat => s.heap.size ≤ q) q := fun _ h => h
  have hbA : ¬ (fun q : Nat => s.heap.size ≤ q) b := Nat.not_le.mpr hbl
  have hn3 : I 0 ≤ 3 := hI.1.2.1
  have he3 : I 1 ≤ 3 := hI.1.2.2
  have hbg : ∀ r, r < 3 → AN 7 r < 6 := hI.2.2.2.1.1
  have hdc : ∀ k, k < 7 → AN 5 k < 2 ^ 31 := hI.2.2.2.1.2
  have hok : okA BN := hI.2.2.2.2
  have eJ1 : J 1 = I 0 := hI.2.1.1
  have eJ2 : J 2 = I 1 := hI.2.1.2
  have hj1 : J 1 ≤ 3 := by omega
  have hj2 : J 2 ≤ 3 := by omega
  have hl : lv_has ls 8 [(4, .int (nI i)), (3, .ref o), (2, .ref (am 0)), (0, .ref b), (1, .ref (ad 0))] := hl
  obtain ⟨mo, hfb, hwo, hAl⟩ := hM (I, AN, AI, AL) (J, G, BN, BI, BL) (xs (i + 1)) hI
  dsimp only at hAl hfb hwo
  refine lv_aload_n hx hb dL_law_608 rfl (lv_at hl 4 rfl) ?_
  refine lv_aload_n hx hb dL_law_609 rfl (lv_at hl 3 rfl) ?_
  refine lv_iload hx hb dL_law_610 (lv_at hl 0 rfl) ?_
  refine lv_iconst (v := nI 1) hx hb dL_law_612 (by decide) ?_
  refine b_addn hx hb dL_law_613 ?_
  refine l_sld hx hb hX hbl hbA hS (by omega) (by omega) dL_law_614 ?_
  refine lv_aload_n hx hb dL_law_615 rfl (lv_at hl 1 rfl) ?_
  refine f_calli (wf := wH cs ad o) (vx_runSW (As := [.ref (ad 0), .int (xs (i + 1)), .ref o]) (rest := []) ⟨hx, hb, hml, hown, hts⟩ (ctL_least l hlt D cs ad I AN AI AL f o _ sa (xs (i + 1)) hn3 he3 hbg) (vx_cwSW 3 hts (gi_SW gw_456 gw_457 gw_52 gw_458) rfl rfl rfl (by decide +kernel) ⟨Nat.le_of_ble_eq_true rfl, Nat.le_of_ble_eq_true rfl⟩) ⟨gH_blind, gH_pre (P_l hP) hK (D_l hD) hN hS hA hXW hXN⟩ rfl rfl hl.1 rfl (lv_room (Nat.le_of_ble_eq_true rfl)) dL_law_616 ⟨hc, hs⟩) hP hD hS hA (fun _ => wH_ads) (fun r w9 H locs hw hP hD hS => ?_)
  obtain ⟨u9, f9⟩ := w9
  obtain ⟨rfl, hw2, hw3⟩ := hw
  have hw2 : u9 = (clLeast (I, AN, AI, AL) (xs (i + 1))).2.2 := hw2
  have hw3 : (clLeast (I, AN, AI, AL) (xs (i + 1))).1 = 0 → f9 0 = (clLeast (I, AN, AI, AL) (xs (i + 1))).2.1 := hw3
  obtain ⟨k9, hk9⟩ : ∃ k9, k9 = (clLeast (I, AN, AI, AL) (xs (i + 1))).1 := ⟨_, rfl⟩
  rw [← hk9] at hw3 ⊢
  refine lv_istore (lv' := [(5, .int (nI k9)), (4, .int (nI i)), (3, .ref o), (2, .ref (am 0)), (0, .ref b), (1, .ref (ad 0))]) hx hb dL_law_619 hl (by decide) rfl (fun ls hl => ?_)
  refine lv_aload_n hx hb dL_law_621 rfl (lv_at hl 3 rfl) ?_
  refine lv_aload_n hx hb dL_law_622 rfl (lv_at hl 4 rfl) ?_
  refine lv_iload hx hb dL_law_623 (lv_at hl 1 rfl) ?_
  refine lv_iconst (v := nI 1) hx hb dL_law_625 (by decide) ?_
  refine b_addn hx hb dL_law_626 ?_
  refine l_sld hx hb hX hbl hbA hS (by omega) (by omega) dL_law_627 ?_
  refine f_calll (wf := wMs cs am) (va_runV (As := [.int (xs (i + 1))]) (rest := []) ⟨hx, hb, hml, hown, hts⟩ (ctX3_least l D cs am J G BN BI BL _ mo (xs (i + 1)) hj1 hj2 hok hfb hwo) (cwV 1 hts (gi_V gw_719 gw_720 gw_721 gw_57 gw_722) rfl rfl rfl (by decide +kernel) ⟨Nat.le_of_ble_eq_true rfl, Nat.le_of_ble_eq_true rfl⟩) ⟨g_blind, va_recv hK (P_l (P_swap hP)) (ci := 3) (q0 := 0) rfl (wm_at (by decide) rfl), g_pre (P_l (P_swap hP)) hK (D_l (D_swap hD)) hN⟩ rfl rfl hl.1 rfl (lv_room (Nat.le_of_ble_eq_true rfl)) dL_law_628 ⟨show _ ≤ 666090 by omega, show _ ≤ 7097800 by omega⟩) (P_swap hP) (D_swap hD) hS hA (fun _ => wm_ads) (fun rm v9 H locs hw hP hD hS => ?_)
  obtain ⟨hv9, hrm⟩ := hw
  have hAg := hAl v9 hv9
  obtain ⟨r9, hr9⟩ : ∃ r9, r9 = rm := ⟨_, rfl⟩
  rw [← hr9] at hrm ⊢
  rw [← hrm] at hAg
  have hP : va_P D vc (wH cs ad o (u9, f9) ++ wMs cs am v9) H := P_swap hP
  have hD : va_D (fun q : Nat => s.heap.size ≤ q) (wH cs ad o (u9, f9) ++ wMs cs am v9) := D_swap hD
  have hag : Agree (clLeast (I, AN, AI, AL) (xs (i + 1))) (r9) v9 := hAg
  obtain ⟨hg1, hg2, hg3, hg4⟩ := hag
  rw [← hk9] at hg1 hg2 hg3
  rw [← hw2] at hg4
  obtain ⟨J9, G9, BN9, BI9, BL9⟩ := v9
  refine lv_lstore (lv' := [(6, .long r9), (5, .int (nI k9)), (4, .int (nI i)), (3, .ref o), (2, .ref (am 0)), (0, .ref b), (1, .ref (ad 0))]) hx hb dL_law_631 hl (by decide) rfl (fun ls hl => ?_)
  refine lv_aload_n hx hb dL_law_633 rfl (lv_at hl 4 rfl) ?_
  refine f_calli (wf := wMs cs am) (va_runV (As := []) (rest := []) ⟨hx, hb, hml, hown, hts⟩ (ctX3_thrown l D cs am J9 G9 BN9 BI9 BL9 _ ) (cwV 0 hts (gi_V gw_575 gw_576 gw_577 gw_57 gw_578) rfl rfl rfl (by decide +kernel) ⟨Nat.le_of_ble_eq_true rfl, Nat.le_of_ble_eq_true rfl⟩) ⟨g_blind, va_recv hK (P_l (P_swap hP)) (ci := 3) (q0 := 0) rfl (wm_at (by decide) rfl), g_pre (P_l (P_swap hP)) hK (D_l (D_swap hD)) hN⟩ rfl rfl hl.1 rfl (lv_room (Nat.le_of_ble_eq_true rfl)) dL_law_634 ⟨show _ ≤ 666090 by omega, show _ ≤ 7097800 by omega⟩) (P_swap hP) (D_swap hD) hS hA (fun _ => wm_ads) (fun rt v8 H locs hw hP hD hS => ?_)
  obtain ⟨rfl, rfl⟩ := hw
  have hP : va_P D vc (wH cs ad o (u9, f9) ++ wMs cs am (J9, G9, BN9, BI9, BL9)) H := P_swap hP
  have hD : va_D (fun q : Nat => s.heap.size ≤ q) (wH cs ad o (u9, f9) ++ wMs cs am (J9, G9, BN9, BI9, BL9)) := D_swap hD
  refine lv_iload hx hb dL_law_637 (lv_at hl 1 rfl) ?_
  refine lv_icmp_eq (tgt := 644) hx hb dL_law_639 (by decide) (fun _ => ?_) (fun q => absurd hg1 q)
  refine lv_iload hx hb dL_law_644 (lv_at hl 1 rfl) ?_
  by_cases hk0 : k9 = 0
  · refine lv_if_ne (tgt := 660) hx hb dL_law_646 (by decide) (fun q => absurd (by rw [hk0]; rfl) q) (fun _ => ?_)
    refine lv_aload_n hx hb dL_law_649 rfl (lv_at hl 3 rfl) ?_
    refine lv_iconst (v := nI 0) hx hb dL_law_650 (by decide) ?_
    refine l_out hx hb hK hP wT_len dL_law_651 ?_
    refine lv_lload hx hb dL_law_652 (lv_at hl 0 rfl) ?_
    have hfin : f9 0 = r9 := by rw [hw3 hk0, hg3 hk0]
    refine b_lceq (tgt := 660) hx hb dL_law_654 dL_law_655 (by decide) (fun _ => ?_) (fun q => absurd hfin q)
    refine lv_goto (tgt := 926) hx hb dL_law_660 (by decide) ?_
    exact kk (u9, f9) (J9, G9, BN9, BI9, BL9) _ _ ls ⟨hP, hD, hS, hg4⟩ (lv_sub hl [2, 3, 4, 5, 6] rfl)
  · refine lv_if_ne (tgt := 660) hx hb dL_law_646 (by decide) (fun _ => ?_) (fun q => absurd ((nI_eq (a := k9) (b := 0) (by omega) (by decide)).mp q) hk0)
    refine lv_goto (tgt := 926) hx hb dL_law_660 (by decide) ?_
    exact kk (u9, f9) (J9, G9, BN9, BI9, BL9) _ _ ls ⟨hP, hD, hS, hg4⟩ (lv_sub hl [2, 3, 4, 5, 6] rfl)

set_option maxHeartbeats 4000000 in
set_option maxRecDepth 100000 in
theorem lo_nearest {p : Program} {l : Launch} (hlt : l.stackTraces = false) {e : Env} {s : State} {m : MethodId} {below : List Frame} {meth : Method} {c : Code} {H : Heap} {locs : List Loc} {cells slots : Nat} {Q : State → Prop} {ls : Array Slot} {D : va_G} {cs : Nat → ClassId} {ad am : Nat → Nat} {o b L i : Nat} {xs : Nat → Int32} {sa : Nat → Nat} (hM : M_near) {w : TS × (Nat → Int64)} {v : MS} (hC : LC p s m meth c D cs b L xs sa) (hLS : LSt s D cs ad am o w v H locs) (hi : i + 4 ≤ L) (hL : L ≤ 2049) (hc : cells + 1 ≤ 666090) (hs : slots + 6 ≤ 7097800) (hl : lv_has ls 8 (lvL b o (ad 0) (am 0) i))
    (kk : ∀ (w : TS × (Nat → Int64)) (v : MS) (H : Heap) (locs : List Loc) (ls : Array Slot), LSt s D cs ad am o w v H locs → lv_has ls 8 (lvL b o (ad 0) (am 0) i) → W p l e room_1 s m #[Value.ref b] below meth c H locs (cells + 1) (slots + 6) Q (F0 m 926 ls [])) : W p l e room_1 s m #[Value.ref b] below meth c H locs cells slots Q (F0 m 663 ls []) := by
  obtain ⟨hx, hb, hr, hml, hown, hts, hlocks, hK, hN, hX, hbl, hXW, hXN⟩ := hC
  obtain ⟨⟨I, AN, AI, AL⟩, f⟩ := w
  obtain ⟨J, G, BN, BI, BL⟩ := v
  obtain ⟨hP, hD, hS, hI⟩ := hLS
  have hA : ∀ q : Nat, s.heap.size ≤ q → (fun q : Nat => s.heap.size ≤ q) q := fun _ h => h
  have hbA : ¬ (fun q : Nat => s.heap.size ≤ q) b := Nat.not_le.mpr hbl
  have hn3 : I 0 ≤ 3 := hI.1.2.1
  have he3 : I 1 ≤ 3 := hI.1.2.2
  have hbg : ∀ r, r < 3 → AN 7 r < 6 := hI.2.2.2.1.1
  have hdc : ∀ k, k < 7 → AN 5 k < 2 ^ 31 := hI.2.2.2.1.2
  have hok : okA BN := hI.2.2.2.2
  have eJ1 : J 1 = I 0 := hI.2.1.1
  have eJ2 : J 2 = I 1 := hI.2.1.2
  have hj1 : J 1 ≤ 3 := by omega
  have hj2 : J 2 ≤ 3 := by omega
  have hl : lv_has ls 8 [(4, .int (nI i)), (3, .ref o), (2, .ref (am 0)), (0, .ref b), (1, .ref (ad 0))] := hl
  obtain ⟨hlo, hAg⟩ := hM (I, AN, AI, AL) (J, G, BN, BI, BL) (xs (i + 1)) (xs (i + 2)) hI
  dsimp only at hAg hlo
  refine lv_aload_n hx hb dL_law_663 rfl (lv_at hl 4 rfl) ?_
  refine lv_aload_n hx hb dL_law_664 rfl (lv_at hl 3 rfl) ?_
  refine lv_iload hx hb dL_law_665 (lv_at hl 0 rfl) ?_
  refine lv_iconst (v := nI 1) hx hb dL_law_667 (by decide) ?_
  refine b_addn hx hb dL_law_668 ?_
  refine l_sld hx hb hX hbl hbA hS (by omega) (by omega) dL_law_669 ?_
  refine lv_aload_n hx hb dL_law_670 rfl (lv_at hl 3 rfl) ?_
  refine lv_iload hx hb dL_law_671 (lv_at hl 0 rfl) ?_
  refine lv_iconst (v := nI 2) hx hb dL_law_673 (by decide) ?_
  refine b_addn hx hb dL_law_674 ?_
  refine l_sld hx hb hX hbl hbA hS (by omega) (by omega) dL_law_675 ?_
  refine lv_aload_n hx hb dL_law_676 rfl (lv_at hl 1 rfl) ?_
  refine f_calli (wf := wH cs ad o) (vx_runSW (As := [.ref (ad 0), .int (xs (i + 1)), .int (xs (i + 2)), .ref o]) (rest := []) ⟨hx, hb, hml, hown, hts⟩ (ctL_nearest l hlt D cs ad I AN AI AL f o _ sa (xs (i + 1)) (xs (i + 2)) hn3 he3 hbg hdc) (vx_cwSW 4 hts (gi_SW gw_464 gw_465 gw_52 gw_466) rfl rfl rfl (by decide +kernel) ⟨Nat.le_of_ble_eq_true rfl, Nat.le_of_ble_eq_true rfl⟩) ⟨gH_blind, gH_pre (P_l hP) hK (D_l hD) hN hS hA hXW hXN⟩ rfl rfl hl.1 rfl (lv_room (Nat.le_of_ble_eq_true rfl)) dL_law_677 ⟨hc, hs⟩) hP hD hS hA (fun _ => wH_ads) (fun r w9 H locs hw hP hD hS => ?_)
  obtain ⟨u9, f9⟩ := w9
  obtain ⟨rfl, hw2, hw3⟩ := hw
  have hw2 : u9 = (clNear (I, AN, AI, AL) (xs (i + 1)) (xs (i + 2))).2.2 := hw2
  have hw3 : (clNear (I, AN, AI, AL) (xs (i + 1)) (xs (i + 2))).1 = 0 → f9 0 = (clNear (I, AN, AI, AL) (xs (i + 1)) (xs (i + 2))).2.1 := hw3
  obtain ⟨k9, hk9⟩ : ∃ k9, k9 = (clNear (I, AN, AI, AL) (xs (i + 1)) (xs (i + 2))).1 := ⟨_, rfl⟩
  rw [← hk9] at hw3 ⊢
  refine lv_istore (lv' := [(5, .int (nI k9)), (4, .int (nI i)), (3, .ref o), (2, .ref (am 0)), (0, .ref b), (1, .ref (ad 0))]) hx hb dL_law_680 hl (by decide) rfl (fun ls hl => ?_)
  refine lv_aload_n hx hb dL_law_682 rfl (lv_at hl 3 rfl) ?_
  refine lv_aload_n hx hb dL_law_683 rfl (lv_at hl 4 rfl) ?_
  refine lv_iload hx hb dL_law_684 (lv_at hl 1 rfl) ?_
  refine lv_iconst (v := nI 1) hx hb dL_law_686 (by decide) ?_
  refine b_addn hx hb dL_law_687 ?_
  refine l_sld hx hb hX hbl hbA hS (by omega) (by omega) dL_law_688 ?_
  refine lv_aload_n hx hb dL_law_689 rfl (lv_at hl 4 rfl) ?_
  refine lv_iload hx hb dL_law_690 (lv_at hl 1 rfl) ?_
  refine lv_iconst (v := nI 2) hx hb dL_law_692 (by decide) ?_
  refine b_addn hx hb dL_law_693 ?_
  refine l_sld hx hb hX hbl hbA hS (by omega) (by omega) dL_law_694 ?_
  refine f_calll (wf := wMs cs am) (va_runV (As := [.int (xs (i + 1)), .int (xs (i + 2))]) (rest := []) ⟨hx, hb, hml, hown, hts⟩ (ctX3_nearest l D cs am J G BN BI BL _ (xs (i + 1)) (xs (i + 2)) hj1 hj2 hok hlo) (cwV 2 hts (gi_V gw_723 gw_724 gw_725 gw_57 gw_726) rfl rfl rfl (by decide +kernel) ⟨Nat.le_of_ble_eq_true rfl, Nat.le_of_ble_eq_true rfl⟩) ⟨g_blind, va_recv hK (P_l (P_swap hP)) (ci := 3) (q0 := 0) rfl (wm_at (by decide) rfl), g_pre (P_l (P_swap hP)) hK (D_l (D_swap hD)) hN⟩ rfl rfl hl.1 rfl (lv_room (Nat.le_of_ble_eq_true rfl)) dL_law_695 ⟨show _ ≤ 666090 by omega, show _ ≤ 7097800 by omega⟩) (P_swap hP) (D_swap hD) hS hA (fun _ => wm_ads) (fun rm v9 H locs hw hP hD hS => ?_)
  obtain ⟨hv9, hrm⟩ := hw
  obtain ⟨r9, hr9⟩ : ∃ r9, r9 = rm := ⟨_, rfl⟩
  rw [← hr9] at hrm ⊢
  rw [← hrm, ← hv9] at hAg
  have hP : va_P D vc (wH cs ad o (u9, f9) ++ wMs cs am v9) H := P_swap hP
  have hD : va_D (fun q : Nat => s.heap.size ≤ q) (wH cs ad o (u9, f9) ++ wMs cs am v9) := D_swap hD
  have hag : Agree (clNear (I, AN, AI, AL) (xs (i + 1)) (xs (i + 2))) (r9) v9 := hAg
  obtain ⟨hg1, hg2, hg3, hg4⟩ := hag
  rw [← hk9] at hg1 hg2 hg3
  rw [← hw2] at hg4
  obtain ⟨J9, G9, BN9, BI9, BL9⟩ := v9
  refine lv_lstore (lv' := [(6, .long r9), (5, .int (nI k9)), (4, .int (nI i)), (3, .ref o), (2, .ref (am 0)), (0, .ref b), (1, .ref (ad 0))]) hx hb dL_law_698 hl (by decide) rfl (fun ls hl => ?_)
  refine lv_aload_n hx hb dL_law_700 rfl (lv_at hl 4 rfl) ?_
  refine f_calli (wf := wMs cs am) (va_runV (As := []) (rest := []) ⟨hx, hb, hml, hown, hts⟩ (ctX3_thrown l D cs am J9 G9 BN9 BI9 BL9 _ ) (cwV 0 hts (gi_V gw_575 gw_576 gw_577 gw_57 gw_578) rfl rfl rfl (by decide +kernel) ⟨Nat.le_of_ble_eq_true rfl, Nat.le_of_ble_eq_true rfl⟩) ⟨g_blind, va_recv hK (P_l (P_swap hP)) (ci := 3) (q0 := 0) rfl (wm_at (by decide) rfl), g_pre (P_l (P_swap hP)) hK (D_l (D_swap hD)) hN⟩ rfl rfl hl.1 rfl (lv_room (Nat.le_of_ble_eq_true rfl)) dL_law_701 ⟨show _ ≤ 666090 by omega, show _ ≤ 7097800 by omega⟩) (P_swap hP) (D_swap hD) hS hA (fun _ => wm_ads) (fun rt v8 H locs hw hP hD hS => ?_)
  obtain ⟨rfl, rfl⟩ := hw
  have hP : va_P D vc (wH cs ad o (u9, f9) ++ wMs cs am (J9, G9, BN9, BI9, BL9)) H := P_swap hP
  have hD : va_D (fun q : Nat => s.heap.size ≤ q) (wH cs ad o (u9, f9) ++ wMs cs am (J9, G9, BN9, BI9, BL9)) := D_swap hD
  refine lv_iload hx hb dL_law_704 (lv_at hl 1 rfl) ?_
  refine lv_icmp_eq (tgt := 711) hx hb dL_law_706 (by decide) (fun _ => ?_) (fun q => absurd hg1 q)
  refine lv_iload hx hb dL_law_711 (lv_at hl 1 rfl) ?_
  by_cases hk0 : k9 = 0
  · refine lv_if_ne (tgt := 727) hx hb dL_law_713 (by decide) (fun q => absurd (by rw [hk0]; rfl) q) (fun _ => ?_)
    refine lv_aload_n hx hb dL_law_716 rfl (lv_at hl 3 rfl) ?_
    refine lv_iconst (v := nI 0) hx hb dL_law_717 (by decide) ?_
    refine l_out hx hb hK hP wT_len dL_law_718 ?_
    refine lv_lload hx hb dL_law_719 (lv_at hl 0 rfl) ?_
    have hfin : f9 0 = r9 := by rw [hw3 hk0, hg3 hk0]
    refine b_lceq (tgt := 727) hx hb dL_law_721 dL_law_722 (by decide) (fun _ => ?_) (fun q => absurd hfin q)
    refine lv_goto (tgt := 926) hx hb dL_law_727 (by decide) ?_
    exact kk (u9, f9) (J9, G9, BN9, BI9, BL9) _ _ ls ⟨hP, hD, hS, hg4⟩ (lv_sub hl [2, 3, 4, 5, 6] rfl)
  · refine lv_if_ne (tgt := 727) hx hb dL_law_713 (by decide) (fun _ => ?_) (fun q => absurd ((nI_eq (a := k9) (b := 0) (by omega) (by decide)).mp q) hk0)
    refine lv_goto (tgt := 926) hx hb dL_law_727 (by decide) ?_
    exact kk (u9, f9) (J9, G9, BN9, BI9, BL9) _ _ ls ⟨hP, hD, hS, hg4⟩ (lv_sub hl [2, 3, 4, 5, 6] rfl)

set_option maxHeartbeats 4000000 in
set_option maxRecDepth 100000 in
theorem lo_squares {p : Program} {l : Launch} (hlt : l.stackTraces = false) {e : Env} {s : State} {m : MethodId} {below : List Frame} {meth : Method} {c : Code} {H : Heap} {locs : List Loc} {cells slots : Nat} {Q : State → Prop} {ls : Array Slot} {D : va_G} {cs : Nat → ClassId} {ad am : Nat → Nat} {o b L i : Nat} {xs : Nat → Int32} {sa : Nat → Nat} (hM : M_squ) {w : TS × (Nat → Int64)} {v : MS} (hC : LC p s m meth c D cs b L xs sa) (hLS : LSt s D cs ad am o w v H locs) (hi : i + 4 ≤ L) (hL : L ≤ 2049) (hc : cells + 1 ≤ 666090) (hs : slots + 6 ≤ 7097800) (hl : lv_has ls 8 (lvL b o (ad 0) (am 0) i))
    (kk : ∀ (w : TS × (Nat → Int64)) (v : MS) (H : Heap) (locs : List Loc) (ls : Array Slot), LSt s D cs ad am o w v H locs → lv_has ls 8 (lvL b o (ad 0) (am 0) i) → W p l e room_1 s m #[Value.ref b] below meth c H locs (cells + 1) (slots + 6) Q (F0 m 926 ls [])) : W p l e room_1 s m #[Value.ref b] below meth c H locs cells slots Q (F0 m 730 ls []) := by
  obtain ⟨hx, hb, hr, hml, hown, hts, hlocks, hK, hN, hX, hbl, hXW, hXN⟩ := hC
  obtain ⟨⟨I, AN, AI, AL⟩, f⟩ := w
  obtain ⟨J, G, BN, BI, BL⟩ := v
  obtain ⟨hP, hD, hS, hI⟩ := hLS
  have hA : ∀ q : Nat, s.heap.size ≤ q → (fun q : Nat => s.heap.size ≤ q) q := fun _ h => h
  have hbA : ¬ (fun q : Nat => s.heap.size ≤ q) b := Nat.not_le.mpr hbl
  have hn3 : I 0 ≤ 3 := hI.1.2.1
  have he3 : I 1 ≤ 3 := hI.1.2.2
  have hbg : ∀ r, r < 3 → AN 7 r < 6 := hI.2.2.2.1.1
  have hdc : ∀ k, k < 7 → AN 5 k < 2 ^ 31 := hI.2.2.2.1.2
  have hok : okA BN := hI.2.2.2.2
  have eJ1 : J 1 = I 0 := hI.2.1.1
  have eJ2 : J 2 = I 1 := hI.2.1.2
  have hj1 : J 1 ≤ 3 := by omega
  have hj2 : J 2 ≤ 3 := by omega
  have hl : lv_has ls 8 [(4, .int (nI i)), (3, .ref o), (2, .ref (am 0)), (0, .ref b), (1, .ref (ad 0))] := hl
  obtain ⟨hlo, hAg⟩ := hM (I, AN, AI, AL) (J, G, BN, BI, BL) (xs (i + 1)) hI
  dsimp only at hAg hlo
  refine lv_aload_n hx hb dL_law_730 rfl (lv_at hl 4 rfl) ?_
  refine lv_aload_n hx hb dL_law_731 rfl (lv_at hl 3 rfl) ?_
  refine lv_iload hx hb dL_law_732 (lv_at hl 0 rfl) ?_
  refine lv_iconst (v := nI 1) hx hb dL_law_734 (by decide) ?_
  refine b_addn hx hb dL_law_735 ?_
  refine l_sld hx hb hX hbl hbA hS (by omega) (by omega) dL_law_736 ?_
  refine lv_aload_n hx hb dL_law_737 rfl (lv_at hl 1 rfl) ?_
  refine f_calli (wf := wH cs ad o) (vx_runSW (As := [.ref (ad 0), .int (xs (i + 1)), .ref o]) (rest := []) ⟨hx, hb, hml, hown, hts⟩ (ctL_squares l hlt D cs ad I AN AI AL f o _ sa (xs (i + 1)) hn3 he3 hbg hdc) (vx_cwSW 3 hts (gi_SW gw_479 gw_480 gw_52 gw_481) rfl rfl rfl (by decide +kernel) ⟨Nat.le_of_ble_eq_true rfl, Nat.le_of_ble_eq_true rfl⟩) ⟨gH_blind, gH_pre (P_l hP) hK (D_l hD) hN hS hA hXW hXN⟩ rfl rfl hl.1 rfl (lv_room (Nat.le_of_ble_eq_true rfl)) dL_law_738 ⟨hc, hs⟩) hP hD hS hA (fun _ => wH_ads) (fun r w9 H locs hw hP hD hS => ?_)
  obtain ⟨u9, f9⟩ := w9
  obtain ⟨rfl, hw2, hw3⟩ := hw
  have hw2 : u9 = (clSqu (I, AN, AI, AL) (xs (i + 1))).2.2 := hw2
  have hw3 : (clSqu (I, AN, AI, AL) (xs (i + 1))).1 = 0 → f9 0 = (clSqu (I, AN, AI, AL) (xs (i + 1))).2.1 := hw3
  obtain ⟨k9, hk9⟩ : ∃ k9, k9 = (clSqu (I, AN, AI, AL) (xs (i + 1))).1 := ⟨_, rfl⟩
  rw [← hk9] at hw3 ⊢
  refine lv_istore (lv' := [(5, .int (nI k9)), (4, .int (nI i)), (3, .ref o), (2, .ref (am 0)), (0, .ref b), (1, .ref (ad 0))]) hx hb dL_law_741 hl (by decide) rfl (fun ls hl => ?_)
  refine lv_aload_n hx hb dL_law_743 rfl (lv_at hl 3 rfl) ?_
  refine lv_aload_n hx hb dL_law_744 rfl (lv_at hl 4 rfl) ?_
  refine lv_iload hx hb dL_law_745 (lv_at hl 1 rfl) ?_
  refine lv_iconst (v := nI 1) hx hb dL_law_747 (by decide) ?_
  refine b_addn hx hb dL_law_748 ?_
  refine l_sld hx hb hX hbl hbA hS (by omega) (by omega) dL_law_749 ?_
  refine f_calll (wf := wMs cs am) (va_runV (As := [.int (xs (i + 1))]) (rest := []) ⟨hx, hb, hml, hown, hts⟩ (ctX3_squares l D cs am J G BN BI BL _ (xs (i + 1)) hj1 hj2 hok hlo) (cwV 1 hts (gi_V gw_735 gw_736 gw_737 gw_57 gw_738) rfl rfl rfl (by decide +kernel) ⟨Nat.le_of_ble_eq_true rfl, Nat.le_of_ble_eq_true rfl⟩) ⟨g_blind, va_recv hK (P_l (P_swap hP)) (ci := 3) (q0 := 0) rfl (wm_at (by decide) rfl), g_pre (P_l (P_swap hP)) hK (D_l (D_swap hD)) hN⟩ rfl rfl hl.1 rfl (lv_room (Nat.le_of_ble_eq_true rfl)) dL_law_750 ⟨show _ ≤ 666090 by omega, show _ ≤ 7097800 by omega⟩) (P_swap hP) (D_swap hD) hS hA (fun _ => wm_ads) (fun rm v9 H locs hw hP hD hS => ?_)
  obtain ⟨hv9, hrm⟩ := hw
  obtain ⟨r9, hr9⟩ : ∃ r9, r9 = rm := ⟨_, rfl⟩
  rw [← hr9] at hrm ⊢
  rw [← hrm, ← hv9] at hAg
  have hP : va_P D vc (wH cs ad o (u9, f9) ++ wMs cs am v9) H := P_swap hP
  have hD : va_D (fun q : Nat => s.heap.size ≤ q) (wH cs ad o (u9, f9) ++ wMs cs am v9) := D_swap hD
  have hag : Agree (clSqu (I, AN, AI, AL) (xs (i + 1))) (r9) v9 := hAg
  obtain ⟨hg1, hg2, hg3, hg4⟩ := hag
  rw [← hk9] at hg1 hg2 hg3
  rw [← hw2] at hg4
  obtain ⟨J9, G9, BN9, BI9, BL9⟩ := v9
  refine lv_lstore (lv' := [(6, .long r9), (5, .int (nI k9)), (4, .int (nI i)), (3, .ref o), (2, .ref (am 0)), (0, .ref b), (1, .ref (ad 0))]) hx hb dL_law_753 hl (by decide) rfl (fun ls hl => ?_)
  refine lv_aload_n hx hb dL_law_755 rfl (lv_at hl 4 rfl) ?_
  refine f_calli (wf := wMs cs am) (va_runV (As := []) (rest := []) ⟨hx, hb, hml, hown, hts⟩ (ctX3_thrown l D cs am J9 G9 BN9 BI9 BL9 _ ) (cwV 0 hts (gi_V gw_575 gw_576 gw_577 gw_57 gw_578) rfl rfl rfl (by decide +kernel) ⟨Nat.le_of_ble_eq_true rfl, Nat.le_of_ble_eq_true rfl⟩) ⟨g_blind, va_recv hK (P_l (P_swap hP)) (ci := 3) (q0 := 0) rfl (wm_at (by decide) rfl), g_pre (P_l (P_swap hP)) hK (D_l (D_swap hD)) hN⟩ rfl rfl hl.1 rfl (lv_room (Nat.le_of_ble_eq_true rfl)) dL_law_756 ⟨show _ ≤ 666090 by omega, show _ ≤ 7097800 by omega⟩) (P_swap hP) (D_swap hD) hS hA (fun _ => wm_ads) (fun rt v8 H locs hw hP hD hS => ?_)
  obtain ⟨rfl, rfl⟩ := hw
  have hP : va_P D vc (wH cs ad o (u9, f9) ++ wMs cs am (J9, G9, BN9, BI9, BL9)) H := P_swap hP
  have hD : va_D (fun q : Nat => s.heap.size ≤ q) (wH cs ad o (u9, f9) ++ wMs cs am (J9, G9, BN9, BI9, BL9)) := D_swap hD
  refine lv_iload hx hb dL_law_759 (lv_at hl 1 rfl) ?_
  refine lv_icmp_eq (tgt := 766) hx hb dL_law_761 (by decide) (fun _ => ?_) (fun q => absurd hg1 q)
  refine lv_iload hx hb dL_law_766 (lv_at hl 1 rfl) ?_
  by_cases hk0 : k9 = 0
  · refine lv_if_ne (tgt := 782) hx hb dL_law_768 (by decide) (fun q => absurd (by rw [hk0]; rfl) q) (fun _ => ?_)
    refine lv_aload_n hx hb dL_law_771 rfl (lv_at hl 3 rfl) ?_
    refine lv_iconst (v := nI 0) hx hb dL_law_772 (by decide) ?_
    refine l_out hx hb hK hP wT_len dL_law_773 ?_
    refine lv_lload hx hb dL_law_774 (lv_at hl 0 rfl) ?_
    have hfin : f9 0 = r9 := by rw [hw3 hk0, hg3 hk0]
    refine b_lceq (tgt := 782) hx hb dL_law_776 dL_law_777 (by decide) (fun _ => ?_) (fun q => absurd hfin q)
    refine lv_goto (tgt := 926) hx hb dL_law_782 (by decide) ?_
    exact kk (u9, f9) (J9, G9, BN9, BI9, BL9) _ _ ls ⟨hP, hD, hS, hg4⟩ (lv_sub hl [2, 3, 4, 5, 6] rfl)
  · refine lv_if_ne (tgt := 782) hx hb dL_law_768 (by decide) (fun _ => ?_) (fun q => absurd ((nI_eq (a := k9) (b := 0) (by omega) (by decide)).mp q) hk0)
    refine lv_goto (tgt := 926) hx hb dL_law_782 (by decide) ?_
    exact kk (u9, f9) (J9, G9, BN9, BI9, BL9) _ _ ls ⟨hP, hD, hS, hg4⟩ (lv_sub hl [2, 3, 4, 5, 6] rfl)

set_option maxHeartbeats 4000000 in
set_option maxRecDepth 100000 in
theorem lo_inBox {p : Program} {l : Launch} (hlt : l.stackTraces = false) {e : Env} {s : State} {m : MethodId} {below : List Frame} {meth : Method} {c : Code} {H : Heap} {locs : List Loc} {cells slots : Nat} {Q : State → Prop} {ls : Array Slot} {D : va_G} {cs : Nat → ClassId} {ad am : Nat → Nat} {o b L i : Nat} {xs : Nat → Int32} {sa : Nat → Nat} (hM : M_box) {w : TS × (Nat → Int64)} {v : MS} (hC : LC p s m meth c D cs b L xs sa) (hLS : LSt s D cs ad am o w v H locs) (hi : i + 4 ≤ L) (hL : L ≤ 2049) (hc : cells + 1 ≤ 666090) (hs : slots + 6 ≤ 7097800) (hl : lv_has ls 8 (lvL b o (ad 0) (am 0) i))
    (kk : ∀ (w : TS × (Nat → Int64)) (v : MS) (H : Heap) (locs : List Loc) (ls : Array Slot), LSt s D cs ad am o w v H locs → lv_has ls 8 (lvL b o (ad 0) (am 0) i) → W p l e room_1 s m #[Value.ref b] below meth c H locs (cells + 1) (slots + 6) Q (F0 m 926 ls [])) : W p l e room_1 s m #[Value.ref b] below meth c H locs cells slots Q (F0 m 785 ls []) := by
  obtain ⟨hx, hb, hr, hml, hown, hts, hlocks, hK, hN, hX, hbl, hXW, hXN⟩ := hC
  obtain ⟨⟨I, AN, AI, AL⟩, f⟩ := w
  obtain ⟨J, G, BN, BI, BL⟩ := v
  obtain ⟨hP, hD, hS, hI⟩ := hLS
  have hA : ∀ q : Nat, s.heap.size ≤ q → (fun q : Nat => s.heap.size ≤ q) q := fun _ h => h
  have hbA : ¬ (fun q : Nat => s.heap.size ≤ q) b := Nat.not_le.mpr hbl
  have hn3 : I 0 ≤ 3 := hI.1.2.1
  have he3 : I 1 ≤ 3 := hI.1.2.2
  have hbg : ∀ r, r < 3 → AN 7 r < 6 := hI.2.2.2.1.1
  have hdc : ∀ k, k < 7 → AN 5 k < 2 ^ 31 := hI.2.2.2.1.2
  have hok : okA BN := hI.2.2.2.2
  have eJ1 : J 1 = I 0 := hI.2.1.1
  have eJ2 : J 2 = I 1 := hI.2.1.2
  have hj1 : J 1 ≤ 3 := by omega
  have hj2 : J 2 ≤ 3 := by omega
  have hl : lv_has ls 8 [(4, .int (nI i)), (3, .ref o), (2, .ref (am 0)), (0, .ref b), (1, .ref (ad 0))] := hl
  have hAg := hM (I, AN, AI, AL) (J, G, BN, BI, BL) (xs (i + 1)) hI
  dsimp only at hAg
  refine lv_aload_n hx hb dL_law_785 rfl (lv_at hl 4 rfl) ?_
  refine lv_aload_n hx hb dL_law_786 rfl (lv_at hl 3 rfl) ?_
  refine lv_iload hx hb dL_law_787 (lv_at hl 0 rfl) ?_
  refine lv_iconst (v := nI 1) hx hb dL_law_789 (by decide) ?_
  refine b_addn hx hb dL_law_790 ?_
  refine l_sld hx hb hX hbl hbA hS (by omega) (by omega) dL_law_791 ?_
  refine lv_aload_n hx hb dL_law_792 rfl (lv_at hl 1 rfl) ?_
  refine f_calli (wf := wH cs ad o) (vx_runSW (As := [.ref (ad 0), .int (xs (i + 1)), .ref o]) (rest := []) ⟨hx, hb, hml, hown, hts⟩ (ctL_inBox l hlt D cs ad I AN AI AL f o _ sa (xs (i + 1)) hn3 he3) (vx_cwSW 3 hts (gi_SW gw_486 gw_487 gw_52 gw_488) rfl rfl rfl (by decide +kernel) ⟨Nat.le_of_ble_eq_true rfl, Nat.le_of_ble_eq_true rfl⟩) ⟨gH_blind, gH_pre (P_l hP) hK (D_l hD) hN hS hA hXW hXN⟩ rfl rfl hl.1 rfl (lv_room (Nat.le_of_ble_eq_true rfl)) dL_law_793 ⟨hc, hs⟩) hP hD hS hA (fun _ => wH_ads) (fun r w9 H locs hw hP hD hS => ?_)
  obtain ⟨u9, f9⟩ := w9
  obtain ⟨rfl, hw2, hw3⟩ := hw
  have hw2 : u9 = (clBox (I, AN, AI, AL) (xs (i + 1))).2.2 := hw2
  have hw3 : (clBox (I, AN, AI, AL) (xs (i + 1))).1 = 0 → f9 0 = (clBox (I, AN, AI, AL) (xs (i + 1))).2.1 := hw3
  obtain ⟨k9, hk9⟩ : ∃ k9, k9 = (clBox (I, AN, AI, AL) (xs (i + 1))).1 := ⟨_, rfl⟩
  rw [← hk9] at hw3 ⊢
  refine lv_istore (lv' := [(5, .int (nI k9)), (4, .int (nI i)), (3, .ref o), (2, .ref (am 0)), (0, .ref b), (1, .ref (ad 0))]) hx hb dL_law_796 hl (by decide) rfl (fun ls hl => ?_)
  refine lv_aload_n hx hb dL_law_798 rfl (lv_at hl 3 rfl) ?_
  refine lv_aload_n hx hb dL_law_799 rfl (lv_at hl 4 rfl) ?_
  refine lv_iload hx hb dL_law_800 (lv_at hl 1 rfl) ?_
  refine lv_iconst (v := nI 1) hx hb dL_law_802 (by decide) ?_
  refine b_addn hx hb dL_law_803 ?_
  refine l_sld hx hb hX hbl hbA hS (by omega) (by omega) dL_law_804 ?_
  refine f_calli (wf := wMs cs am) (va_runV (As := [.int (xs (i + 1))]) (rest := []) ⟨hx, hb, hml, hown, hts⟩ (ctX3_inBox l D cs am J G BN BI BL _ (xs (i + 1)) hj1 hj2) (cwV 1 hts (gi_V gw_739 gw_740 gw_741 gw_57 gw_742) rfl rfl rfl (by decide +kernel) ⟨Nat.le_of_ble_eq_true rfl, Nat.le_of_ble_eq_true rfl⟩) ⟨g_blind, va_recv hK (P_l (P_swap hP)) (ci := 3) (q0 := 0) rfl (wm_at (by decide) rfl), g_pre (P_l (P_swap hP)) hK (D_l (D_swap hD)) hN⟩ rfl rfl hl.1 rfl (lv_room (Nat.le_of_ble_eq_true rfl)) dL_law_805 ⟨show _ ≤ 666090 by omega, show _ ≤ 7097800 by omega⟩) (P_swap hP) (D_swap hD) hS hA (fun _ => wm_ads) (fun rm v9 H locs hw hP hD hS => ?_)
  obtain ⟨hv9, hrm⟩ := hw
  obtain ⟨r9, hr9⟩ : ∃ r9, r9 = rm := ⟨_, rfl⟩
  rw [← hr9] at hrm ⊢
  rw [← hrm, ← hv9] at hAg
  have hP : va_P D vc (wH cs ad o (u9, f9) ++ wMs cs am v9) H := P_swap hP
  have hD : va_D (fun q : Nat => s.heap.size ≤ q) (wH cs ad o (u9, f9) ++ wMs cs am v9) := D_swap hD
  have hag : Agree (clBox (I, AN, AI, AL) (xs (i + 1))) (Int32.toInt64 r9) v9 := hAg
  obtain ⟨hg1, hg2, hg3, hg4⟩ := hag
  rw [← hk9] at hg1 hg2 hg3
  rw [← hw2] at hg4
  obtain ⟨J9, G9, BN9, BI9, BL9⟩ := v9
  refine lv_istore (lv' := [(6, .int r9), (5, .int (nI k9)), (4, .int (nI i)), (3, .ref o), (2, .ref (am 0)), (0, .ref b), (1, .ref (ad 0))]) hx hb dL_law_808 hl (by decide) rfl (fun ls hl => ?_)
  refine lv_aload_n hx hb dL_law_810 rfl (lv_at hl 4 rfl) ?_
  refine f_calli (wf := wMs cs am) (va_runV (As := []) (rest := []) ⟨hx, hb, hml, hown, hts⟩ (ctX3_thrown l D cs am J9 G9 BN9 BI9 BL9 _ ) (cwV 0 hts (gi_V gw_575 gw_576 gw_577 gw_57 gw_578) rfl rfl rfl (by decide +kernel) ⟨Nat.le_of_ble_eq_true rfl, Nat.le_of_ble_eq_true rfl⟩) ⟨g_blind, va_recv hK (P_l (P_swap hP)) (ci := 3) (q0 := 0) rfl (wm_at (by decide) rfl), g_pre (P_l (P_swap hP)) hK (D_l (D_swap hD)) hN⟩ rfl rfl hl.1 rfl (lv_room (Nat.le_of_ble_eq_true rfl)) dL_law_811 ⟨show _ ≤ 666090 by omega, show _ ≤ 7097800 by omega⟩) (P_swap hP) (D_swap hD) hS hA (fun _ => wm_ads) (fun rt v8 H locs hw hP hD hS => ?_)
  obtain ⟨rfl, rfl⟩ := hw
  have hP : va_P D vc (wH cs ad o (u9, f9) ++ wMs cs am (J9, G9, BN9, BI9, BL9)) H := P_swap hP
  have hD : va_D (fun q : Nat => s.heap.size ≤ q) (wH cs ad o (u9, f9) ++ wMs cs am (J9, G9, BN9, BI9, BL9)) := D_swap hD
  refine lv_iload hx hb dL_law_814 (lv_at hl 1 rfl) ?_
  refine lv_icmp_eq (tgt := 821) hx hb dL_law_816 (by decide) (fun _ => ?_) (fun q => absurd hg1 q)
  refine lv_iload hx hb dL_law_821 (lv_at hl 1 rfl) ?_
  by_cases hk0 : k9 = 0
  · refine lv_if_ne (tgt := 838) hx hb dL_law_823 (by decide) (fun q => absurd (by rw [hk0]; rfl) q) (fun _ => ?_)
    refine lv_aload_n hx hb dL_law_826 rfl (lv_at hl 3 rfl) ?_
    refine lv_iconst (v := nI 0) hx hb dL_law_827 (by decide) ?_
    refine l_out hx hb hK hP wT_len dL_law_828 ?_
    refine lv_iload hx hb dL_law_829 (lv_at hl 0 rfl) ?_
    refine lv_i2l (v := Int32.toInt64 r9) hx hb dL_law_831 rfl ?_
    have hfin : f9 0 = Int32.toInt64 r9 := by rw [hw3 hk0, hg3 hk0]
    refine b_lceq (tgt := 838) hx hb dL_law_832 dL_law_833 (by decide) (fun _ => ?_) (fun q => absurd hfin q)
    refine lv_goto (tgt := 926) hx hb dL_law_838 (by decide) ?_
    exact kk (u9, f9) (J9, G9, BN9, BI9, BL9) _ _ ls ⟨hP, hD, hS, hg4⟩ (lv_sub hl [2, 3, 4, 5, 6] rfl)
  · refine lv_if_ne (tgt := 838) hx hb dL_law_823 (by decide) (fun _ => ?_) (fun q => absurd ((nI_eq (a := k9) (b := 0) (by omega) (by decide)).mp q) hk0)
    refine lv_goto (tgt := 926) hx hb dL_law_838 (by decide) ?_
    exact kk (u9, f9) (J9, G9, BN9, BI9, BL9) _ _ ls ⟨hP, hD, hS, hg4⟩ (lv_sub hl [2, 3, 4, 5, 6] rfl)

set_option maxHeartbeats 4000000 in
set_option maxRecDepth 100000 in
theorem lo_rank {p : Program} {l : Launch} (hlt : l.stackTraces = false) {e : Env} {s : State} {m : MethodId} {below : List Frame} {meth : Method} {c : Code} {H : Heap} {locs : List Loc} {cells slots : Nat} {Q : State → Prop} {ls : Array Slot} {D : va_G} {cs : Nat → ClassId} {ad am : Nat → Nat} {o b L i : Nat} {xs : Nat → Int32} {sa : Nat → Nat} (hM : M_rank) {w : TS × (Nat → Int64)} {v : MS} (hC : LC p s m meth c D cs b L xs sa) (hLS : LSt s D cs ad am o w v H locs) (hi : i + 4 ≤ L) (hL : L ≤ 2049) (hc : cells + 1 ≤ 666090) (hs : slots + 6 ≤ 7097800) (hl : lv_has ls 8 (lvL b o (ad 0) (am 0) i))
    (kk : ∀ (w : TS × (Nat → Int64)) (v : MS) (H : Heap) (locs : List Loc) (ls : Array Slot), LSt s D cs ad am o w v H locs → lv_has ls 8 (lvL b o (ad 0) (am 0) i) → W p l e room_1 s m #[Value.ref b] below meth c H locs (cells + 1) (slots + 6) Q (F0 m 926 ls [])) : W p l e room_1 s m #[Value.ref b] below meth c H locs cells slots Q (F0 m 331 ls []) := by
  obtain ⟨hx, hb, hr, hml, hown, hts, hlocks, hK, hN, hX, hbl, hXW, hXN⟩ := hC
  obtain ⟨⟨I, AN, AI, AL⟩, f⟩ := w
  obtain ⟨J, G, BN, BI, BL⟩ := v
  obtain ⟨hP, hD, hS, hI⟩ := hLS
  have hA : ∀ q : Nat, s.heap.size ≤ q → (fun q : Nat => s.heap.size ≤ q) q := fun _ h => h
  have hbA : ¬ (fun q : Nat => s.heap.size ≤ q) b := Nat.not_le.mpr hbl
  have hn3 : I 0 ≤ 3 := hI.1.2.1
  have he3 : I 1 ≤ 3 := hI.1.2.2
  have hbg : ∀ r, r < 3 → AN 7 r < 6 := hI.2.2.2.1.1
  have hdc : ∀ k, k < 7 → AN 5 k < 2 ^ 31 := hI.2.2.2.1.2
  have hok : okA BN := hI.2.2.2.2
  have eJ1 : J 1 = I 0 := hI.2.1.1
  have eJ2 : J 2 = I 1 := hI.2.1.2
  have hj1 : J 1 ≤ 3 := by omega
  have hj2 : J 2 ≤ 3 := by omega
  have hl : lv_has ls 8 [(4, .int (nI i)), (3, .ref o), (2, .ref (am 0)), (0, .ref b), (1, .ref (ad 0))] := hl
  obtain ⟨hq9, hi9⟩ := hM (I, AN, AI, AL) (J, G, BN, BI, BL) hI
  refine lv_aload_n hx hb dL_law_331 rfl (lv_at hl 4 rfl) ?_
  have hPt : va_P D vc (wTs cs ad (((I, AN, AI, AL), f)).1 ++ ([(o, .inl (cs 1, 1, .inr (.inl (((I, AN, AI, AL), f)).2)))] ++ wMs cs am (J, G, BN, BI, BL))) H := by rw [← List.append_assoc]; exact hP
  have hDt : va_D (fun q : Nat => s.heap.size ≤ q) (wTs cs ad (((I, AN, AI, AL), f)).1 ++ ([(o, .inl (cs 1, 1, .inr (.inl (((I, AN, AI, AL), f)).2)))] ++ wMs cs am (J, G, BN, BI, BL))) := by rw [← List.append_assoc]; exact hD
  refine f_calli (wf := wTs cs ad) (va_runV (As := []) (rest := []) ⟨hx, hb, hml, hown, hts⟩ (ctX2_rank l D cs ad I AN AI AL _ hn3 he3) (cwV 0 hts (gi_V gw_146 gw_147 gw_148 gw_53 gw_149) rfl rfl rfl (by decide +kernel) ⟨Nat.le_of_ble_eq_true rfl, Nat.le_of_ble_eq_true rfl⟩) ⟨g_blind, va_recv hK (P_l hPt) (ci := 2) (q0 := 0) rfl (wm_at (by decide) rfl), g_pre (P_l hPt) hK (D_l hDt) hN⟩ rfl rfl hl.1 rfl (lv_room (Nat.le_of_ble_eq_true rfl)) dL_law_332 ⟨show _ ≤ 666090 by omega, show _ ≤ 7097800 by omega⟩) hPt hDt hS hA (fun _ => wm_ads) (fun rc u9 H locs hw hP hD hS => ?_)
  obtain ⟨rfl, hrc⟩ := hw
  have hP : va_P D vc (wH cs ad o (tE (I, AN, AI, AL), f) ++ wMs cs am (J, G, BN, BI, BL)) H := by rw [← List.append_assoc] at hP; exact hP
  have hD : va_D (fun q : Nat => s.heap.size ≤ q) (wH cs ad o (tE (I, AN, AI, AL), f) ++ wMs cs am (J, G, BN, BI, BL)) := by rw [← List.append_assoc] at hD; exact hD
  refine lv_aload_n hx hb dL_law_335 rfl (lv_at hl 2 rfl) ?_
  refine f_calli (wf := wMs cs am) (va_runV (As := []) (rest := [.int rc]) ⟨hx, hb, hml, hown, hts⟩ (ctX3_rank l D cs am J G BN BI BL _ hj1 hj2 hok) (cwV 0 hts (gi_V gw_612 gw_613 gw_614 gw_57 gw_615) rfl rfl rfl (by decide +kernel) ⟨Nat.le_of_ble_eq_true rfl, Nat.le_of_ble_eq_true rfl⟩) ⟨g_blind, va_recv hK (P_l (P_swap hP)) (ci := 3) (q0 := 0) rfl (wm_at (by decide) rfl), g_pre (P_l (P_swap hP)) hK (D_l (D_swap hD)) hN⟩ rfl rfl hl.1 rfl (lv_room (Nat.le_of_ble_eq_true rfl)) dL_law_336 ⟨show _ ≤ 666090 by omega, show _ ≤ 7097800 by omega⟩) (P_swap hP) (D_swap hD) hS hA (fun _ => wm_ads) (fun rm v9 H locs hw hP hD hS => ?_)
  obtain ⟨rfl, hrm⟩ := hw
  have hP : va_P D vc (wH cs ad o (tE (I, AN, AI, AL), f) ++ wMs cs am (mL (J, G, BN, BI, BL))) H := P_swap hP
  have hD : va_D (fun q : Nat => s.heap.size ≤ q) (wH cs ad o (tE (I, AN, AI, AL), f) ++ wMs cs am (mL (J, G, BN, BI, BL))) := D_swap hD
  have hfin : rc = rm := by rw [hrc, hrm]; exact congrArg nI hq9
  refine W.widen (k := cells + 1) (n := slots + 6) (by omega) (by omega) ?_
  refine lv_icmp_eq (tgt := 926) hx hb dL_law_339 (by decide) (fun _ => ?_) (fun q => absurd hfin q)
  exact kk (tE (I, AN, AI, AL), f) (mL (J, G, BN, BI, BL)) _ _ ls ⟨hP, hD, hS, hi9⟩ (lv_sub hl [0, 1, 2, 3, 4] rfl)

set_option maxHeartbeats 4000000 in
set_option maxRecDepth 100000 in
theorem lo_solutions {p : Program} {l : Launch} (hlt : l.stackTraces = false) {e : Env} {s : State} {m : MethodId} {below : List Frame} {meth : Method} {c : Code} {H : Heap} {locs : List Loc} {cells slots : Nat} {Q : State → Prop} {ls : Array Slot} {D : va_G} {cs : Nat → ClassId} {ad am : Nat → Nat} {o b L i : Nat} {xs : Nat → Int32} {sa : Nat → Nat} (hM : M_sol) {w : TS × (Nat → Int64)} {v : MS} (hC : LC p s m meth c D cs b L xs sa) (hLS : LSt s D cs ad am o w v H locs) (hi : i + 4 ≤ L) (hL : L ≤ 2049) (hc : cells + 1 ≤ 666090) (hs : slots + 6 ≤ 7097800) (hl : lv_has ls 8 (lvL b o (ad 0) (am 0) i))
    (kk : ∀ (w : TS × (Nat → Int64)) (v : MS) (H : Heap) (locs : List Loc) (ls : Array Slot), LSt s D cs ad am o w v H locs → lv_has ls 8 (lvL b o (ad 0) (am 0) i) → W p l e room_1 s m #[Value.ref b] below meth c H locs (cells + 1) (slots + 6) Q (F0 m 926 ls [])) : W p l e room_1 s m #[Value.ref b] below meth c H locs cells slots Q (F0 m 344 ls []) := by
  obtain ⟨hx, hb, hr, hml, hown, hts, hlocks, hK, hN, hX, hbl, hXW, hXN⟩ := hC
  obtain ⟨⟨I, AN, AI, AL⟩, f⟩ := w
  obtain ⟨J, G, BN, BI, BL⟩ := v
  obtain ⟨hP, hD, hS, hI⟩ := hLS
  have hA : ∀ q : Nat, s.heap.size ≤ q → (fun q : Nat => s.heap.size ≤ q) q := fun _ h => h
  have hbA : ¬ (fun q : Nat => s.heap.size ≤ q) b := Nat.not_le.mpr hbl
  have hn3 : I 0 ≤ 3 := hI.1.2.1
  have he3 : I 1 ≤ 3 := hI.1.2.2
  have hbg : ∀ r, r < 3 → AN 7 r < 6 := hI.2.2.2.1.1
  have hdc : ∀ k, k < 7 → AN 5 k < 2 ^ 31 := hI.2.2.2.1.2
  have hok : okA BN := hI.2.2.2.2
  have eJ1 : J 1 = I 0 := hI.2.1.1
  have eJ2 : J 2 = I 1 := hI.2.1.2
  have hj1 : J 1 ≤ 3 := by omega
  have hj2 : J 2 ≤ 3 := by omega
  have hl : lv_has ls 8 [(4, .int (nI i)), (3, .ref o), (2, .ref (am 0)), (0, .ref b), (1, .ref (ad 0))] := hl
  obtain ⟨hq9, hi9⟩ := hM (I, AN, AI, AL) (J, G, BN, BI, BL) hI
  refine lv_aload_n hx hb dL_law_344 rfl (lv_at hl 4 rfl) ?_
  have hPt : va_P D vc (wTs cs ad (((I, AN, AI, AL), f)).1 ++ ([(o, .inl (cs 1, 1, .inr (.inl (((I, AN, AI, AL), f)).2)))] ++ wMs cs am (J, G, BN, BI, BL))) H := by rw [← List.append_assoc]; exact hP
  have hDt : va_D (fun q : Nat => s.heap.size ≤ q) (wTs cs ad (((I, AN, AI, AL), f)).1 ++ ([(o, .inl (cs 1, 1, .inr (.inl (((I, AN, AI, AL), f)).2)))] ++ wMs cs am (J, G, BN, BI, BL))) := by rw [← List.append_assoc]; exact hD
  refine f_calli (wf := wTs cs ad) (va_runV (As := []) (rest := []) ⟨hx, hb, hml, hown, hts⟩ (ctX2_solutions l D cs ad I AN AI AL _ hn3 he3) (cwV 0 hts (gi_V gw_190 gw_191 gw_192 gw_53 gw_193) rfl rfl rfl (by decide +kernel) ⟨Nat.le_of_ble_eq_true rfl, Nat.le_of_ble_eq_true rfl⟩) ⟨g_blind, va_recv hK (P_l hPt) (ci := 2) (q0 := 0) rfl (wm_at (by decide) rfl), g_pre (P_l hPt) hK (D_l hDt) hN⟩ rfl rfl hl.1 rfl (lv_room (Nat.le_of_ble_eq_true rfl)) dL_law_345 ⟨show _ ≤ 666090 by omega, show _ ≤ 7097800 by omega⟩) hPt hDt hS hA (fun _ => wm_ads) (fun rc u9 H locs hw hP hD hS => ?_)
  obtain ⟨rfl, hrc⟩ := hw
  have hP : va_P D vc (wH cs ad o (tE (I, AN, AI, AL), f) ++ wMs cs am (J, G, BN, BI, BL)) H := by rw [← List.append_assoc] at hP; exact hP
  have hD : va_D (fun q : Nat => s.heap.size ≤ q) (wH cs ad o (tE (I, AN, AI, AL), f) ++ wMs cs am (J, G, BN, BI, BL)) := by rw [← List.append_assoc] at hD; exact hD
  refine lv_aload_n hx hb dL_law_348 rfl (lv_at hl 2 rfl) ?_
  refine f_calli (wf := wMs cs am) (va_runV (As := []) (rest := [.int rc]) ⟨hx, hb, hml, hown, hts⟩ (ctX3_solutions l D cs am J G BN BI BL _ hj1 hj2 hok) (cwV 0 hts (gi_V gw_628 gw_629 gw_630 gw_57 gw_631) rfl rfl rfl (by decide +kernel) ⟨Nat.le_of_ble_eq_true rfl, Nat.le_of_ble_eq_true rfl⟩) ⟨g_blind, va_recv hK (P_l (P_swap hP)) (ci := 3) (q0 := 0) rfl (wm_at (by decide) rfl), g_pre (P_l (P_swap hP)) hK (D_l (D_swap hD)) hN⟩ rfl rfl hl.1 rfl (lv_room (Nat.le_of_ble_eq_true rfl)) dL_law_349 ⟨show _ ≤ 666090 by omega, show _ ≤ 7097800 by omega⟩) (P_swap hP) (D_swap hD) hS hA (fun _ => wm_ads) (fun rm v9 H locs hw hP hD hS => ?_)
  obtain ⟨rfl, hrm⟩ := hw
  have hP : va_P D vc (wH cs ad o (tE (I, AN, AI, AL), f) ++ wMs cs am (up1 (up1 J 0 0) 3 (lk9 (J, G, BN, BI, BL)).1, up1 G 0 (plall (J 1) (J 2) BI BN BL), (lk9 (J, G, BN, BI, BL)).2.1, BI, plAL (J 1) (J 2) BI BN BL)) H := P_swap hP
  have hD : va_D (fun q : Nat => s.heap.size ≤ q) (wH cs ad o (tE (I, AN, AI, AL), f) ++ wMs cs am (up1 (up1 J 0 0) 3 (lk9 (J, G, BN, BI, BL)).1, up1 G 0 (plall (J 1) (J 2) BI BN BL), (lk9 (J, G, BN, BI, BL)).2.1, BI, plAL (J 1) (J 2) BI BN BL)) := D_swap hD
  have hfin : rc = rm := by rw [hrc, hrm]; exact hq9
  refine W.widen (k := cells + 1) (n := slots + 6) (by omega) (by omega) ?_
  refine lv_icmp_eq (tgt := 926) hx hb dL_law_352 (by decide) (fun _ => ?_) (fun q => absurd hfin q)
  exact kk (tE (I, AN, AI, AL), f) (up1 (up1 J 0 0) 3 (lk9 (J, G, BN, BI, BL)).1, up1 G 0 (plall (J 1) (J 2) BI BN BL), (lk9 (J, G, BN, BI, BL)).2.1, BI, plAL (J 1) (J 2) BI BN BL) _ _ ls ⟨hP, hD, hS, hi9 _ _⟩ (lv_sub hl [0, 1, 2, 3, 4] rfl)

set_option maxHeartbeats 4000000 in
set_option maxRecDepth 100000 in
theorem lo_free {p : Program} {l : Launch} (hlt : l.stackTraces = false) {e : Env} {s : State} {m : MethodId} {below : List Frame} {meth : Method} {c : Code} {H : Heap} {locs : List Loc} {cells slots : Nat} {Q : State → Prop} {ls : Array Slot} {D : va_G} {cs : Nat → ClassId} {ad am : Nat → Nat} {o b L i : Nat} {xs : Nat → Int32} {sa : Nat → Nat} (hM : M_free) {w : TS × (Nat → Int64)} {v : MS} (hC : LC p s m meth c D cs b L xs sa) (hLS : LSt s D cs ad am o w v H locs) (hi : i + 4 ≤ L) (hL : L ≤ 2049) (hc : cells + 1 ≤ 666090) (hs : slots + 6 ≤ 7097800) (hl : lv_has ls 8 (lvL b o (ad 0) (am 0) i))
    (kk : ∀ (w : TS × (Nat → Int64)) (v : MS) (H : Heap) (locs : List Loc) (ls : Array Slot), LSt s D cs ad am o w v H locs → lv_has ls 8 (lvL b o (ad 0) (am 0) i) → W p l e room_1 s m #[Value.ref b] below meth c H locs (cells + 1) (slots + 6) Q (F0 m 926 ls [])) : W p l e room_1 s m #[Value.ref b] below meth c H locs cells slots Q (F0 m 357 ls []) := by
  obtain ⟨hx, hb, hr, hml, hown, hts, hlocks, hK, hN, hX, hbl, hXW, hXN⟩ := hC
  obtain ⟨⟨I, AN, AI, AL⟩, f⟩ := w
  obtain ⟨J, G, BN, BI, BL⟩ := v
  obtain ⟨hP, hD, hS, hI⟩ := hLS
  have hA : ∀ q : Nat, s.heap.size ≤ q → (fun q : Nat => s.heap.size ≤ q) q := fun _ h => h
  have hbA : ¬ (fun q : Nat => s.heap.size ≤ q) b := Nat.not_le.mpr hbl
  have hn3 : I 0 ≤ 3 := hI.1.2.1
  have he3 : I 1 ≤ 3 := hI.1.2.2
  have hbg : ∀ r, r < 3 → AN 7 r < 6 := hI.2.2.2.1.1
  have hdc : ∀ k, k < 7 → AN 5 k < 2 ^ 31 := hI.2.2.2.1.2
  have hok : okA BN := hI.2.2.2.2
  have eJ1 : J 1 = I 0 := hI.2.1.1
  have eJ2 : J 2 = I 1 := hI.2.1.2
  have hj1 : J 1 ≤ 3 := by omega
  have hj2 : J 2 ≤ 3 := by omega
  have hl : lv_has ls 8 [(4, .int (nI i)), (3, .ref o), (2, .ref (am 0)), (0, .ref b), (1, .ref (ad 0))] := hl
  obtain ⟨hq9, hi9⟩ := hM (I, AN, AI, AL) (J, G, BN, BI, BL) (xs (i + 1)) hI
  refine lv_aload_n hx hb dL_law_357 rfl (lv_at hl 4 rfl) ?_
  refine lv_aload_n hx hb dL_law_358 rfl (lv_at hl 3 rfl) ?_
  refine lv_iload hx hb dL_law_359 (lv_at hl 0 rfl) ?_
  refine lv_iconst (v := nI 1) hx hb dL_law_361 (by decide) ?_
  refine b_addn hx hb dL_law_362 ?_
  refine l_sld hx hb hX hbl hbA hS (by omega) (by omega) dL_law_363 ?_
  have hPt : va_P D vc (wTs cs ad (((I, AN, AI, AL), f)).1 ++ ([(o, .inl (cs 1, 1, .inr (.inl (((I, AN, AI, AL), f)).2)))] ++ wMs cs am (J, G, BN, BI, BL))) H := by rw [← List.append_assoc]; exact hP
  have hDt : va_D (fun q : Nat => s.heap.size ≤ q) (wTs cs ad (((I, AN, AI, AL), f)).1 ++ ([(o, .inl (cs 1, 1, .inr (.inl (((I, AN, AI, AL), f)).2)))] ++ wMs cs am (J, G, BN, BI, BL))) := by rw [← List.append_assoc]; exact hD
  refine f_calli (wf := wTs cs ad) (va_runV (As := [.int (xs (i + 1))]) (rest := []) ⟨hx, hb, hml, hown, hts⟩ (ctX2_free l D cs ad I AN AI AL _ (xs (i + 1)) hn3 he3 hdc) (cwV 1 hts (gi_V gw_198 gw_199 gw_200 gw_53 gw_201) rfl rfl rfl (by decide +kernel) ⟨Nat.le_of_ble_eq_true rfl, Nat.le_of_ble_eq_true rfl⟩) ⟨g_blind, va_recv hK (P_l hPt) (ci := 2) (q0 := 0) rfl (wm_at (by decide) rfl), g_pre (P_l hPt) hK (D_l hDt) hN⟩ rfl rfl hl.1 rfl (lv_room (Nat.le_of_ble_eq_true rfl)) dL_law_364 ⟨show _ ≤ 666090 by omega, show _ ≤ 7097800 by omega⟩) hPt hDt hS hA (fun _ => wm_ads) (fun rc u9 H locs hw hP hD hS => ?_)
  obtain ⟨rfl, hrc⟩ := hw
  have hP : va_P D vc (wH cs ad o (tE (I, AN, AI, AL), f) ++ wMs cs am (J, G, BN, BI, BL)) H := by rw [← List.append_assoc] at hP; exact hP
  have hD : va_D (fun q : Nat => s.heap.size ≤ q) (wH cs ad o (tE (I, AN, AI, AL), f) ++ wMs cs am (J, G, BN, BI, BL)) := by rw [← List.append_assoc] at hD; exact hD
  refine lv_aload_n hx hb dL_law_367 rfl (lv_at hl 2 rfl) ?_
  refine lv_aload_n hx hb dL_law_368 rfl (lv_at hl 3 rfl) ?_
  refine lv_iload hx hb dL_law_369 (lv_at hl 0 rfl) ?_
  refine lv_iconst (v := nI 1) hx hb dL_law_371 (by decide) ?_
  refine b_addn hx hb dL_law_372 ?_
  refine l_sld hx hb hX hbl hbA hS (by omega) (by omega) dL_law_373 ?_
  refine f_calli (wf := wMs cs am) (va_runV (As := [.int (xs (i + 1))]) (rest := [.int rc]) ⟨hx, hb, hml, hown, hts⟩ (ctX3_free l D cs am J G BN BI BL _ (xs (i + 1)) hj1 hj2 hok) (cwV 1 hts (gi_V gw_644 gw_645 gw_646 gw_57 gw_647) rfl rfl rfl (by decide +kernel) ⟨Nat.le_of_ble_eq_true rfl, Nat.le_of_ble_eq_true rfl⟩) ⟨g_blind, va_recv hK (P_l (P_swap hP)) (ci := 3) (q0 := 0) rfl (wm_at (by decide) rfl), g_pre (P_l (P_swap hP)) hK (D_l (D_swap hD)) hN⟩ rfl rfl hl.1 rfl (lv_room (Nat.le_of_ble_eq_true rfl)) dL_law_374 ⟨show _ ≤ 666090 by omega, show _ ≤ 7097800 by omega⟩) (P_swap hP) (D_swap hD) hS hA (fun _ => wm_ads) (fun rm v9 H locs hw hP hD hS => ?_)
  obtain ⟨rfl, hrm⟩ := hw
  have hP : va_P D vc (wH cs ad o (tE (I, AN, AI, AL), f) ++ wMs cs am (mL (J, G, BN, BI, BL))) H := P_swap hP
  have hD : va_D (fun q : Nat => s.heap.size ≤ q) (wH cs ad o (tE (I, AN, AI, AL), f) ++ wMs cs am (mL (J, G, BN, BI, BL))) := D_swap hD
  have hfin : rc = rm := by rw [hrc, hrm]; exact hq9
  refine W.widen (k := cells + 1) (n := slots + 6) (by omega) (by omega) ?_
  refine lv_icmp_eq (tgt := 926) hx hb dL_law_377 (by decide) (fun _ => ?_) (fun q => absurd hfin q)
  exact kk (tE (I, AN, AI, AL), f) (mL (J, G, BN, BI, BL)) _ _ ls ⟨hP, hD, hS, hi9⟩ (lv_sub hl [0, 1, 2, 3, 4] rfl)

set_option maxHeartbeats 4000000 in
set_option maxRecDepth 100000 in
theorem lo_whole {p : Program} {l : Launch} (hlt : l.stackTraces = false) {e : Env} {s : State} {m : MethodId} {below : List Frame} {meth : Method} {c : Code} {H : Heap} {locs : List Loc} {cells slots : Nat} {Q : State → Prop} {ls : Array Slot} {D : va_G} {cs : Nat → ClassId} {ad am : Nat → Nat} {o b L i : Nat} {xs : Nat → Int32} {sa : Nat → Nat} (hM : M_whole) {w : TS × (Nat → Int64)} {v : MS} (hC : LC p s m meth c D cs b L xs sa) (hLS : LSt s D cs ad am o w v H locs) (hi : i + 4 ≤ L) (hL : L ≤ 2049) (hc : cells + 1 ≤ 666090) (hs : slots + 6 ≤ 7097800) (hl : lv_has ls 8 (lvL b o (ad 0) (am 0) i))
    (kk : ∀ (w : TS × (Nat → Int64)) (v : MS) (H : Heap) (locs : List Loc) (ls : Array Slot), LSt s D cs ad am o w v H locs → lv_has ls 8 (lvL b o (ad 0) (am 0) i) → W p l e room_1 s m #[Value.ref b] below meth c H locs (cells + 1) (slots + 6) Q (F0 m 926 ls [])) : W p l e room_1 s m #[Value.ref b] below meth c H locs cells slots Q (F0 m 528 ls []) := by
  obtain ⟨hx, hb, hr, hml, hown, hts, hlocks, hK, hN, hX, hbl, hXW, hXN⟩ := hC
  obtain ⟨⟨I, AN, AI, AL⟩, f⟩ := w
  obtain ⟨J, G, BN, BI, BL⟩ := v
  obtain ⟨hP, hD, hS, hI⟩ := hLS
  have hA : ∀ q : Nat, s.heap.size ≤ q → (fun q : Nat => s.heap.size ≤ q) q := fun _ h => h
  have hbA : ¬ (fun q : Nat => s.heap.size ≤ q) b := Nat.not_le.mpr hbl
  have hn3 : I 0 ≤ 3 := hI.1.2.1
  have he3 : I 1 ≤ 3 := hI.1.2.2
  have hbg : ∀ r, r < 3 → AN 7 r < 6 := hI.2.2.2.1.1
  have hdc : ∀ k, k < 7 → AN 5 k < 2 ^ 31 := hI.2.2.2.1.2
  have hok : okA BN := hI.2.2.2.2
  have eJ1 : J 1 = I 0 := hI.2.1.1
  have eJ2 : J 2 = I 1 := hI.2.1.2
  have hj1 : J 1 ≤ 3 := by omega
  have hj2 : J 2 ≤ 3 := by omega
  have hl : lv_has ls 8 [(4, .int (nI i)), (3, .ref o), (2, .ref (am 0)), (0, .ref b), (1, .ref (ad 0))] := hl
  obtain ⟨mo, hfb, hwo, hq9, hi9⟩ := hM (I, AN, AI, AL) (J, G, BN, BI, BL) hI
  refine lv_aload_n hx hb dL_law_528 rfl (lv_at hl 4 rfl) ?_
  have hPt : va_P D vc (wTs cs ad (((I, AN, AI, AL), f)).1 ++ ([(o, .inl (cs 1, 1, .inr (.inl (((I, AN, AI, AL), f)).2)))] ++ wMs cs am (J, G, BN, BI, BL))) H := by rw [← List.append_assoc]; exact hP
  have hDt : va_D (fun q : Nat => s.heap.size ≤ q) (wTs cs ad (((I, AN, AI, AL), f)).1 ++ ([(o, .inl (cs 1, 1, .inr (.inl (((I, AN, AI, AL), f)).2)))] ++ wMs cs am (J, G, BN, BI, BL))) := by rw [← List.append_assoc]; exact hD
  refine f_calli (wf := wTs cs ad) (va_runV (As := []) (rest := []) ⟨hx, hb, hml, hown, hts⟩ (ctX2_whole l D cs ad I AN AI AL _ hn3 he3 hbg) (cwV 0 hts (gi_V gw_210 gw_211 gw_212 gw_53 gw_213) rfl rfl rfl (by decide +kernel) ⟨Nat.le_of_ble_eq_true rfl, Nat.le_of_ble_eq_true rfl⟩) ⟨g_blind, va_recv hK (P_l hPt) (ci := 2) (q0 := 0) rfl (wm_at (by decide) rfl), g_pre (P_l hPt) hK (D_l hDt) hN⟩ rfl rfl hl.1 rfl (lv_room (Nat.le_of_ble_eq_true rfl)) dL_law_529 ⟨show _ ≤ 666090 by omega, show _ ≤ 7097800 by omega⟩) hPt hDt hS hA (fun _ => wm_ads) (fun rc u9 H locs hw hP hD hS => ?_)
  obtain ⟨rfl, hrc⟩ := hw
  have hP : va_P D vc (wH cs ad o (tS (I, AN, AI, AL), f) ++ wMs cs am (J, G, BN, BI, BL)) H := by rw [← List.append_assoc] at hP; exact hP
  have hD : va_D (fun q : Nat => s.heap.size ≤ q) (wH cs ad o (tS (I, AN, AI, AL), f) ++ wMs cs am (J, G, BN, BI, BL)) := by rw [← List.append_assoc] at hD; exact hD
  refine lv_aload_n hx hb dL_law_532 rfl (lv_at hl 2 rfl) ?_
  refine f_calli (wf := wMs cs am) (va_runV (As := []) (rest := [.int rc]) ⟨hx, hb, hml, hown, hts⟩ (ctX3_whole l D cs am J G BN BI BL _ mo hj1 hj2 hok hfb hwo) (cwV 0 hts (gi_V gw_707 gw_708 gw_709 gw_57 gw_710) rfl rfl rfl (by decide +kernel) ⟨Nat.le_of_ble_eq_true rfl, Nat.le_of_ble_eq_true rfl⟩) ⟨g_blind, va_recv hK (P_l (P_swap hP)) (ci := 3) (q0 := 0) rfl (wm_at (by decide) rfl), g_pre (P_l (P_swap hP)) hK (D_l (D_swap hD)) hN⟩ rfl rfl hl.1 rfl (lv_room (Nat.le_of_ble_eq_true rfl)) dL_law_533 ⟨show _ ≤ 666090 by omega, show _ ≤ 7097800 by omega⟩) (P_swap hP) (D_swap hD) hS hA (fun _ => wm_ads) (fun rm v9 H locs hw hP hD hS => ?_)
  obtain ⟨⟨G9, rfl⟩, hrm⟩ := hw
  have hP : va_P D vc (wH cs ad o (tS (I, AN, AI, AL), f) ++ wMs cs am (up1 (up1 (up1 (up1 J 0 0) 3 (lk9 (J, G, BN, BI, BL)).1) 4 (fb9 (J, G, BN, BI, BL)).1) 3 (fl9 (J, G, BN, BI, BL)).1, G9, (fl9 (J, G, BN, BI, BL)).2.1, BI, (ff9 (J, G, BN, BI, BL) mo).2)) H := P_swap hP
  have hD : va_D (fun q : Nat => s.heap.size ≤ q) (wH cs ad o (tS (I, AN, AI, AL), f) ++ wMs cs am (up1 (up1 (up1 (up1 J 0 0) 3 (lk9 (J, G, BN, BI, BL)).1) 4 (fb9 (J, G, BN, BI, BL)).1) 3 (fl9 (J, G, BN, BI, BL)).1, G9, (fl9 (J, G, BN, BI, BL)).2.1, BI, (ff9 (J, G, BN, BI, BL) mo).2)) := D_swap hD
  have hfin : rc = rm := by rw [hrc, hrm]; exact congrArg bz hq9
  refine W.widen (k := cells + 1) (n := slots + 6) (by omega) (by omega) ?_
  refine lv_icmp_eq (tgt := 926) hx hb dL_law_536 (by decide) (fun _ => ?_) (fun q => absurd hfin q)
  exact kk (tS (I, AN, AI, AL), f) (up1 (up1 (up1 (up1 J 0 0) 3 (lk9 (J, G, BN, BI, BL)).1) 4 (fb9 (J, G, BN, BI, BL)).1) 3 (fl9 (J, G, BN, BI, BL)).1, G9, (fl9 (J, G, BN, BI, BL)).2.1, BI, (ff9 (J, G, BN, BI, BL) mo).2) _ _ ls ⟨hP, hD, hS, hi9 _⟩ (lv_sub hl [0, 1, 2, 3, 4] rfl)

set_option maxHeartbeats 4000000 in
set_option maxRecDepth 100000 in
theorem lo_solves {p : Program} {l : Launch} (hlt : l.stackTraces = false) {e : Env} {s : State} {m : MethodId} {below : List Frame} {meth : Method} {c : Code} {H : Heap} {locs : List Loc} {cells slots : Nat} {Q : State → Prop} {ls : Array Slot} {D : va_G} {cs : Nat → ClassId} {ad am : Nat → Nat} {o b L i : Nat} {xs : Nat → Int32} {sa : Nat → Nat} (hM : M_solves) {w : TS × (Nat → Int64)} {v : MS} (hC : LC p s m meth c D cs b L xs sa) (hLS : LSt s D cs ad am o w v H locs) (hi : i + 4 ≤ L) (hL : L ≤ 2049) (hc : cells + 1 ≤ 666090) (hs : slots + 6 ≤ 7097800) (hl : lv_has ls 8 (lvL b o (ad 0) (am 0) i))
    (kk : ∀ (w : TS × (Nat → Int64)) (v : MS) (H : Heap) (locs : List Loc) (ls : Array Slot), LSt s D cs ad am o w v H locs → lv_has ls 8 (lvL b o (ad 0) (am 0) i) → W p l e room_1 s m #[Value.ref b] below meth c H locs (cells + 1) (slots + 6) Q (F0 m 926 ls [])) : W p l e room_1 s m #[Value.ref b] below meth c H locs cells slots Q (F0 m 841 ls []) := by
  obtain ⟨hx, hb, hr, hml, hown, hts, hlocks, hK, hN, hX, hbl, hXW, hXN⟩ := hC
  obtain ⟨⟨I, AN, AI, AL⟩, f⟩ := w
  obtain ⟨J, G, BN, BI, BL⟩ := v
  obtain ⟨hP, hD, hS, hI⟩ := hLS
  have hA : ∀ q : Nat, s.heap.size ≤ q → (fun q : Nat => s.heap.size ≤ q) q := fun _ h => h
  have hbA : ¬ (fun q : Nat => s.heap.size ≤ q) b := Nat.not_le.mpr hbl
  have hn3 : I 0 ≤ 3 := hI.1.2.1
  have he3 : I 1 ≤ 3 := hI.1.2.2
  have hbg : ∀ r, r < 3 → AN 7 r < 6 := hI.2.2.2.1.1
  have hdc : ∀ k, k < 7 → AN 5 k < 2 ^ 31 := hI.2.2.2.1.2
  have hok : okA BN := hI.2.2.2.2
  have eJ1 : J 1 = I 0 := hI.2.1.1
  have eJ2 : J 2 = I 1 := hI.2.1.2
  have hj1 : J 1 ≤ 3 := by omega
  have hj2 : J 2 ≤ 3 := by omega
  have hl : lv_has ls 8 [(4, .int (nI i)), (3, .ref o), (2, .ref (am 0)), (0, .ref b), (1, .ref (ad 0))] := hl
  obtain ⟨hq9, hi9⟩ := hM (I, AN, AI, AL) (J, G, BN, BI, BL) (xs (i + 1)) (xs (i + 2)) (xs (i + 3)) hI
  refine lv_aload_n hx hb dL_law_841 rfl (lv_at hl 4 rfl) ?_
  refine lv_aload_n hx hb dL_law_842 rfl (lv_at hl 3 rfl) ?_
  refine lv_iload hx hb dL_law_843 (lv_at hl 0 rfl) ?_
  refine lv_iconst (v := nI 1) hx hb dL_law_845 (by decide) ?_
  refine b_addn hx hb dL_law_846 ?_
  refine l_sld hx hb hX hbl hbA hS (by omega) (by omega) dL_law_847 ?_
  refine lv_aload_n hx hb dL_law_848 rfl (lv_at hl 3 rfl) ?_
  refine lv_iload hx hb dL_law_849 (lv_at hl 0 rfl) ?_
  refine lv_iconst (v := nI 2) hx hb dL_law_851 (by decide) ?_
  refine b_addn hx hb dL_law_852 ?_
  refine l_sld hx hb hX hbl hbA hS (by omega) (by omega) dL_law_853 ?_
  refine lv_aload_n hx hb dL_law_854 rfl (lv_at hl 3 rfl) ?_
  refine lv_iload hx hb dL_law_855 (lv_at hl 0 rfl) ?_
  refine lv_iconst (v := nI 3) hx hb dL_law_857 (by decide) ?_
  refine b_addn hx hb dL_law_858 ?_
  refine l_sld hx hb hX hbl hbA hS (by omega) (by omega) dL_law_859 ?_
  have hPt : va_P D vc (wTs cs ad (((I, AN, AI, AL), f)).1 ++ ([(o, .inl (cs 1, 1, .inr (.inl (((I, AN, AI, AL), f)).2)))] ++ wMs cs am (J, G, BN, BI, BL))) H := by rw [← List.append_assoc]; exact hP
  have hDt : va_D (fun q : Nat => s.heap.size ≤ q) (wTs cs ad (((I, AN, AI, AL), f)).1 ++ ([(o, .inl (cs 1, 1, .inr (.inl (((I, AN, AI, AL), f)).2)))] ++ wMs cs am (J, G, BN, BI, BL))) := by rw [← List.append_assoc]; exact hD
  refine f_calli (wf := wTs cs ad) (va_runV (As := [.int (xs (i + 1)), .int (xs (i + 2)), .int (xs (i + 3))]) (rest := []) ⟨hx, hb, hml, hown, hts⟩ (ctX2_solves l D cs ad I AN AI AL _ (xs (i + 1)) (xs (i + 2)) (xs (i + 3)) hn3 he3) (cwV 3 hts (gi_V gw_255 gw_256 gw_257 gw_53 gw_258) rfl rfl rfl (by decide +kernel) ⟨Nat.le_of_ble_eq_true rfl, Nat.le_of_ble_eq_true rfl⟩) ⟨g_blind, va_recv hK (P_l hPt) (ci := 2) (q0 := 0) rfl (wm_at (by decide) rfl), g_pre (P_l hPt) hK (D_l hDt) hN⟩ rfl rfl hl.1 rfl (lv_room (Nat.le_of_ble_eq_true rfl)) dL_law_860 ⟨show _ ≤ 666090 by omega, show _ ≤ 7097800 by omega⟩) hPt hDt hS hA (fun _ => wm_ads) (fun rc u9 H locs hw hP hD hS => ?_)
  obtain ⟨rfl, hrc⟩ := hw
  have hP : va_P D vc (wH cs ad o ((I, AN, AI, AL), f) ++ wMs cs am (J, G, BN, BI, BL)) H := by rw [← List.append_assoc] at hP; exact hP
  have hD : va_D (fun q : Nat => s.heap.size ≤ q) (wH cs ad o ((I, AN, AI, AL), f) ++ wMs cs am (J, G, BN, BI, BL)) := by rw [← List.append_assoc] at hD; exact hD
  refine lv_aload_n hx hb dL_law_863 rfl (lv_at hl 2 rfl) ?_
  refine lv_aload_n hx hb dL_law_864 rfl (lv_at hl 3 rfl) ?_
  refine lv_iload hx hb dL_law_865 (lv_at hl 0 rfl) ?_
  refine lv_iconst (v := nI 1) hx hb dL_law_867 (by decide) ?_
  refine b_addn hx hb dL_law_868 ?_
  refine l_sld hx hb hX hbl hbA hS (by omega) (by omega) dL_law_869 ?_
  refine lv_aload_n hx hb dL_law_870 rfl (lv_at hl 3 rfl) ?_
  refine lv_iload hx hb dL_law_871 (lv_at hl 0 rfl) ?_
  refine lv_iconst (v := nI 2) hx hb dL_law_873 (by decide) ?_
  refine b_addn hx hb dL_law_874 ?_
  refine l_sld hx hb hX hbl hbA hS (by omega) (by omega) dL_law_875 ?_
  refine lv_aload_n hx hb dL_law_876 rfl (lv_at hl 3 rfl) ?_
  refine lv_iload hx hb dL_law_877 (lv_at hl 0 rfl) ?_
  refine lv_iconst (v := nI 3) hx hb dL_law_879 (by decide) ?_
  refine b_addn hx hb dL_law_880 ?_
  refine l_sld hx hb hX hbl hbA hS (by omega) (by omega) dL_law_881 ?_
  refine f_calli (wf := wMs cs am) (va_runV (As := [.int (xs (i + 1)), .int (xs (i + 2)), .int (xs (i + 3))]) (rest := [.int rc]) ⟨hx, hb, hml, hown, hts⟩ (ctX3_solves l D cs am J G BN BI BL _ (xs (i + 1)) (xs (i + 2)) (xs (i + 3)) hj1 hj2) (cwV 3 hts (gi_V gw_748 gw_749 gw_750 gw_57 gw_751) rfl rfl rfl (by decide +kernel) ⟨Nat.le_of_ble_eq_true rfl, Nat.le_of_ble_eq_true rfl⟩) ⟨g_blind, va_recv hK (P_l (P_swap hP)) (ci := 3) (q0 := 0) rfl (wm_at (by decide) rfl), g_pre (P_l (P_swap hP)) hK (D_l (D_swap hD)) hN⟩ rfl rfl hl.1 rfl (lv_room (Nat.le_of_ble_eq_true rfl)) dL_law_882 ⟨show _ ≤ 666090 by omega, show _ ≤ 7097800 by omega⟩) (P_swap hP) (D_swap hD) hS hA (fun _ => wm_ads) (fun rm v9 H locs hw hP hD hS => ?_)
  obtain ⟨rfl, hrm⟩ := hw
  have hP : va_P D vc (wH cs ad o ((I, AN, AI, AL), f) ++ wMs cs am (up1 J 0 0, G, BN, BI, BL)) H := P_swap hP
  have hD : va_D (fun q : Nat => s.heap.size ≤ q) (wH cs ad o ((I, AN, AI, AL), f) ++ wMs cs am (up1 J 0 0, G, BN, BI, BL)) := D_swap hD
  have hfin : rc = rm := by rw [hrc, hrm]; exact congrArg bz hq9
  refine W.widen (k := cells + 1) (n := slots + 6) (by omega) (by omega) ?_
  refine lv_icmp_eq (tgt := 926) hx hb dL_law_885 (by decide) (fun _ => ?_) (fun q => absurd hfin q)
  exact kk ((I, AN, AI, AL), f) (up1 J 0 0, G, BN, BI, BL) _ _ ls ⟨hP, hD, hS, hi9⟩ (lv_sub hl [0, 1, 2, 3, 4] rfl)

set_option maxHeartbeats 4000000 in
set_option maxRecDepth 100000 in
theorem lo_count {p : Program} {l : Launch} (hlt : l.stackTraces = false) {e : Env} {s : State} {m : MethodId} {below : List Frame} {meth : Method} {c : Code} {H : Heap} {locs : List Loc} {cells slots : Nat} {Q : State → Prop} {ls : Array Slot} {D : va_G} {cs : Nat → ClassId} {ad am : Nat → Nat} {o b L i : Nat} {xs : Nat → Int32} {sa : Nat → Nat} {w : TS × (Nat → Int64)} {v : MS} (hC : LC p s m meth c D cs b L xs sa) (hLS : LSt s D cs ad am o w v H locs) (hi : i + 4 ≤ L) (hL : L ≤ 2049) (hc : cells + 1 ≤ 666090) (hs : slots + 6 ≤ 7097800) (hl : lv_has ls 8 (lvL b o (ad 0) (am 0) i))
    (kk : ∀ (w : TS × (Nat → Int64)) (v : MS) (H : Heap) (locs : List Loc) (ls : Array Slot), LSt s D cs ad am o w v H locs → lv_has ls 8 (lvL b o (ad 0) (am 0) i) → W p l e room_1 s m #[Value.ref b] below meth c H locs (cells + 1) (slots + 6) Q (F0 m 926 ls [])) : W p l e room_1 s m #[Value.ref b] below meth c H locs cells slots Q (F0 m 890 ls []) := by
  obtain ⟨hx, hb, hr, hml, hown, hts, hlocks, hK, hN, hX, hbl, hXW, hXN⟩ := hC
  obtain ⟨⟨I, AN, AI, AL⟩, f⟩ := w
  obtain ⟨J, G, BN, BI, BL⟩ := v
  obtain ⟨hP, hD, hS, hI⟩ := hLS
  have hA : ∀ q : Nat, s.heap.size ≤ q → (fun q : Nat => s.heap.size ≤ q) q := fun _ h => h
  have hbA : ¬ (fun q : Nat => s.heap.size ≤ q) b := Nat.not_le.mpr hbl
  have hn3 : I 0 ≤ 3 := hI.1.2.1
  have he3 : I 1 ≤ 3 := hI.1.2.2
  have hbg : ∀ r, r < 3 → AN 7 r < 6 := hI.2.2.2.1.1
  have hdc : ∀ k, k < 7 → AN 5 k < 2 ^ 31 := hI.2.2.2.1.2
  have hok : okA BN := hI.2.2.2.2
  have eJ1 : J 1 = I 0 := hI.2.1.1
  have eJ2 : J 2 = I 1 := hI.2.1.2
  have hj1 : J 1 ≤ 3 := by omega
  have hj2 : J 2 ≤ 3 := by omega
  have hl : lv_has ls 8 [(4, .int (nI i)), (3, .ref o), (2, .ref (am 0)), (0, .ref b), (1, .ref (ad 0))] := hl
  refine lv_aload_n hx hb dL_law_890 rfl (lv_at hl 4 rfl) ?_
  refine lv_aload_n hx hb dL_law_891 rfl (lv_at hl 3 rfl) ?_
  refine lv_iload hx hb dL_law_892 (lv_at hl 0 rfl) ?_
  refine lv_iconst (v := nI 1) hx hb dL_law_894 (by decide) ?_
  refine b_addn hx hb dL_law_895 ?_
  refine l_sld hx hb hX hbl hbA hS (by omega) (by omega) dL_law_896 ?_
  have hPt : va_P D vc (wTs cs ad (((I, AN, AI, AL), f)).1 ++ ([(o, .inl (cs 1, 1, .inr (.inl (((I, AN, AI, AL), f)).2)))] ++ wMs cs am (J, G, BN, BI, BL))) H := by rw [← List.append_assoc]; exact hP
  have hDt : va_D (fun q : Nat => s.heap.size ≤ q) (wTs cs ad (((I, AN, AI, AL), f)).1 ++ ([(o, .inl (cs 1, 1, .inr (.inl (((I, AN, AI, AL), f)).2)))] ++ wMs cs am (J, G, BN, BI, BL))) := by rw [← List.append_assoc]; exact hD
  refine f_calli (wf := wTs cs ad) (va_runV (As := [.int (xs (i + 1))]) (rest := []) ⟨hx, hb, hml, hown, hts⟩ (ctX2_count l D cs ad I AN AI AL _ (xs (i + 1))) (cwV 1 hts (gi_V gw_263 gw_264 gw_265 gw_53 gw_266) rfl rfl rfl (by decide +kernel) ⟨Nat.le_of_ble_eq_true rfl, Nat.le_of_ble_eq_true rfl⟩) ⟨g_blind, va_recv hK (P_l hPt) (ci := 2) (q0 := 0) rfl (wm_at (by decide) rfl), g_pre (P_l hPt) hK (D_l hDt) hN⟩ rfl rfl hl.1 rfl (lv_room (Nat.le_of_ble_eq_true rfl)) dL_law_897 ⟨show _ ≤ 666090 by omega, show _ ≤ 7097800 by omega⟩) hPt hDt hS hA (fun _ => wm_ads) (fun rc u9 H locs hw hP hD hS => ?_)
  obtain ⟨rfl, hrc⟩ := hw
  have hP : va_P D vc (wH cs ad o ((I, AN, AI, AL), f) ++ wMs cs am (J, G, BN, BI, BL)) H := by rw [← List.append_assoc] at hP; exact hP
  have hD : va_D (fun q : Nat => s.heap.size ≤ q) (wH cs ad o ((I, AN, AI, AL), f) ++ wMs cs am (J, G, BN, BI, BL)) := by rw [← List.append_assoc] at hD; exact hD
  refine lv_aload_n hx hb dL_law_900 rfl (lv_at hl 2 rfl) ?_
  refine lv_aload_n hx hb dL_law_901 rfl (lv_at hl 3 rfl) ?_
  refine lv_iload hx hb dL_law_902 (lv_at hl 0 rfl) ?_
  refine lv_iconst (v := nI 1) hx hb dL_law_904 (by decide) ?_
  refine b_addn hx hb dL_law_905 ?_
  refine l_sld hx hb hX hbl hbA hS (by omega) (by omega) dL_law_906 ?_
  refine f_calli (wf := wMs cs am) (va_runV (As := [.int (xs (i + 1))]) (rest := [.int rc]) ⟨hx, hb, hml, hown, hts⟩ (ctX3_count l D cs am J G BN BI BL _ (xs (i + 1))) (cwV 1 hts (gi_V gw_608 gw_609 gw_610 gw_57 gw_611) rfl rfl rfl (by decide +kernel) ⟨Nat.le_of_ble_eq_true rfl, Nat.le_of_ble_eq_true rfl⟩) ⟨g_blind, va_recv hK (P_l (P_swap hP)) (ci := 3) (q0 := 0) rfl (wm_at (by decide) rfl), g_pre (P_l (P_swap hP)) hK (D_l (D_swap hD)) hN⟩ rfl rfl hl.1 rfl (lv_room (Nat.le_of_ble_eq_true rfl)) dL_law_907 ⟨show _ ≤ 666090 by omega, show _ ≤ 7097800 by omega⟩) (P_swap hP) (D_swap hD) hS hA (fun _ => wm_ads) (fun rm v9 H locs hw hP hD hS => ?_)
  obtain ⟨rfl, hrm⟩ := hw
  have hP : va_P D vc (wH cs ad o ((I, AN, AI, AL), f) ++ wMs cs am (up1 J 0 0, G, BN, BI, BL)) H := P_swap hP
  have hD : va_D (fun q : Nat => s.heap.size ≤ q) (wH cs ad o ((I, AN, AI, AL), f) ++ wMs cs am (up1 J 0 0, G, BN, BI, BL)) := D_swap hD
  have hfin : rc = rm := by rw [hrc, hrm, eJ1, eJ2]
  refine W.widen (k := cells + 1) (n := slots + 6) (by omega) (by omega) ?_
  refine lv_icmp_eq (tgt := 926) hx hb dL_law_910 (by decide) (fun _ => ?_) (fun q => absurd hfin q)
  exact kk ((I, AN, AI, AL), f) (up1 J 0 0, G, BN, BI, BL) _ _ ls ⟨hP, hD, hS, hI⟩ (lv_sub hl [0, 1, 2, 3, 4] rfl)

set_option maxHeartbeats 4000000 in
set_option maxRecDepth 100000 in
theorem lo_clear {p : Program} {l : Launch} (hlt : l.stackTraces = false) {e : Env} {s : State} {m : MethodId} {below : List Frame} {meth : Method} {c : Code} {H : Heap} {locs : List Loc} {cells slots : Nat} {Q : State → Prop} {ls : Array Slot} {D : va_G} {cs : Nat → ClassId} {ad am : Nat → Nat} {o b L i : Nat} {xs : Nat → Int32} {sa : Nat → Nat} {w : TS × (Nat → Int64)} {v : MS} (hC : LC p s m meth c D cs b L xs sa) (hLS : LSt s D cs ad am o w v H locs) (hi : i + 4 ≤ L) (hL : L ≤ 2049) (hc : cells + 1 ≤ 666090) (hs : slots + 6 ≤ 7097800) (hl : lv_has ls 8 (lvL b o (ad 0) (am 0) i))
    (kk : ∀ (w : TS × (Nat → Int64)) (v : MS) (H : Heap) (locs : List Loc) (ls : Array Slot), LSt s D cs ad am o w v H locs → lv_has ls 8 (lvL b o (ad 0) (am 0) i) → W p l e room_1 s m #[Value.ref b] below meth c H locs (cells + 1) (slots + 6) Q (F0 m 926 ls [])) : W p l e room_1 s m #[Value.ref b] below meth c H locs cells slots Q (F0 m 915 ls []) := by
  obtain ⟨hx, hb, hr, hml, hown, hts, hlocks, hK, hN, hX, hbl, hXW, hXN⟩ := hC
  obtain ⟨⟨I, AN, AI, AL⟩, f⟩ := w
  obtain ⟨J, G, BN, BI, BL⟩ := v
  obtain ⟨hP, hD, hS, hI⟩ := hLS
  have hA : ∀ q : Nat, s.heap.size ≤ q → (fun q : Nat => s.heap.size ≤ q) q := fun _ h => h
  have hbA : ¬ (fun q : Nat => s.heap.size ≤ q) b := Nat.not_le.mpr hbl
  have hn3 : I 0 ≤ 3 := hI.1.2.1
  have he3 : I 1 ≤ 3 := hI.1.2.2
  have hbg : ∀ r, r < 3 → AN 7 r < 6 := hI.2.2.2.1.1
  have hdc : ∀ k, k < 7 → AN 5 k < 2 ^ 31 := hI.2.2.2.1.2
  have hok : okA BN := hI.2.2.2.2
  have eJ1 : J 1 = I 0 := hI.2.1.1
  have eJ2 : J 2 = I 1 := hI.2.1.2
  have hj1 : J 1 ≤ 3 := by omega
  have hj2 : J 2 ≤ 3 := by omega
  have hl : lv_has ls 8 [(4, .int (nI i)), (3, .ref o), (2, .ref (am 0)), (0, .ref b), (1, .ref (ad 0))] := hl
  refine lv_aload_n hx hb dL_law_915 rfl (lv_at hl 4 rfl) ?_
  have hPt : va_P D vc (wTs cs ad (((I, AN, AI, AL), f)).1 ++ ([(o, .inl (cs 1, 1, .inr (.inl (((I, AN, AI, AL), f)).2)))] ++ wMs cs am (J, G, BN, BI, BL))) H := by rw [← List.append_assoc]; exact hP
  have hDt : va_D (fun q : Nat => s.heap.size ≤ q) (wTs cs ad (((I, AN, AI, AL), f)).1 ++ ([(o, .inl (cs 1, 1, .inr (.inl (((I, AN, AI, AL), f)).2)))] ++ wMs cs am (J, G, BN, BI, BL))) := by rw [← List.append_assoc]; exact hD
  refine f_callv (wf := wTs cs ad) (va_runV (As := []) (rest := []) ⟨hx, hb, hml, hown, hts⟩ (ctX2_clear l D cs ad I AN AI AL _ ) (cwV 0 hts (gi_V gw_267 gw_268 gw_269 gw_53 gw_270) rfl rfl rfl (by decide +kernel) ⟨Nat.le_of_ble_eq_true rfl, Nat.le_of_ble_eq_true rfl⟩) ⟨g_blind, va_recv hK (P_l hPt) (ci := 2) (q0 := 0) rfl (wm_at (by decide) rfl), g_pre (P_l hPt) hK (D_l hDt) hN⟩ rfl rfl hl.1 rfl (lv_room (Nat.le_of_ble_eq_true rfl)) dL_law_916 ⟨show _ ≤ 666090 by omega, show _ ≤ 7097800 by omega⟩) hPt hDt hS hA (fun _ => wm_ads) (fun u9 H locs hw hP hD hS => ?_)
  obtain rfl := hw
  have hP : va_P D vc (wH cs ad o ((up1 I 1 0, AN, AI, AL), f) ++ wMs cs am (J, G, BN, BI, BL)) H := by rw [← List.append_assoc] at hP; exact hP
  have hD : va_D (fun q : Nat => s.heap.size ≤ q) (wH cs ad o ((up1 I 1 0, AN, AI, AL), f) ++ wMs cs am (J, G, BN, BI, BL)) := by rw [← List.append_assoc] at hD; exact hD
  refine lv_aload_n hx hb dL_law_919 rfl (lv_at hl 2 rfl) ?_
  refine f_callv (wf := wMs cs am) (va_runV (As := []) (rest := []) ⟨hx, hb, hml, hown, hts⟩ (ctX3_clear l D cs am J G BN BI BL _ ) (cwV 0 hts (gi_V gw_604 gw_605 gw_606 gw_57 gw_607) rfl rfl rfl (by decide +kernel) ⟨Nat.le_of_ble_eq_true rfl, Nat.le_of_ble_eq_true rfl⟩) ⟨g_blind, va_recv hK (P_l (P_swap hP)) (ci := 3) (q0 := 0) rfl (wm_at (by decide) rfl), g_pre (P_l (P_swap hP)) hK (D_l (D_swap hD)) hN⟩ rfl rfl hl.1 rfl (lv_room (Nat.le_of_ble_eq_true rfl)) dL_law_920 ⟨show _ ≤ 666090 by omega, show _ ≤ 7097800 by omega⟩) (P_swap hP) (D_swap hD) hS hA (fun _ => wm_ads) (fun v9 H locs hw hP hD hS => ?_)
  obtain rfl := hw
  have hP : va_P D vc (wH cs ad o ((up1 I 1 0, AN, AI, AL), f) ++ wMs cs am (up1 (up1 J 0 0) 2 0, G, BN, BI, BL)) H := P_swap hP
  have hD : va_D (fun q : Nat => s.heap.size ≤ q) (wH cs ad o ((up1 I 1 0, AN, AI, AL), f) ++ wMs cs am (up1 (up1 J 0 0) 2 0, G, BN, BI, BL)) := D_swap hD
  refine W.widen (k := cells + 1) (n := slots + 6) (by omega) (by omega) ?_
  refine lv_goto (tgt := 926) hx hb dL_law_923 (by decide) ?_
  exact kk ((up1 I 1 0, AN, AI, AL), f) (up1 (up1 J 0 0) 2 0, G, BN, BI, BL) _ _ ls ⟨hP, hD, hS, (Inv.clear hI)⟩ (lv_sub hl [0, 1, 2, 3, 4] rfl)
