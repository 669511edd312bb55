/-! The layer under all contracts: worlds as tables of cells, rows over natural indices. -/
/-- n cells, cell k at the address ad k -/
def wm (n : Nat) (ad : Nat → Nat) (cf : Nat → va_E) : va_W := (List.range n).map fun k => (ad k, cf k)
theorem wm_get {n : Nat} {ad : Nat → Nat} {cf : Nat → va_E} {k : Nat} (h : k < n) : (wm n ad cf)[k]? = some (ad k, cf k) := by
  unfold wm
  rw [List.getElem?_map, List.getElem?_range h]
  rfl
theorem wm_at {n : Nat} {ad : Nat → Nat} {cf : Nat → va_E} {k : Nat} {e : va_E} (h : k < n) (hc : cf k = e) : (wm n ad cf)[k]? = some (ad k, e) := by
  rw [wm_get h, hc]
theorem wm_len {n : Nat} {ad : Nat → Nat} {cf : Nat → va_E} : (wm n ad cf).length = n := by simp [wm]
theorem wm_set {n : Nat} {ad : Nat → Nat} {cf : Nat → va_E} {k : Nat} {e : va_E} : (wm n ad cf).set k (ad k, e) = wm n ad (va_up cf k e) := by
  apply List.ext_getElem?
  intro j
  by_cases hj : j < n
  · rw [wm_get hj, List.getElem?_set]
    by_cases hk : k = j
    · subst hk
      simp [wm_len, hj, va_up]
    · rw [if_neg hk, wm_get hj, va_up_ne _ _ (fun q => hk q.symm)]
  · rw [List.getElem?_eq_none (by rw [List.length_set, wm_len]; omega), List.getElem?_eq_none (by rw [wm_len]; omega)]
theorem wm_congr {n : Nat} {ad : Nat → Nat} {cf cg : Nat → va_E} (h : ∀ k, k < n → cf k = cg k) : wm n ad cf = wm n ad cg := by
  unfold wm
  apply List.map_congr_left
  intro k hk
  rw [h k (List.mem_range.mp hk)]
/-- one place of a table of tables -/
def up2 {α : Type} (f : Nat → Nat → α) (k j : Nat) (v : α) : Nat → Nat → α := fun a b => if a = k ∧ b = j then v else f a b
def up1 {α : Type} (f : Nat → α) (k : Nat) (v : α) : Nat → α := fun a => if a = k then v else f a
theorem up1_s {α : Type} {f : Nat → α} {k : Nat} {v : α} : up1 f k v k = v := if_pos rfl
theorem up1_n {α : Type} {f : Nat → α} {k a : Nat} {v : α} (h : a ≠ k) : up1 f k v a = f a := if_neg h
theorem up2_s {α : Type} {f : Nat → Nat → α} {k j : Nat} {v : α} : up2 f k j v k j = v := if_pos ⟨rfl, rfl⟩
theorem up2_n {α : Type} {f : Nat → Nat → α} {k j a b : Nat} {v : α} (h : ¬ (a = k ∧ b = j)) : up2 f k j v a b = f a b := if_neg h
theorem up2_row {α : Type} {f : Nat → Nat → α} {k j a : Nat} {v : α} (h : a ≠ k) : up2 f k j v a = f a := by
  funext b
  exact if_neg (fun q => h q.1)
theorem up2_L {f : Nat → Nat → Int64} {k j : Nat} {v : Int64} : vp_updL (f k) j v = up2 f k j v k := by
  funext b
  simp [vp_updL, up2]
theorem up2_I {f : Nat → Nat → Int32} {k j : Nat} {v : Int32} : upd (f k) j v = up2 f k j v k := by
  funext b
  simp [upd, up2]
theorem up2_N {f : Nat → Nat → Nat} {k j v : Nat} : upd (fun b => nI (f k b)) j (nI v) = fun b => nI (up2 f k j v k b) := by
  funext b
  by_cases h : b = j
  · subst h
    simp [upd, up2]
  · simp [upd, up2, h]
section B5
variable {p : Program} {l : Launch} {e : Env} {R : Room} {s : State} {m : MethodId} {args : Array Value} {below : List Frame} {meth : Method} {c : Code} {H : Heap} {locs : List Loc} {cells slots : Nat} {Q : State → Prop}
variable {cc : ByteArray} {pc : Nat} {ls : Array Slot} {rest : List Value} {D : va_G} {A : Nat → Prop} {tys : List (ClassId × FieldType)} {H0 : Heap} {n : Nat} {ad : Nat → Nat} {cf : Nat → va_E}
theorem b_lald (hx : p.tables.exec = Jvm.exec) (hb : c.code = cc) (hK : va_K D vc tys s) (hP : va_P D vc (wm n ad cf) H) (k t0 : Nat) {cA : ClassId} {len : Nat} {f : Nat → Int64} (hk : k < n) (hc : cf k = .inl (cA, len, .inr (.inl f))) (ht : tys[t0]? = some (cA, .long)) {j : Nat} (hj : j < len) (hl : len < 2 ^ 31) (hdg : decode cc pc = .ok (.laload, 1))
    (kk : W p l e R s m args below meth c H locs cells slots Q (F0 m (pc + 1) ls (.long (f j) :: rest))) : W p l e R s m args below meth c H locs cells slots Q (F0 m pc ls (.int (nI j) :: .ref (ad k) :: rest)) := by
  refine va_lald hx hb hK hP k t0 (wm_at hk hc) ht (vp_in_nI hj hl) hdg ?_
  rw [nI_clamp (by omega)]
  exact kk
theorem b_iald (hx : p.tables.exec = Jvm.exec) (hb : c.code = cc) (hK : va_K D vc tys s) (hP : va_P D vc (wm n ad cf) H) (k t0 : Nat) {cA : ClassId} {len : Nat} {f : Nat → Int32} (hk : k < n) (hc : cf k = .inl (cA, len, .inl f)) (ht : tys[t0]? = some (cA, .int)) {j : Nat} (hj : j < len) (hl : len < 2 ^ 31) (hdg : decode cc pc = .ok (.iaload, 1))
    (kk : W p l e R s m args below meth c H locs cells slots Q (F0 m (pc + 1) ls (.int (f j) :: rest))) : W p l e R s m args below meth c H locs cells slots Q (F0 m pc ls (.int (nI j) :: .ref (ad k) :: rest)) := by
  refine va_iald hx hb hK hP k t0 (wm_at hk hc) ht (vp_in_nI hj hl) hdg ?_
  rw [nI_clamp (by omega)]
  exact kk
theorem b_zald (hx : p.tables.exec = Jvm.exec) (hb : c.code = cc) (hK : va_K D vc tys s) (hP : va_P D vc (wm n ad cf) H) (k t0 : Nat) {cA : ClassId} {len : Nat} {f : Nat → Int32} (hk : k < n) (hc : cf k = .inl (cA, len, .inl f)) (ht : tys[t0]? = some (cA, .boolean)) {j : Nat} (hj : j < len) (hl : len < 2 ^ 31) (hdg : decode cc pc = .ok (.baload, 1))
    (kk : W p l e R s m args below meth c H locs cells slots Q (F0 m (pc + 1) ls (.int (f j) :: rest))) : W p l e R s m args below meth c H locs cells slots Q (F0 m pc ls (.int (nI j) :: .ref (ad k) :: rest)) := by
  refine va_zald hx hb hK hP k t0 (wm_at hk hc) ht (vp_in_nI hj hl) hdg ?_
  rw [nI_clamp (by omega)]
  exact kk
theorem b_aald (hx : p.tables.exec = Jvm.exec) (hb : c.code = cc) (hK : va_K D vc tys s) (hP : va_P D vc (wm n ad cf) H) (k t0 : Nat) {cA : ClassId} {ty : FieldType} {len : Nat} {f : Nat → Option Nat} (hk : k < n) (hc : cf k = .inl (cA, len, .inr (.inr (.inr (.inr f))))) (ht : tys[t0]? = some (cA, .array ty)) {j q : Nat} (hj : j < len) (hl : len < 2 ^ 31) (hf : f j = some q) (hdg : decode cc pc = .ok (.aaload, 1))
    (kk : W p l e R s m args below meth c H locs cells slots Q (F0 m (pc + 1) ls (.ref q :: rest))) : W p l e R s m args below meth c H locs cells slots Q (F0 m pc ls (.int (nI j) :: .ref (ad k) :: rest)) := by
  have hcl : (nI j).toNatClampNeg = j := nI_clamp (by omega)
  have hin : vp_in (nI j) len := vp_in_nI hj hl
  refine W.aald (v := va_rf (f (nI j).toNatClampNeg)) (ty := .array ty) hx hb (hP k _ (wm_at hk hc)) ((hK.2 t0 _ ht).1 len (fun j => va_rf (f j))) rfl (fun q => by cases q) (by show ¬ (nI j < 0 ∨ (arrV _ _ _).slots.size ≤ _); rw [arrV_size]; exact hin) (by show (arrV _ _ _).slots[_]? = _; rw [arrV_read _ _ (by rw [hcl]; exact hj)]) rfl rfl hdg ?_
  rw [hcl, hf]
  exact kk
theorem b_last (hx : p.tables.exec = Jvm.exec) (hb : c.code = cc) (hK : va_K D vc tys s) (hP : va_P D vc (wm n ad cf) H) (hD : va_D A (wm n ad cf)) (hS : va_S A H0 H locs) (k t0 : Nat) {cA : ClassId} {len : Nat} {f : Nat → Int64} (hk : k < n) (hc : cf k = .inl (cA, len, .inr (.inl f))) (ht : tys[t0]? = some (cA, .long)) {j : Nat} {x : Int64} (hj : j < len) (hl : len < 2 ^ 31) (hdg : decode cc pc = .ok (.lastore, 1)) {cg : Nat → va_E} (hg : wm n ad (va_up cf k (.inl (cA, len, .inr (.inl (vp_updL f j x))))) = wm n ad cg)
    (kk : ∀ (H1 : Heap) (locs1 : List Loc), va_P D vc (wm n ad cg) H1 → va_D A (wm n ad cg) → va_S A H0 H1 locs1 → W p l e R s m args below meth c H1 locs1 cells slots Q (F0 m (pc + 1) ls rest)) : W p l e R s m args below meth c H locs cells slots Q (F0 m pc ls (.long x :: .int (nI j) :: .ref (ad k) :: rest)) := by
  refine va_last hx hb hK hP hD hS k t0 (wm_at hk hc) ht (vp_in_nI hj hl) hdg ?_
  rw [nI_clamp (by omega), wm_set, hg]
  exact kk
theorem b_iast (hx : p.tables.exec = Jvm.exec) (hb : c.code = cc) (hK : va_K D vc tys s) (hP : va_P D vc (wm n ad cf) H) (hD : va_D A (wm n ad cf)) (hS : va_S A H0 H locs) (k t0 : Nat) {cA : ClassId} {len : Nat} {f : Nat → Int32} (hk : k < n) (hc : cf k = .inl (cA, len, .inl f)) (ht : tys[t0]? = some (cA, .int)) {j : Nat} {x : Int32} (hj : j < len) (hl : len < 2 ^ 31) (hdg : decode cc pc = .ok (.iastore, 1)) {cg : Nat → va_E} (hg : wm n ad (va_up cf k (.inl (cA, len, .inl (upd f j x)))) = wm n ad cg)
    (kk : ∀ (H1 : Heap) (locs1 : List Loc), va_P D vc (wm n ad cg) H1 → va_D A (wm n ad cg) → va_S A H0 H1 locs1 → W p l e R s m args below meth c H1 locs1 cells slots Q (F0 m (pc + 1) ls rest)) : W p l e R s m args below meth c H locs cells slots Q (F0 m pc ls (.int x :: .int (nI j) :: .ref (ad k) :: rest)) := by
  refine va_iast hx hb hK hP hD hS k t0 (wm_at hk hc) ht (vp_in_nI hj hl) hdg ?_
  rw [nI_clamp (by omega), wm_set, hg]
  exact kk
theorem b_get (hx : p.tables.exec = Jvm.exec) (hb : c.code = cc) {own C : String} {T : u_T} {N ci index : Nat} {Ts : List Cond} (hts : ∀ w ∈ Ts, w.before args s = true) (hin : ∀ w ∈ u_ws C T N, w ∈ Ts) (hown : s.vm.findClass own = some m.cls) (hK : va_K D vc tys s) (hP : va_P D vc (wm n ad cf) H) (q0 : Nat) (hq : q0 < n) {fs : List Value} (he : cf q0 = .inr (ci, fs)) (hc : vc[ci]? = some (C, T, N)) (k : Nat) (hk : k < N) (hlink : (Cond.fieldLink own index (T k).1 (T k).2.1 (T k).2.2.1).before args s = true) {v : Value} (hv : fs[k]? = some v) (hdg : decode cc pc = .ok (.getfield index, 3))
    (kk : W p l e R s m args below meth c H locs cells slots Q (F0 m (pc + 3) ls (v :: rest))) : W p l e R s m args below meth c H locs cells slots Q (F0 m pc ls (.ref (ad q0) :: rest)) :=
  va_get hx hb hts hin hown hK hP q0 (wm_at hq he) hc k hk hlink (fun _ h => h) hv hdg kk
theorem b_getN (hx : p.tables.exec = Jvm.exec) (hb : c.code = cc) {own C host : String} {T : u_T} {N ci index : Nat} {Ts : List Cond} (hts : ∀ w ∈ Ts, w.before args s = true) (hin : ∀ w ∈ u_ws C T N, w ∈ Ts) (hown : s.vm.findClass own = some m.cls) (hK : va_K D vc tys s) (hP : va_P D vc (wm n ad cf) H) (q0 : Nat) (hq : q0 < n) {fs : List Value} (he : cf q0 = .inr (ci, fs)) (hc : vc[ci]? = some (C, T, N)) (k : Nat) (hk : k < N) (hlink : va_Nw (Cond.fieldLinkNest own index (T k).1 (T k).2.1 (T k).2.2.1 host) s) {v : Value} (hv : fs[k]? = some v) (hdg : decode cc pc = .ok (.getfield index, 3))
    (kk : W p l e R s m args below meth c H locs cells slots Q (F0 m (pc + 3) ls (v :: rest))) : W p l e R s m args below meth c H locs cells slots Q (F0 m pc ls (.ref (ad q0) :: rest)) :=
  va_getN hx hb hts hin hown hK hP q0 (wm_at hq he) hc k hk (va_Nw.use rfl hlink) (fun _ h => h) hv hdg kk
theorem b_put (hx : p.tables.exec = Jvm.exec) (hb : c.code = cc) {own C : String} {T : u_T} {N ci index : Nat} {Ts : List Cond} (hts : ∀ w ∈ Ts, w.before args s = true) (hin : ∀ w ∈ u_ws C T N, w ∈ Ts) (ty0 : Nat → FieldType) (hty : ∀ k, k < N → parseFieldDescriptor (T k).2.2.1 = some (ty0 k)) (hnm : ∀ a, a < N → ∀ b, b < N → a ≠ b → (T a).2.1 ≠ (T b).2.1) (hown : s.vm.findClass own = some m.cls) (hK : va_K D vc tys s) (hP : va_P D vc (wm n ad cf) H) (hD : va_D A (wm n ad cf)) (hS : va_S A H0 H locs) (q0 : Nat) (hq : q0 < n) {fs : List Value} (he : cf q0 = .inr (ci, fs)) (hc : vc[ci]? = some (C, T, N)) (k : Nat) (hk : k < N) (hlink : (Cond.fieldLink own index (T k).1 (T k).2.1 (T k).2.2.1).before args s = true) (hfin : (T k).2.2.2 = false) {v : Value} (hn : narrow (ty0 k) v = v) (hfit : fits (ty0 k) v = true) (hl : k < fs.length)
    (hdg : decode cc pc = .ok (.putfield index, 3)) {cg : Nat → va_E} (hg : wm n ad (va_up cf q0 (.inr (ci, fs.set k v))) = wm n ad cg) (kk : ∀ (H1 : Heap) (locs1 : List Loc), va_P D vc (wm n ad cg) H1 → va_D A (wm n ad cg) → va_S A H0 H1 locs1 → W p l e R s m args below meth c H1 locs1 cells slots Q (F0 m (pc + 3) ls rest)) : W p l e R s m args below meth c H locs cells slots Q (F0 m pc ls (v :: .ref (ad q0) :: rest)) := by
  refine va_put hx hb hts hin ty0 hty hnm hown hK hP hD hS q0 (wm_at hq he) hc k hk hlink (fun _ h => h) hfin (hty k hk) hn hfit hl hdg ?_
  rw [wm_set, hg]
  exact kk
/-- branches that are decided -/
theorem b_ge_t (hx : p.tables.exec = Jvm.exec) (hb : c.code = cc) {a b : Nat} {off : Int} {tgt : Nat} (hdg : decode cc pc = .ok (.if_icmp .ge off, 3)) (ht : (pc : Int) + off = (tgt : Int)) (h : b ≤ a) (ha : a < 2 ^ 31)
    (kk : W p l e R s m args below meth c H locs cells slots Q (F0 m tgt ls rest)) : W p l e R s m args below meth c H locs cells slots Q (F0 m pc ls (.int (nI b) :: .int (nI a) :: rest)) :=
  lv_icmp_ge hx hb hdg ht (fun _ => kk) (fun q => absurd (nI_le h ha) q)
theorem b_ge_f (hx : p.tables.exec = Jvm.exec) (hb : c.code = cc) {a b : Nat} {off : Int} {tgt : Nat} (hdg : decode cc pc = .ok (.if_icmp .ge off, 3)) (ht : (pc : Int) + off = (tgt : Int)) (h : a < b) (ha : b < 2 ^ 31)
    (kk : W p l e R s m args below meth c H locs cells slots Q (F0 m (pc + 3) ls rest)) : W p l e R s m args below meth c H locs cells slots Q (F0 m pc ls (.int (nI b) :: .int (nI a) :: rest)) :=
  lv_icmp_ge hx hb hdg ht (fun q => absurd q (nI_ge h ha)) (fun _ => kk)
theorem b_gt_t (hx : p.tables.exec = Jvm.exec) (hb : c.code = cc) {a b : Nat} {off : Int} {tgt : Nat} (hdg : decode cc pc = .ok (.if_icmp .gt off, 3)) (ht : (pc : Int) + off = (tgt : Int)) (h : b < a) (ha : a < 2 ^ 31)
    (kk : W p l e R s m args below meth c H locs cells slots Q (F0 m tgt ls rest)) : W p l e R s m args below meth c H locs cells slots Q (F0 m pc ls (.int (nI b) :: .int (nI a) :: rest)) :=
  lv_icmp_gt hx hb hdg ht (fun _ => kk) (fun q => absurd (nI_lt h ha) q)
theorem b_gt_f (hx : p.tables.exec = Jvm.exec) (hb : c.code = cc) {a b : Nat} {off : Int} {tgt : Nat} (hdg : decode cc pc = .ok (.if_icmp .gt off, 3)) (ht : (pc : Int) + off = (tgt : Int)) (h : a ≤ b) (ha : b < 2 ^ 31)
    (kk : W p l e R s m args below meth c H locs cells slots Q (F0 m (pc + 3) ls rest)) : W p l e R s m args below meth c H locs cells slots Q (F0 m pc ls (.int (nI b) :: .int (nI a) :: rest)) :=
  lv_icmp_gt hx hb hdg ht (fun q => absurd q (nI_nlt h ha)) (fun _ => kk)
end B5
