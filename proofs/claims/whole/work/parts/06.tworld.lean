/-! The class's own world: 22 cells. I: unknowns, equations, width, height, decided, the lattice's height; AN 5: decides, AN 7: beginnings; AI 8 .. 10: the numbers' rows; AL 11 .. 17: the elimination's rows, AL 18 .. 20: the lattice's, AL 21: the target. -/
abbrev tyK (cs : Nat → ClassId) : List (ClassId × FieldType) := [(cs 0, .int), (cs 1, .long), (cs 2, .boolean), (cs 3, .array .int), (cs 4, .array .long)]
def cT (cs : Nat → ClassId) (ad : Nat → Nat) (I : Nat → Nat) (AN : Nat → Nat → Nat) (AI : Nat → Nat → Int32) (AL : Nat → Nat → Int64) : Nat → va_E := fun k =>
  if k = 0 then .inr (2, [.int (nI (I 0)), .ref (ad 1), .ref (ad 2), .ref (ad 3), .int (nI (I 1))])
  else if k = 1 then .inl (cs 3, 3, .inr (.inr (.inr (.inr (fun i => if i < 3 then some (ad (i + 8)) else none)))))
  else if k = 2 then .inr (0, [.ref (ad 4), .ref (ad 5), .int (nI (I 2)), .int (nI (I 3)), .int (nI (I 4))])
  else if k = 3 then .inr (1, [.ref (ad 6), .ref (ad 7), .ref (ad 21), .int (nI (I 5))])
  else if k = 4 then .inl (cs 4, 7, .inr (.inr (.inr (.inr (fun i => if i < 7 then some (ad (i + 11)) else none)))))
  else if k = 5 then .inl (cs 0, 7, .inl (fun j => nI (AN 5 j)))
  else if k = 6 then .inl (cs 4, 3, .inr (.inr (.inr (.inr (fun i => if i < 3 then some (ad (i + 18)) else none)))))
  else if k = 7 then .inl (cs 0, 3, .inl (fun j => nI (AN 7 j)))
  else if k < 11 then .inl (cs 0, 4, .inl (AI k))
  else if k < 18 then .inl (cs 1, 5, .inr (.inl (AL k)))
  else .inl (cs 1, 6, .inr (.inl (AL k)))
abbrev wT (cs : Nat → ClassId) (ad : Nat → Nat) (I : Nat → Nat) (AN : Nat → Nat → Nat) (AI : Nat → Nat → Int32) (AL : Nat → Nat → Int64) : va_W := wm 22 ad (cT cs ad I AN AI AL)
section T6
variable {cs : Nat → ClassId} {ad : Nat → Nat} {I : Nat → Nat} {AN : Nat → Nat → Nat} {AI : Nat → Nat → Int32} {AL : Nat → Nat → Int64}
theorem cT_N {i : Nat} (h : i < 3) : cT cs ad I AN AI AL (i + 8) = .inl (cs 0, 4, .inl (AI (i + 8))) := by
  unfold cT
  rw [if_neg (by omega), if_neg (by omega), if_neg (by omega), if_neg (by omega), if_neg (by omega), if_neg (by omega), if_neg (by omega), if_neg (by omega), if_pos (by omega)]
theorem cT_E {i : Nat} (h : i < 7) : cT cs ad I AN AI AL (i + 11) = .inl (cs 1, 5, .inr (.inl (AL (i + 11)))) := by
  unfold cT
  rw [if_neg (by omega), if_neg (by omega), if_neg (by omega), if_neg (by omega), if_neg (by omega), if_neg (by omega), if_neg (by omega), if_neg (by omega), if_neg (by omega), if_pos (by omega)]
theorem cT_L {i : Nat} : cT cs ad I AN AI AL (i + 18) = .inl (cs 1, 6, .inr (.inl (AL (i + 18)))) := by
  unfold cT
  rw [if_neg (by omega), if_neg (by omega), if_neg (by omega), if_neg (by omega), if_neg (by omega), if_neg (by omega), if_neg (by omega), if_neg (by omega), if_neg (by omega), if_neg (by omega)]
theorem sT_N {i j : Nat} {x : Int32} (h : i < 3) : wm 22 ad (va_up (cT cs ad I AN AI AL) (i + 8) (.inl (cs 0, 4, .inl (upd (AI (i + 8)) j x)))) = wm 22 ad (cT cs ad I AN (up2 AI (i + 8) j x) AL) := by
  refine wm_congr fun k _ => ?_
  by_cases hk : k = i + 8
  · subst hk
    rw [va_up_self, cT_N h, up2_I]
  · rw [va_up_ne _ _ hk]
    unfold cT
    rw [up2_row hk]
theorem sT_E {i j : Nat} {x : Int64} (h : i < 7) : wm 22 ad (va_up (cT cs ad I AN AI AL) (i + 11) (.inl (cs 1, 5, .inr (.inl (vp_updL (AL (i + 11)) j x))))) = wm 22 ad (cT cs ad I AN AI (up2 AL (i + 11) j x)) := by
  refine wm_congr fun k _ => ?_
  by_cases hk : k = i + 11
  · subst hk
    rw [va_up_self, cT_E h, up2_L]
  · rw [va_up_ne _ _ hk]
    unfold cT
    rw [up2_row hk]
theorem sT_L {i j : Nat} {x : Int64} : wm 22 ad (va_up (cT cs ad I AN AI AL) (i + 18) (.inl (cs 1, 6, .inr (.inl (vp_updL (AL (i + 18)) j x))))) = wm 22 ad (cT cs ad I AN AI (up2 AL (i + 18) j x)) := by
  refine wm_congr fun k _ => ?_
  by_cases hk : k = i + 18
  · subst hk
    rw [va_up_self, cT_L, up2_L]
  · rw [va_up_ne _ _ hk]
    unfold cT
    rw [up2_row hk]
theorem sT_D {j v : Nat} : wm 22 ad (va_up (cT cs ad I AN AI AL) 5 (.inl (cs 0, 7, .inl (upd (fun b => nI (AN 5 b)) j (nI v))))) = wm 22 ad (cT cs ad I (up2 AN 5 j v) AI AL) := by
  refine wm_congr fun k _ => ?_
  by_cases hk : k = 5
  · subst hk
    rw [va_up_self, up2_N]
    rfl
  · rw [va_up_ne _ _ hk]
    unfold cT
    rw [if_neg hk, if_neg hk, up2_row (show (7 : Nat) ≠ 5 by decide)]
theorem sT_B {j v : Nat} : wm 22 ad (va_up (cT cs ad I AN AI AL) 7 (.inl (cs 0, 3, .inl (upd (fun b => nI (AN 7 b)) j (nI v))))) = wm 22 ad (cT cs ad I (up2 AN 7 j v) AI AL) := by
  refine wm_congr fun k _ => ?_
  by_cases hk : k = 7
  · subst hk
    rw [va_up_self, up2_N]
    rfl
  · rw [va_up_ne _ _ hk]
    unfold cT
    rw [if_neg hk, if_neg hk, up2_row (show (5 : Nat) ≠ 7 by decide)]
theorem sT_eq {v : Nat} : wm 22 ad (va_up (cT cs ad I AN AI AL) 0 (.inr (2, [.int (nI (I 0)), .ref (ad 1), .ref (ad 2), .ref (ad 3), .int (nI v)]))) = wm 22 ad (cT cs ad (up1 I 1 v) AN AI AL) := by
  refine wm_congr fun k _ => ?_
  by_cases hk : k = 0
  · subst hk
    rfl
  · rw [va_up_ne _ _ hk]
    unfold cT
    rw [if_neg hk, if_neg hk]
    rfl
theorem sT_w {v : Nat} : wm 22 ad (va_up (cT cs ad I AN AI AL) 2 (.inr (0, [.ref (ad 4), .ref (ad 5), .int (nI v), .int (nI (I 3)), .int (nI (I 4))]))) = wm 22 ad (cT cs ad (up1 I 2 v) AN AI AL) := by
  refine wm_congr fun k _ => ?_
  by_cases hk : k = 2
  · subst hk
    rfl
  · rw [va_up_ne _ _ hk]
    unfold cT
    rw [if_neg hk, if_neg hk]
    rfl
theorem sT_h {v : Nat} : wm 22 ad (va_up (cT cs ad I AN AI AL) 2 (.inr (0, [.ref (ad 4), .ref (ad 5), .int (nI (I 2)), .int (nI v), .int (nI (I 4))]))) = wm 22 ad (cT cs ad (up1 I 3 v) AN AI AL) := by
  refine wm_congr fun k _ => ?_
  by_cases hk : k = 2
  · subst hk
    rfl
  · rw [va_up_ne _ _ hk]
    unfold cT
    rw [if_neg hk, if_neg hk]
    rfl
theorem sT_d {v : Nat} : wm 22 ad (va_up (cT cs ad I AN AI AL) 2 (.inr (0, [.ref (ad 4), .ref (ad 5), .int (nI (I 2)), .int (nI (I 3)), .int (nI v)]))) = wm 22 ad (cT cs ad (up1 I 4 v) AN AI AL) := by
  refine wm_congr fun k _ => ?_
  by_cases hk : k = 2
  · subst hk
    rfl
  · rw [va_up_ne _ _ hk]
    unfold cT
    rw [if_neg hk, if_neg hk]
    rfl
theorem sT_lh {v : Nat} : wm 22 ad (va_up (cT cs ad I AN AI AL) 3 (.inr (1, [.ref (ad 6), .ref (ad 7), .ref (ad 21), .int (nI v)]))) = wm 22 ad (cT cs ad (up1 I 5 v) AN AI AL) := by
  refine wm_congr fun k _ => ?_
  by_cases hk : k = 3
  · subst hk
    rfl
  · rw [va_up_ne _ _ hk]
    unfold cT
    rw [if_neg hk, if_neg hk]
    rfl
variable {p : Program} {l : Launch} {e : Env} {R : Room} {s : State} {m : MethodId} {args : Array Value} {below : List Frame} {meth : Method} {c : Code} {H : Heap} {locs : List Loc} {cells slots : Nat} {Q : State → Prop}
variable {cc : ByteArray} {pc : Nat} {ls : Array Slot} {rest : List Value} {D : va_G} {A : Nat → Prop} {H0 : Heap}
/-- rows[i] of the elimination, of the lattice, numbers[i] -/
theorem tE_r (hx : p.tables.exec = Jvm.exec) (hb : c.code = cc) (hK : va_K D vc (tyK cs) s) (hP : va_P D vc (wT cs ad I AN AI AL) H) {i : Nat} (hi : i < 7) (hdg : decode cc pc = .ok (.aaload, 1))
    (kk : W p l e R s m args below meth c H locs cells slots Q (F0 m (pc + 1) ls (.ref (ad (i + 11)) :: rest))) : W p l e R s m args below meth c H locs cells slots Q (F0 m pc ls (.int (nI i) :: .ref (ad 4) :: rest)) :=
  b_aald hx hb hK hP 4 4 (ty := .long) (by decide) rfl rfl hi (by decide) (if_pos hi) hdg kk
theorem tL_r (hx : p.tables.exec = Jvm.exec) (hb : c.code = cc) (hK : va_K D vc (tyK cs) s) (hP : va_P D vc (wT cs ad I AN AI AL) H) {i : Nat} (hi : i < 3) (hdg : decode cc pc = .ok (.aaload, 1))
    (kk : W p l e R s m args below meth c H locs cells slots Q (F0 m (pc + 1) ls (.ref (ad (i + 18)) :: rest))) : W p l e R s m args below meth c H locs cells slots Q (F0 m pc ls (.int (nI i) :: .ref (ad 6) :: rest)) :=
  b_aald hx hb hK hP 6 4 (ty := .long) (by decide) rfl rfl hi (by decide) (if_pos hi) hdg kk
theorem tN_r (hx : p.tables.exec = Jvm.exec) (hb : c.code = cc) (hK : va_K D vc (tyK cs) s) (hP : va_P D vc (wT cs ad I AN AI AL) H) {i : Nat} (hi : i < 3) (hdg : decode cc pc = .ok (.aaload, 1))
    (kk : W p l e R s m args below meth c H locs cells slots Q (F0 m (pc + 1) ls (.ref (ad (i + 8)) :: rest))) : W p l e R s m args below meth c H locs cells slots Q (F0 m pc ls (.int (nI i) :: .ref (ad 1) :: rest)) :=
  b_aald hx hb hK hP 1 3 (ty := .int) (by decide) rfl rfl hi (by decide) (if_pos hi) hdg kk
theorem tE_ld (hx : p.tables.exec = Jvm.exec) (hb : c.code = cc) (hK : va_K D vc (tyK cs) s) (hP : va_P D vc (wT cs ad I AN AI AL) H) {i j : Nat} (hi : i < 7) (hj : j < 5) (hdg : decode cc pc = .ok (.laload, 1))
    (kk : W p l e R s m args below meth c H locs cells slots Q (F0 m (pc + 1) ls (.long (AL (i + 11) j) :: rest))) : W p l e R s m args below meth c H locs cells slots Q (F0 m pc ls (.int (nI j) :: .ref (ad (i + 11)) :: rest)) :=
  b_lald hx hb hK hP (i + 11) 1 (by omega) (cT_E hi) rfl hj (by decide) hdg kk
theorem tE_st (hx : p.tables.exec = Jvm.exec) (hb : c.code = cc) (hK : va_K D vc (tyK cs) s) (hP : va_P D vc (wT cs ad I AN AI AL) H) (hD : va_D A (wT cs ad I AN AI AL)) (hS : va_S A H0 H locs) {i j : Nat} {x : Int64} (hi : i < 7) (hj : j < 5) (hdg : decode cc pc = .ok (.lastore, 1))
    (kk : ∀ (H1 : Heap) (locs1 : List Loc), va_P D vc (wT cs ad I AN AI (up2 AL (i + 11) j x)) H1 → va_D A (wT cs ad I AN AI (up2 AL (i + 11) j x)) → va_S A H0 H1 locs1 → W p l e R s m args below meth c H1 locs1 cells slots Q (F0 m (pc + 1) ls rest)) : W p l e R s m args below meth c H locs cells slots Q (F0 m pc ls (.long x :: .int (nI j) :: .ref (ad (i + 11)) :: rest)) :=
  b_last hx hb hK hP hD hS (i + 11) 1 (by omega) (cT_E hi) rfl hj (by decide) hdg (sT_E hi) kk
theorem tL_ld (hx : p.tables.exec = Jvm.exec) (hb : c.code = cc) (hK : va_K D vc (tyK cs) s) (hP : va_P D vc (wT cs ad I AN AI AL) H) {i j : Nat} (hi : i < 4) (hj : j < 6) (hdg : decode cc pc = .ok (.laload, 1))
    (kk : W p l e R s m args below meth c H locs cells slots Q (F0 m (pc + 1) ls (.long (AL (i + 18) j) :: rest))) : W p l e R s m args below meth c H locs cells slots Q (F0 m pc ls (.int (nI j) :: .ref (ad (i + 18)) :: rest)) :=
  b_lald hx hb hK hP (i + 18) 1 (by omega) cT_L rfl hj (by decide) hdg kk
theorem tL_st (hx : p.tables.exec = Jvm.exec) (hb : c.code = cc) (hK : va_K D vc (tyK cs) s) (hP : va_P D vc (wT cs ad I AN AI AL) H) (hD : va_D A (wT cs ad I AN AI AL)) (hS : va_S A H0 H locs) {i j : Nat} {x : Int64} (hi : i < 4) (hj : j < 6) (hdg : decode cc pc = .ok (.lastore, 1))
    (kk : ∀ (H1 : Heap) (locs1 : List Loc), va_P D vc (wT cs ad I AN AI (up2 AL (i + 18) j x)) H1 → va_D A (wT cs ad I AN AI (up2 AL (i + 18) j x)) → va_S A H0 H1 locs1 → W p l e R s m args below meth c H1 locs1 cells slots Q (F0 m (pc + 1) ls rest)) : W p l e R s m args below meth c H locs cells slots Q (F0 m pc ls (.long x :: .int (nI j) :: .ref (ad (i + 18)) :: rest)) :=
  b_last hx hb hK hP hD hS (i + 18) 1 (by omega) cT_L rfl hj (by decide) hdg sT_L kk
theorem tN_ld (hx : p.tables.exec = Jvm.exec) (hb : c.code = cc) (hK : va_K D vc (tyK cs) s) (hP : va_P D vc (wT cs ad I AN AI AL) H) {i j : Nat} (hi : i < 3) (hj : j < 4) (hdg : decode cc pc = .ok (.iaload, 1))
    (kk : W p l e R s m args below meth c H locs cells slots Q (F0 m (pc + 1) ls (.int (AI (i + 8) j) :: rest))) : W p l e R s m args below meth c H locs cells slots Q (F0 m pc ls (.int (nI j) :: .ref (ad (i + 8)) :: rest)) :=
  b_iald hx hb hK hP (i + 8) 0 (by omega) (cT_N hi) rfl hj (by decide) hdg kk
theorem tN_st (hx : p.tables.exec = Jvm.exec) (hb : c.code = cc) (hK : va_K D vc (tyK cs) s) (hP : va_P D vc (wT cs ad I AN AI AL) H) (hD : va_D A (wT cs ad I AN AI AL)) (hS : va_S A H0 H locs) {i j : Nat} {x : Int32} (hi : i < 3) (hj : j < 4) (hdg : decode cc pc = .ok (.iastore, 1))
    (kk : ∀ (H1 : Heap) (locs1 : List Loc), va_P D vc (wT cs ad I AN (up2 AI (i + 8) j x) AL) H1 → va_D A (wT cs ad I AN (up2 AI (i + 8) j x) AL) → va_S A H0 H1 locs1 → W p l e R s m args below meth c H1 locs1 cells slots Q (F0 m (pc + 1) ls rest)) : W p l e R s m args below meth c H locs cells slots Q (F0 m pc ls (.int x :: .int (nI j) :: .ref (ad (i + 8)) :: rest)) :=
  b_iast hx hb hK hP hD hS (i + 8) 0 (by omega) (cT_N hi) rfl hj (by decide) hdg (sT_N hi) kk
theorem tD_ld (hx : p.tables.exec = Jvm.exec) (hb : c.code = cc) (hK : va_K D vc (tyK cs) s) (hP : va_P D vc (wT cs ad I AN AI AL) H) {j : Nat} (hj : j < 7) (hdg : decode cc pc = .ok (.iaload, 1))
    (kk : W p l e R s m args below meth c H locs cells slots Q (F0 m (pc + 1) ls (.int (nI (AN 5 j)) :: rest))) : W p l e R s m args below meth c H locs cells slots Q (F0 m pc ls (.int (nI j) :: .ref (ad 5) :: rest)) :=
  b_iald hx hb hK hP 5 0 (by decide) rfl rfl hj (by decide) hdg kk
theorem tD_st (hx : p.tables.exec = Jvm.exec) (hb : c.code = cc) (hK : va_K D vc (tyK cs) s) (hP : va_P D vc (wT cs ad I AN AI AL) H) (hD : va_D A (wT cs ad I AN AI AL)) (hS : va_S A H0 H locs) {j v : Nat} (hj : j < 7) (hdg : decode cc pc = .ok (.iastore, 1))
    (kk : ∀ (H1 : Heap) (locs1 : List Loc), va_P D vc (wT cs ad I (up2 AN 5 j v) AI AL) H1 → va_D A (wT cs ad I (up2 AN 5 j v) AI AL) → va_S A H0 H1 locs1 → W p l e R s m args below meth c H1 locs1 cells slots Q (F0 m (pc + 1) ls rest)) : W p l e R s m args below meth c H locs cells slots Q (F0 m pc ls (.int (nI v) :: .int (nI j) :: .ref (ad 5) :: rest)) :=
  b_iast hx hb hK hP hD hS 5 0 (by decide) rfl rfl hj (by decide) hdg sT_D kk
theorem tB_ld (hx : p.tables.exec = Jvm.exec) (hb : c.code = cc) (hK : va_K D vc (tyK cs) s) (hP : va_P D vc (wT cs ad I AN AI AL) H) {j : Nat} (hj : j < 3) (hdg : decode cc pc = .ok (.iaload, 1))
    (kk : W p l e R s m args below meth c H locs cells slots Q (F0 m (pc + 1) ls (.int (nI (AN 7 j)) :: rest))) : W p l e R s m args below meth c H locs cells slots Q (F0 m pc ls (.int (nI j) :: .ref (ad 7) :: rest)) :=
  b_iald hx hb hK hP 7 0 (by decide) rfl rfl hj (by decide) hdg kk
theorem tB_st (hx : p.tables.exec = Jvm.exec) (hb : c.code = cc) (hK : va_K D vc (tyK cs) s) (hP : va_P D vc (wT cs ad I AN AI AL) H) (hD : va_D A (wT cs ad I AN AI AL)) (hS : va_S A H0 H locs) {j v : Nat} (hj : j < 3) (hdg : decode cc pc = .ok (.iastore, 1))
    (kk : ∀ (H1 : Heap) (locs1 : List Loc), va_P D vc (wT cs ad I (up2 AN 7 j v) AI AL) H1 → va_D A (wT cs ad I (up2 AN 7 j v) AI AL) → va_S A H0 H1 locs1 → W p l e R s m args below meth c H1 locs1 cells slots Q (F0 m (pc + 1) ls rest)) : W p l e R s m args below meth c H locs cells slots Q (F0 m pc ls (.int (nI v) :: .int (nI j) :: .ref (ad 7) :: rest)) :=
  b_iast hx hb hK hP hD hS 7 0 (by decide) rfl rfl hj (by decide) hdg sT_B kk
end T6
abbrev TS : Type := (Nat → Nat) × (Nat → Nat → Nat) × (Nat → Nat → Int32) × (Nat → Nat → Int64)
abbrev wTs (cs : Nat → ClassId) (ad : Nat → Nat) (u : TS) : va_W := wT cs ad u.1 u.2.1 u.2.2.1 u.2.2.2
