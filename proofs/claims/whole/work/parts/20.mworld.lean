/-! The Model's world: 15 cells. I: code, n, m, rank, size; G: all, up, down, below; AN 2: columns, 3: lines, 4: isFree, 10: begins; AI: cells; AL 5: square, 6: comes, 7: answer, 8: spare, 9: bases, 11: trial, 12: most, 13: near, 14: turned. -/
def cM (cs : Nat → ClassId) (ad : Nat → Nat) (I : Nat → Nat) (G : Nat → Int64) (AN : Nat → Nat → Nat) (AI : Nat → Int32) (AL : Nat → Nat → Int64) : Nat → va_E := fun k =>
  if k = 0 then .inr (3, [.int (nI (I 0)), .int (nI (I 1)), .int (nI (I 2)), .ref (ad 1), .int (nI (I 3)), .ref (ad 2), .ref (ad 3), .ref (ad 4), .ref (ad 5), .ref (ad 6), .ref (ad 7), .long (G 0), .long (G 1), .long (G 2), .ref (ad 8), .int (nI (I 4)), .ref (ad 9), .ref (ad 10), .ref (ad 11), .ref (ad 12), .ref (ad 13), .long (G 3), .ref (ad 14)])
  else if k = 1 then .inl (cs 0, 12, .inl AI)
  else if k = 2 then .inl (cs 0, 3, .inl (fun j => nI (AN 2 j)))
  else if k = 3 then .inl (cs 0, 3, .inl (fun j => nI (AN 3 j)))
  else if k = 4 then .inl (cs 2, 3, .inl (fun j => nI (AN 4 j)))
  else if k = 10 then .inl (cs 0, 3, .inl (fun j => nI (AN 10 j)))
  else if k = 5 ∨ k = 9 ∨ k = 14 then .inl (cs 1, 9, .inr (.inl (AL k)))
  else .inl (cs 1, 3, .inr (.inl (AL k)))
abbrev wM (cs : Nat → ClassId) (ad : Nat → Nat) (I : Nat → Nat) (G : Nat → Int64) (AN : Nat → Nat → Nat) (AI : Nat → Int32) (AL : Nat → Nat → Int64) : va_W := wm 15 ad (cM cs ad I G AN AI AL)
abbrev MS : Type := (Nat → Nat) × (Nat → Int64) × (Nat → Nat → Nat) × (Nat → Int32) × (Nat → Nat → Int64)
abbrev wMs (cs : Nat → ClassId) (ad : Nat → Nat) (u : MS) : va_W := wM cs ad u.1 u.2.1 u.2.2.1 u.2.2.2.1 u.2.2.2.2
section M20
variable {cs : Nat → ClassId} {ad : Nat → Nat} {I : Nat → Nat} {G : Nat → Int64} {AN : Nat → Nat → Nat} {AI : Nat → Int32} {AL : Nat → Nat → Int64}
theorem k15 {k : Nat} (h : k < 15) : k = 0 ∨ k = 1 ∨ k = 2 ∨ k = 3 ∨ k = 4 ∨ k = 5 ∨ k = 6 ∨ k = 7 ∨ k = 8 ∨ k = 9 ∨ k = 10 ∨ k = 11 ∨ k = 12 ∨ k = 13 ∨ k = 14 := by omega
theorem sM_L5 {j : Nat} {x : Int64} : wm 15 ad (va_up (cM cs ad I G AN AI AL) 5 (.inl (cs 1, 9, .inr (.inl (vp_updL (AL 5) j x))))) = wm 15 ad (cM cs ad I G AN AI (up2 AL 5 j x)) := by
  refine wm_congr fun k _ => ?_
  by_cases hk : k = 5
  · subst hk
    rw [va_up_self, up2_L]
    rfl
  · rw [va_up_ne _ _ hk]
    unfold cM
    rw [up2_row hk]
theorem sM_L6 {j : Nat} {x : Int64} : wm 15 ad (va_up (cM cs ad I G AN AI AL) 6 (.inl (cs 1, 3, .inr (.inl (vp_updL (AL 6) j x))))) = wm 15 ad (cM cs ad I G AN AI (up2 AL 6 j x)) := by
  refine wm_congr fun k _ => ?_
  by_cases hk : k = 6
  · subst hk
    rw [va_up_self, up2_L]
    rfl
  · rw [va_up_ne _ _ hk]
    unfold cM
    rw [up2_row hk]
theorem sM_L7 {j : Nat} {x : Int64} : wm 15 ad (va_up (cM cs ad I G AN AI AL) 7 (.inl (cs 1, 3, .inr (.inl (vp_updL (AL 7) j x))))) = wm 15 ad (cM cs ad I G AN AI (up2 AL 7 j x)) := by
  refine wm_congr fun k _ => ?_
  by_cases hk : k = 7
  · subst hk
    rw [va_up_self, up2_L]
    rfl
  · rw [va_up_ne _ _ hk]
    unfold cM
    rw [up2_row hk]
theorem sM_L8 {j : Nat} {x : Int64} : wm 15 ad (va_up (cM cs ad I G AN AI AL) 8 (.inl (cs 1, 3, .inr (.inl (vp_updL (AL 8) j x))))) = wm 15 ad (cM cs ad I G AN AI (up2 AL 8 j x)) := by
  refine wm_congr fun k _ => ?_
  by_cases hk : k = 8
  · subst hk
    rw [va_up_self, up2_L]
    rfl
  · rw [va_up_ne _ _ hk]
    unfold cM
    rw [up2_row hk]
theorem sM_L9 {j : Nat} {x : Int64} : wm 15 ad (va_up (cM cs ad I G AN AI AL) 9 (.inl (cs 1, 9, .inr (.inl (vp_updL (AL 9) j x))))) = wm 15 ad (cM cs ad I G AN AI (up2 AL 9 j x)) := by
  refine wm_congr fun k _ => ?_
  by_cases hk : k = 9
  · subst hk
    rw [va_up_self, up2_L]
    rfl
  · rw [va_up_ne _ _ hk]
    unfold cM
    rw [up2_row hk]
theorem sM_L11 {j : Nat} {x : Int64} : wm 15 ad (va_up (cM cs ad I G AN AI AL) 11 (.inl (cs 1, 3, .inr (.inl (vp_updL (AL 11) j x))))) = wm 15 ad (cM cs ad I G AN AI (up2 AL 11 j x)) := by
  refine wm_congr fun k _ => ?_
  by_cases hk : k = 11
  · subst hk
    rw [va_up_self, up2_L]
    rfl
  · rw [va_up_ne _ _ hk]
    unfold cM
    rw [up2_row hk]
theorem sM_L12 {j : Nat} {x : Int64} : wm 15 ad (va_up (cM cs ad I G AN AI AL) 12 (.inl (cs 1, 3, .inr (.inl (vp_updL (AL 12) j x))))) = wm 15 ad (cM cs ad I G AN AI (up2 AL 12 j x)) := by
  refine wm_congr fun k _ => ?_
  by_cases hk : k = 12
  · subst hk
    rw [va_up_self, up2_L]
    rfl
  · rw [va_up_ne _ _ hk]
    unfold cM
    rw [up2_row hk]
theorem sM_L13 {j : Nat} {x : Int64} : wm 15 ad (va_up (cM cs ad I G AN AI AL) 13 (.inl (cs 1, 3, .inr (.inl (vp_updL (AL 13) j x))))) = wm 15 ad (cM cs ad I G AN AI (up2 AL 13 j x)) := by
  refine wm_congr fun k _ => ?_
  by_cases hk : k = 13
  · subst hk
    rw [va_up_self, up2_L]
    rfl
  · rw [va_up_ne _ _ hk]
    unfold cM
    rw [up2_row hk]
theorem sM_L14 {j : Nat} {x : Int64} : wm 15 ad (va_up (cM cs ad I G AN AI AL) 14 (.inl (cs 1, 9, .inr (.inl (vp_updL (AL 14) j x))))) = wm 15 ad (cM cs ad I G AN AI (up2 AL 14 j x)) := by
  refine wm_congr fun k _ => ?_
  by_cases hk : k = 14
  · subst hk
    rw [va_up_self, up2_L]
    rfl
  · rw [va_up_ne _ _ hk]
    unfold cM
    rw [up2_row hk]
theorem sM_N2 {j v : Nat} : wm 15 ad (va_up (cM cs ad I G AN AI AL) 2 (.inl (cs 0, 3, .inl (upd (fun b => nI (AN 2 b)) j (nI v))))) = wm 15 ad (cM cs ad I G (up2 AN 2 j v) AI AL) := by
  refine wm_congr fun k hk => ?_
  rw [up2_N]
  rcases k15 hk with rfl | rfl | rfl | rfl | rfl | rfl | rfl | rfl | rfl | rfl | rfl | rfl | rfl | rfl | rfl <;> rfl
theorem sM_N3 {j v : Nat} : wm 15 ad (va_up (cM cs ad I G AN AI AL) 3 (.inl (cs 0, 3, .inl (upd (fun b => nI (AN 3 b)) j (nI v))))) = wm 15 ad (cM cs ad I G (up2 AN 3 j v) AI AL) := by
  refine wm_congr fun k hk => ?_
  rw [up2_N]
  rcases k15 hk with rfl | rfl | rfl | rfl | rfl | rfl | rfl | rfl | rfl | rfl | rfl | rfl | rfl | rfl | rfl <;> rfl
theorem sM_N10 {j v : Nat} : wm 15 ad (va_up (cM cs ad I G AN AI AL) 10 (.inl (cs 0, 3, .inl (upd (fun b => nI (AN 10 b)) j (nI v))))) = wm 15 ad (cM cs ad I G (up2 AN 10 j v) AI AL) := by
  refine wm_congr fun k hk => ?_
  rw [up2_N]
  rcases k15 hk with rfl | rfl | rfl | rfl | rfl | rfl | rfl | rfl | rfl | rfl | rfl | rfl | rfl | rfl | rfl <;> rfl
theorem sM_N4 {j v : Nat} : wm 15 ad (va_up (cM cs ad I G AN AI AL) 4 (.inl (cs 2, 3, .inl (upd (fun b => nI (AN 4 b)) j (nI v))))) = wm 15 ad (cM cs ad I G (up2 AN 4 j v) AI AL) := by
  refine wm_congr fun k hk => ?_
  rw [up2_N]
  rcases k15 hk with rfl | rfl | rfl | rfl | rfl | rfl | rfl | rfl | rfl | rfl | rfl | rfl | rfl | rfl | rfl <;> rfl
theorem sM_C {j : Nat} {x : Int32} : wm 15 ad (va_up (cM cs ad I G AN AI AL) 1 (.inl (cs 0, 12, .inl (upd AI j x)))) = wm 15 ad (cM cs ad I G AN (up1 AI j x) AL) := by
  refine wm_congr fun k hk => ?_
  rcases k15 hk with rfl | rfl | rfl | rfl | rfl | rfl | rfl | rfl | rfl | rfl | rfl | rfl | rfl | rfl | rfl <;> rfl
theorem sM_I0 {v : Nat} : wm 15 ad (va_up (cM cs ad I G AN AI AL) 0 (.inr (3, [.int (nI v), .int (nI (I 1)), .int (nI (I 2)), .ref (ad 1), .int (nI (I 3)), .ref (ad 2), .ref (ad 3), .ref (ad 4), .ref (ad 5), .ref (ad 6), .ref (ad 7), .long (G 0), .long (G 1), .long (G 2), .ref (ad 8), .int (nI (I 4)), .ref (ad 9), .ref (ad 10), .ref (ad 11), .ref (ad 12), .ref (ad 13), .long (G 3), .ref (ad 14)]))) = wm 15 ad (cM cs ad (up1 I 0 v) G AN AI AL) := by
  refine wm_congr fun k hk => ?_
  rcases k15 hk with rfl | rfl | rfl | rfl | rfl | rfl | rfl | rfl | rfl | rfl | rfl | rfl | rfl | rfl | rfl <;> rfl
theorem sM_I2 {v : Nat} : wm 15 ad (va_up (cM cs ad I G AN AI AL) 0 (.inr (3, [.int (nI (I 0)), .int (nI (I 1)), .int (nI v), .ref (ad 1), .int (nI (I 3)), .ref (ad 2), .ref (ad 3), .ref (ad 4), .ref (ad 5), .ref (ad 6), .ref (ad 7), .long (G 0), .long (G 1), .long (G 2), .ref (ad 8), .int (nI (I 4)), .ref (ad 9), .ref (ad 10), .ref (ad 11), .ref (ad 12), .ref (ad 13), .long (G 3), .ref (ad 14)]))) = wm 15 ad (cM cs ad (up1 I 2 v) G AN AI AL) := by
  refine wm_congr fun k hk => ?_
  rcases k15 hk with rfl | rfl | rfl | rfl | rfl | rfl | rfl | rfl | rfl | rfl | rfl | rfl | rfl | rfl | rfl <;> rfl
theorem sM_I3 {v : Nat} : wm 15 ad (va_up (cM cs ad I G AN AI AL) 0 (.inr (3, [.int (nI (I 0)), .int (nI (I 1)), .int (nI (I 2)), .ref (ad 1), .int (nI v), .ref (ad 2), .ref (ad 3), .ref (ad 4), .ref (ad 5), .ref (ad 6), .ref (ad 7), .long (G 0), .long (G 1), .long (G 2), .ref (ad 8), .int (nI (I 4)), .ref (ad 9), .ref (ad 10), .ref (ad 11), .ref (ad 12), .ref (ad 13), .long (G 3), .ref (ad 14)]))) = wm 15 ad (cM cs ad (up1 I 3 v) G AN AI AL) := by
  refine wm_congr fun k hk => ?_
  rcases k15 hk with rfl | rfl | rfl | rfl | rfl | rfl | rfl | rfl | rfl | rfl | rfl | rfl | rfl | rfl | rfl <;> rfl
theorem sM_I4 {v : Nat} : wm 15 ad (va_up (cM cs ad I G AN AI AL) 0 (.inr (3, [.int (nI (I 0)), .int (nI (I 1)), .int (nI (I 2)), .ref (ad 1), .int (nI (I 3)), .ref (ad 2), .ref (ad 3), .ref (ad 4), .ref (ad 5), .ref (ad 6), .ref (ad 7), .long (G 0), .long (G 1), .long (G 2), .ref (ad 8), .int (nI v), .ref (ad 9), .ref (ad 10), .ref (ad 11), .ref (ad 12), .ref (ad 13), .long (G 3), .ref (ad 14)]))) = wm 15 ad (cM cs ad (up1 I 4 v) G AN AI AL) := by
  refine wm_congr fun k hk => ?_
  rcases k15 hk with rfl | rfl | rfl | rfl | rfl | rfl | rfl | rfl | rfl | rfl | rfl | rfl | rfl | rfl | rfl <;> rfl
theorem sM_G0 {v : Int64} : wm 15 ad (va_up (cM cs ad I G AN AI AL) 0 (.inr (3, [.int (nI (I 0)), .int (nI (I 1)), .int (nI (I 2)), .ref (ad 1), .int (nI (I 3)), .ref (ad 2), .ref (ad 3), .ref (ad 4), .ref (ad 5), .ref (ad 6), .ref (ad 7), .long v, .long (G 1), .long (G 2), .ref (ad 8), .int (nI (I 4)), .ref (ad 9), .ref (ad 10), .ref (ad 11), .ref (ad 12), .ref (ad 13), .long (G 3), .ref (ad 14)]))) = wm 15 ad (cM cs ad I (up1 G 0 v) AN AI AL) := by
  refine wm_congr fun k hk => ?_
  rcases k15 hk with rfl | rfl | rfl | rfl | rfl | rfl | rfl | rfl | rfl | rfl | rfl | rfl | rfl | rfl | rfl <;> rfl
theorem sM_G1 {v : Int64} : wm 15 ad (va_up (cM cs ad I G AN AI AL) 0 (.inr (3, [.int (nI (I 0)), .int (nI (I 1)), .int (nI (I 2)), .ref (ad 1), .int (nI (I 3)), .ref (ad 2), .ref (ad 3), .ref (ad 4), .ref (ad 5), .ref (ad 6), .ref (ad 7), .long (G 0), .long v, .long (G 2), .ref (ad 8), .int (nI (I 4)), .ref (ad 9), .ref (ad 10), .ref (ad 11), .ref (ad 12), .ref (ad 13), .long (G 3), .ref (ad 14)]))) = wm 15 ad (cM cs ad I (up1 G 1 v) AN AI AL) := by
  refine wm_congr fun k hk => ?_
  rcases k15 hk with rfl | rfl | rfl | rfl | rfl | rfl | rfl | rfl | rfl | rfl | rfl | rfl | rfl | rfl | rfl <;> rfl
theorem sM_G2 {v : Int64} : wm 15 ad (va_up (cM cs ad I G AN AI AL) 0 (.inr (3, [.int (nI (I 0)), .int (nI (I 1)), .int (nI (I 2)), .ref (ad 1), .int (nI (I 3)), .ref (ad 2), .ref (ad 3), .ref (ad 4), .ref (ad 5), .ref (ad 6), .ref (ad 7), .long (G 0), .long (G 1), .long v, .ref (ad 8), .int (nI (I 4)), .ref (ad 9), .ref (ad 10), .ref (ad 11), .ref (ad 12), .ref (ad 13), .long (G 3), .ref (ad 14)]))) = wm 15 ad (cM cs ad I (up1 G 2 v) AN AI AL) := by
  refine wm_congr fun k hk => ?_
  rcases k15 hk with rfl | rfl | rfl | rfl | rfl | rfl | rfl | rfl | rfl | rfl | rfl | rfl | rfl | rfl | rfl <;> rfl
theorem sM_G3 {v : Int64} : wm 15 ad (va_up (cM cs ad I G AN AI AL) 0 (.inr (3, [.int (nI (I 0)), .int (nI (I 1)), .int (nI (I 2)), .ref (ad 1), .int (nI (I 3)), .ref (ad 2), .ref (ad 3), .ref (ad 4), .ref (ad 5), .ref (ad 6), .ref (ad 7), .long (G 0), .long (G 1), .long (G 2), .ref (ad 8), .int (nI (I 4)), .ref (ad 9), .ref (ad 10), .ref (ad 11), .ref (ad 12), .ref (ad 13), .long v, .ref (ad 14)]))) = wm 15 ad (cM cs ad I (up1 G 3 v) AN AI AL) := by
  refine wm_congr fun k hk => ?_
  rcases k15 hk with rfl | rfl | rfl | rfl | rfl | rfl | rfl | rfl | rfl | rfl | rfl | rfl | rfl | rfl | rfl <;> rfl
end M20
section B20
variable {p : Program} {l : Launch} {e : Env} {R : Room} {s : State} {m : MethodId} {args : Array Value} {below : List Frame} {meth : Method} {c : Code} {H : Heap} {locs : List Loc} {cells slots : Nat} {Q : State → Prop}
variable {cc : ByteArray} {pc : Nat} {ls : Array Slot} {rest : List Value} {D : va_G} {A : Nat → Prop} {tys : List (ClassId × FieldType)} {H0 : Heap} {n : Nat} {ad : Nat → Nat} {cf : Nat → va_E}
theorem b_zast (hx : p.tables.exec = Jvm.exec) (hb : c.code = cc) (hK : va_K D vc tys s) (hP : va_P D vc (wm n ad cf) H) (hD : va_D A (wm n ad cf)) (hS : va_S A H0 H locs) (k t0 : Nat) {cA : ClassId} {len : Nat} {f : Nat → Int32} (hk : k < n) (hc : cf k = .inl (cA, len, .inl f)) (ht : tys[t0]? = some (cA, .boolean)) {j v : Nat} (hv : v < 2) (hj : j < len) (hl : len < 2 ^ 31) (hdg : decode cc pc = .ok (.bastore, 1)) {cg : Nat → va_E} (hg : wm n ad (va_up cf k (.inl (cA, len, .inl (upd f j (nI v))))) = wm n ad cg)
    (kk : ∀ (H1 : Heap) (locs1 : List Loc), va_P D vc (wm n ad cg) H1 → va_D A (wm n ad cg) → va_S A H0 H1 locs1 → W p l e R s m args below meth c H1 locs1 cells slots Q (F0 m (pc + 1) ls rest)) : W p l e R s m args below meth c H locs cells slots Q (F0 m pc ls (.int (nI v) :: .int (nI j) :: .ref (ad k) :: rest)) := by
  have e9 : vp_nar .boolean (nI v) = nI v := by
    have h2 : v = 0 ∨ v = 1 := by omega
    rcases h2 with rfl | rfl <;> rfl
  refine va_zast hx hb hK hP hD hS k t0 (wm_at hk hc) ht (vp_in_nI hj hl) hdg ?_
  rw [nI_clamp (by omega), wm_set]
  first | rw [hg] | rw [e9, hg]
  exact kk
end B20
