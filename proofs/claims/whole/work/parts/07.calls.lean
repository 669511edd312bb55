/-! Contracts in one form, calls over a whole world. -/
/-- links across the nest: no word of GW says them -/
def NWs : List Cond := [Cond.methodLinkNest "TriangularSystems" 29 ⟨"TriangularSystems$Elimination", "<init>", "()V"⟩ "TriangularSystems", Cond.fieldLinkNest "TriangularSystems" 140 "TriangularSystems$Elimination" "rows" "[[J" "TriangularSystems", Cond.fieldLinkNest "TriangularSystems" 68 "TriangularSystems$Elimination" "decided" "I" "TriangularSystems", Cond.methodLinkNest "TriangularSystems" 36 ⟨"TriangularSystems$Lattice", "<init>", "()V"⟩ "TriangularSystems", Cond.fieldLinkNest "TriangularSystems" 153 "TriangularSystems$Lattice" "rows" "[[J" "TriangularSystems", Cond.fieldLinkNest "TriangularSystems" 119 "TriangularSystems$Lattice" "target" "[J" "TriangularSystems", Cond.methodLinkNest "TriangularSystems" 136 ⟨"TriangularSystems$Elimination", "begin", "(II)V"⟩ "TriangularSystems", Cond.methodLinkNest "TriangularSystems" 144 ⟨"TriangularSystems$Elimination", "eliminate", "()V"⟩ "TriangularSystems", Cond.methodLinkNest "TriangularSystems$Elimination" 57 ⟨"TriangularSystems", "commonDivisor", "(JJ)J"⟩ "TriangularSystems", Cond.methodLinkNest "TriangularSystems" 71 ⟨"TriangularSystems$Elimination", "agrees", "()Z"⟩ "TriangularSystems", Cond.methodLinkNest "TriangularSystems" 75 ⟨"TriangularSystems$Elimination", "freeUnknown", "(I)I"⟩ "TriangularSystems", Cond.methodLinkNest "TriangularSystems" 150 ⟨"TriangularSystems$Lattice", "begin", "(I)V"⟩ "TriangularSystems", Cond.methodLinkNest "TriangularSystems" 154 ⟨"TriangularSystems$Lattice", "span", "()V"⟩ "TriangularSystems", Cond.methodLinkNest "TriangularSystems" 105 ⟨"TriangularSystems$Lattice", "isReached", "()Z"⟩ "TriangularSystems", Cond.methodLinkNest "TriangularSystems" 92 ⟨"TriangularSystems$Elimination", "plainPart", "(II)J"⟩ "TriangularSystems", Cond.methodLinkNest "TriangularSystems$Elimination" 64 ⟨"TriangularSystems", "lowestPart", "(JJI)J"⟩ "TriangularSystems", Cond.methodLinkNest "TriangularSystems" 98 ⟨"TriangularSystems$Elimination", "directionPart", "(III)J"⟩ "TriangularSystems", Cond.methodLinkNest "TriangularSystems" 108 ⟨"TriangularSystems$Lattice", "members", "()I"⟩ "TriangularSystems", Cond.methodLinkNest "TriangularSystems" 114 ⟨"TriangularSystems$Lattice", "member", "(II)J"⟩ "TriangularSystems"]
def NW (U : State) : Prop := ∀ w ∈ NWs, va_Nw w U
theorem NW.warm {s U : State} (hW : s.WarmedH U.vm) (h : NW s) : NW U := by
  intro w hw
  have h1 := h w hw
  simp only [NWs, List.mem_cons, List.not_mem_nil, or_false] at hw
  rcases hw with rfl | rfl | rfl | rfl | rfl | rfl | rfl | rfl | rfl | rfl | rfl | rfl | rfl | rfl | rfl | rfl | rfl | rfl | rfl
  · exact va_Nw.warmM hW h1
  · exact va_Nw.warmF hW h1
  · exact va_Nw.warmF hW h1
  · exact va_Nw.warmM hW h1
  · exact va_Nw.warmF hW h1
  · exact va_Nw.warmF hW h1
  · exact va_Nw.warmM hW h1
  · exact va_Nw.warmM hW h1
  · exact va_Nw.warmM hW h1
  · exact va_Nw.warmM hW h1
  · exact va_Nw.warmM hW h1
  · exact va_Nw.warmM hW h1
  · exact va_Nw.warmM hW h1
  · exact va_Nw.warmM hW h1
  · exact va_Nw.warmM hW h1
  · exact va_Nw.warmM hW h1
  · exact va_Nw.warmM hW h1
  · exact va_Nw.warmM hW h1
  · exact va_Nw.warmM hW h1
theorem NW.same {s U : State} (e : s.vm = U.vm) (h : NW s) : NW U := by
  intro w hw
  have h1 := h w hw
  simp only [NWs, List.mem_cons, List.not_mem_nil, or_false] at hw
  rcases hw with rfl | rfl | rfl | rfl | rfl | rfl | rfl | rfl | rfl | rfl | rfl | rfl | rfl | rfl | rfl | rfl | rfl | rfl | rfl <;> exact va_Nw.same rfl e h1
/-- what a method finds: its world, the tables -/
def gP (D : va_G) (cs : Nat → ClassId) (ws : va_W) (sz : Nat) (U : State) : Prop := U.heap.size = sz ∧ va_P D vc ws U.heap ∧ va_K D vc (tyK cs) U ∧ va_D (fun _ => True) ws ∧ NW U
/-- what it leaves -/
def gB {S : Type} (D : va_G) (cs : Nat → ClassId) (A : Nat → Prop) (wf : S → va_W) (u : S) (t : State) : Prop := va_P D vc (wf u) t.heap ∧ va_K D vc (tyK cs) t ∧ va_D A (wf u)
theorem g_blind {av : List Value} {D : va_G} {cs : Nat → ClassId} {ws : va_W} {sz : Nat} : FrameBlind (va_Pc av (gP D cs ws sz)) := fun a U g mk q => by
  obtain ⟨q0, q1, qP, qK, qD, qN⟩ := q
  exact ⟨q0, q1, qP, va_K.moved (u := U) (U := U.calling g mk a) (Vm.Alike.refl U.vm) qK, qD, NW.same (s := U) (U := U.calling g mk a) rfl qN⟩
theorem g_pre {av : List Value} {D : va_G} {cs : Nat → ClassId} {ws : va_W} {s : State} {H : Heap} {A : Nat → Prop} (hP : va_P D vc ws H) (hK : va_K D vc (tyK cs) s) (hD : va_D A ws) (hN : NW s) : ∀ U : State, U.heap = H → s.WarmedH U.vm → va_Pc av (gP D cs ws H.size) av.toArray U :=
  fun U hU hW => ⟨rfl, by rw [hU], by rw [hU]; exact hP, va_K.moved hW.alike hK, hD.weaken (fun _ _ _ _ => trivial), NW.warm hW hN⟩
theorem gi_V {own C : String} {idx maxL : Nat} {y : MethodName} {bytes : ByteArray} {ret : Option FieldType} (hm : Cond.methodLink own idx y ∈ GW) (hi : Cond.instanceMethod y ∈ GW) (hs : Cond.selects C y y ∈ GW) (hini : Cond.initialized C ∈ GW) (hc : Cond.code y bytes maxL ret ∈ GW) : GoodIn GW (wsV own idx C y (Cond.code y bytes maxL ret :: GW)) := by
  intro w hw
  have h9 : w ∈ GW := by
    unfold wsV at hw
    rcases List.mem_append.mp hw with h | h
    · simp only [List.mem_cons, List.not_mem_nil, or_false] at h
      rcases h with rfl | rfl | rfl | rfl
      · exact hm
      · exact hi
      · exact hs
      · exact hini
    · rcases List.mem_cons.mp h with rfl | h
      · exact hc
      · exact h
  exact ⟨h9, gw_good h9⟩
theorem gi_S {own : String} {idx maxL : Nat} {y : MethodName} {bytes : ByteArray} {ret : Option FieldType} (hm : Cond.methodLink own idx y ∈ GW) (hi : Cond.static y ∈ GW) (hini : Cond.initialized y.cls ∈ GW) (hc : Cond.code y bytes maxL ret ∈ GW) : GoodIn GW (va_wsS own idx y (Cond.code y bytes maxL ret :: GW)) := by
  intro w hw
  have h9 : w ∈ GW := by
    unfold va_wsS at hw
    rcases List.mem_append.mp hw with h | h
    · simp only [List.mem_cons, List.not_mem_nil, or_false] at h
      rcases h with rfl | rfl | rfl
      · exact hm
      · exact hi
      · exact hini
    · rcases List.mem_cons.mp h with rfl | h
      · exact hc
      · exact h
  exact ⟨h9, gw_good h9⟩
theorem gi_C {w1 : Cond} (hc : w1 ∈ GW) : GoodIn GW (w1 :: GW) := by
  intro w hw
  have h9 : w ∈ GW := (List.mem_cons.mp hw).elim (fun e => e ▸ hc) id
  exact ⟨h9, gw_good h9⟩
section G7
variable {p : Program} {l : Launch} {e : Env} {R : Room} {s : State} {m : MethodId} {args : Array Value} {below : List Frame} {meth : Method} {c : Code} {H : Heap} {locs : List Loc} {cells slots : Nat} {Q : State → Prop}
variable {pc : Nat} {ls : Array Slot} {rest st0 : List Value} {a : Array Value} {D : va_G} {cs : Nat → ClassId} {A : Nat → Prop} {H0 : Heap} {mc ms : Nat}
theorem g_free {ws : va_W} (hD : va_D A ws) (hS : va_S A H0 H locs) (hA : ∀ q : Nat, H0.size ≤ q → A q) : ∀ q, va_A ws H.size q → A q := by
  intro q h
  rcases h with ⟨k, e, h⟩ | h
  · exact hD.2 k _ h
  · exact hA q (Nat.le_trans hS.1 h)
theorem g_callv {S : Type} {post : S → Prop} {wf : S → va_W} {w0 : va_W} (hr : va_Run p l e R s m args below meth c H locs cells slots mc ms (F0 m pc ls st0) rest (va_Qv post (gB D cs (va_A w0 H.size) wf) (va_A w0 H.size) a) (va_A w0 H.size)) (hD : va_D A w0) (hS : va_S A H0 H locs) (hA : ∀ q : Nat, H0.size ≤ q → A q)
    (kk : ∀ (u : S) (H1 : Heap) (locs1 : List Loc), post u → va_P D vc (wf u) H1 → va_D A (wf u) → va_S A H0 H1 locs1 → W p l e R s m args below meth c H1 locs1 (cells + mc) (slots + ms) Q (F0 m (pc + 3) ls rest)) : W p l e R s m args below meth c H locs cells slots Q (F0 m pc ls st0) :=
  va_callv hr hS (fun q _ h => g_free hD hS hA q h) (g_free hD hS hA) (fun u t H1 locs1 ht hvm hw hB hz hk hS1 => kk u H1 locs1 hw (by rw [← ht]; exact hB.1) (hB.2.2.weaken (fun _ _ _ h => g_free hD hS hA _ h)) hS1)
theorem g_calli {S : Type} {post : Int32 → S → Prop} {wf : S → va_W} {w0 : va_W} (hr : va_Run p l e R s m args below meth c H locs cells slots mc ms (F0 m pc ls st0) rest (va_Qi post (gB D cs (va_A w0 H.size) wf) (va_A w0 H.size) a) (va_A w0 H.size)) (hD : va_D A w0) (hS : va_S A H0 H locs) (hA : ∀ q : Nat, H0.size ≤ q → A q)
    (kk : ∀ (r : Int32) (u : S) (H1 : Heap) (locs1 : List Loc), post r u → va_P D vc (wf u) H1 → va_D A (wf u) → va_S A H0 H1 locs1 → W p l e R s m args below meth c H1 locs1 (cells + mc) (slots + ms) Q (F0 m (pc + 3) ls (.int r :: rest))) : W p l e R s m args below meth c H locs cells slots Q (F0 m pc ls st0) :=
  va_calli hr hS (fun q _ h => g_free hD hS hA q h) (g_free hD hS hA) (fun r u t H1 locs1 ht hvm hw hB hz hk hS1 => kk r u H1 locs1 hw (by rw [← ht]; exact hB.1) (hB.2.2.weaken (fun _ _ _ h => g_free hD hS hA _ h)) hS1)
theorem g_calll {S : Type} {post : Int64 → S → Prop} {wf : S → va_W} {w0 : va_W} (hr : va_Run p l e R s m args below meth c H locs cells slots mc ms (F0 m pc ls st0) rest (va_Ql post (gB D cs (va_A w0 H.size) wf) (va_A w0 H.size) a) (va_A w0 H.size)) (hD : va_D A w0) (hS : va_S A H0 H locs) (hA : ∀ q : Nat, H0.size ≤ q → A q)
    (kk : ∀ (r : Int64) (u : S) (H1 : Heap) (locs1 : List Loc), post r u → va_P D vc (wf u) H1 → va_D A (wf u) → va_S A H0 H1 locs1 → W p l e R s m args below meth c H1 locs1 (cells + mc) (slots + ms) Q (F0 m (pc + 3) ls (.long r :: rest))) : W p l e R s m args below meth c H locs cells slots Q (F0 m pc ls st0) :=
  va_calll hr hS (fun q _ h => g_free hD hS hA q h) (g_free hD hS hA) (fun r u t H1 locs1 ht hvm hw hB hz hk hS1 => kk r u H1 locs1 hw (by rw [← ht]; exact hB.1) (hB.2.2.weaken (fun _ _ _ h => g_free hD hS hA _ h)) hS1)
/-- a method's ends -/
theorem g_vret {S : Type} {post : S → Prop} {wf : S → va_W} {cc : ByteArray} (hx : p.tables.exec = Jvm.exec) (hb : c.code = cc) (hr : meth.sig.returnType = none) (hlocks : meth.locks = false) (u : S) (hu : post u) (hK : va_K D vc (tyK cs) s) (hP : va_P D vc (wf u) H) (hD : va_D A (wf u)) (hS : va_S A s.heap H locs) (hdg : decode cc pc = .ok (.return_, 1)) :
    W p l e R s m args below meth c H locs cells slots (MQ below (va_Qv post (gB D cs A wf) A) args s cells slots A) (F0 m pc ls []) :=
  W.vret hx hb hr (fun t ht hW => ⟨⟨u, rfl, hu, by rw [ht]; exact hP, va_K.moved hW.alike hK, hD⟩, hS.F ht⟩) hS.2.2 hdg
theorem g_iret {S : Type} {post : Int32 → S → Prop} {wf : S → va_W} {cc : ByteArray} {v : Int32} (hx : p.tables.exec = Jvm.exec) (hb : c.code = cc) (hr : meth.sig.returnType = some .int) (hlocks : meth.locks = false) (u : S) (hu : post v u) (hK : va_K D vc (tyK cs) s) (hP : va_P D vc (wf u) H) (hD : va_D A (wf u)) (hS : va_S A s.heap H locs) (hdg : decode cc pc = .ok (.ireturn, 1)) :
    W p l e R s m args below meth c H locs cells slots (MQ below (va_Qi post (gB D cs A wf) A) args s cells slots A) (F0 m pc ls [.int v]) :=
  W.iret hx hb hr (fun t ht hW => ⟨⟨v, u, rfl, hu, by rw [ht]; exact hP, va_K.moved hW.alike hK, hD⟩, hS.F ht⟩) hS.2.2 hdg
theorem g_lret {S : Type} {post : Int64 → S → Prop} {wf : S → va_W} {cc : ByteArray} {v : Int64} (hx : p.tables.exec = Jvm.exec) (hb : c.code = cc) (hr : meth.sig.returnType = some .long) (hlocks : meth.locks = false) (u : S) (hu : post v u) (hK : va_K D vc (tyK cs) s) (hP : va_P D vc (wf u) H) (hD : va_D A (wf u)) (hS : va_S A s.heap H locs) (hdg : decode cc pc = .ok (.lreturn, 1)) :
    W p l e R s m args below meth c H locs cells slots (MQ below (va_Ql post (gB D cs A wf) A) args s cells slots A) (F0 m pc ls [.long v]) :=
  W.lret hx hb hr (fun t ht hW => ⟨⟨v, u, rfl, hu, by rw [ht]; exact hP, va_K.moved hW.alike hK, hD⟩, hS.F ht⟩) hS.2.2 hdg
theorem g_zret {S : Type} {post : Int32 → S → Prop} {wf : S → va_W} {cc : ByteArray} {v : Int32} (hx : p.tables.exec = Jvm.exec) (hb : c.code = cc) (hr : meth.sig.returnType = some .boolean) (hlocks : meth.locks = false) (hn : narrow .boolean (.int v) = .int v) (u : S) (hu : post v u) (hK : va_K D vc (tyK cs) s) (hP : va_P D vc (wf u) H) (hD : va_D A (wf u)) (hS : va_S A s.heap H locs) (hdg : decode cc pc = .ok (.ireturn, 1)) :
    W p l e R s m args below meth c H locs cells slots (MQ below (va_Qi post (gB D cs A wf) A) args s cells slots A) (F0 m pc ls [.int v]) :=
  W.zret hx hb hr hn (fun t ht hW => ⟨⟨v, u, rfl, hu, by rw [ht]; exact hP, va_K.moved hW.alike hK, hD⟩, hS.F ht⟩) hS.2.2 hdg
end G7
