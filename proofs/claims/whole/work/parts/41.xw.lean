/-! What a throw needs; a throwing method's ends. -/
def XWs : List Cond := [Cond.declares ⟨"java/lang/RuntimeException", "<init>", "(Ljava/lang/String;)V"⟩, Cond.declares ⟨"java/lang/Exception", "<init>", "(Ljava/lang/String;)V"⟩, Cond.declares ⟨"java/lang/Throwable", "<init>", "(Ljava/lang/String;)V"⟩, Cond.castable "java/lang/IllegalStateException" "java/lang/IllegalStateException", Cond.castable "java/lang/IndexOutOfBoundsException" "java/lang/IndexOutOfBoundsException", Cond.castable "java/lang/IllegalArgumentException" "java/lang/IllegalArgumentException"]
def SRs : List (Nat × String) := [(46, "there are 3 equations"), (57, "no such equation or unknown"), (62, "the number isn't -9 .. 9"), (83, "no such unknown"), (85, "there is no solution"), (90, "the part isn't 0 or 1"), (96, "no such direction or unknown"), (112, "no such member of the base or unknown"), (117, "there is no whole solution"), (126, "most isn't 0 .. 12")]
abbrev xISE : String := "java/lang/IllegalStateException"
abbrev xIOB : String := "java/lang/IndexOutOfBoundsException"
abbrev xIAE : String := "java/lang/IllegalArgumentException"
abbrev xNs : List String := ["java/lang/RuntimeException", "java/lang/Exception"]
def XW (sa : Nat → Nat) (A : Nat → Prop) (U : State) (H : Heap) : Prop := (∀ w ∈ XWs, va_Nw w U) ∧ (∀ q ∈ SRs, vk_R RX2 q.1 q.2 (sa q.1) U) ∧ vx_Zq Bundle.tN "UNASSIGNED_STACK" Bundle.steD A U H ∧ vx_Zq Bundle.tN "SUPPRESSED_SENTINEL" Bundle.listD A U H
theorem XW.warm {sa : Nat → Nat} {A : Nat → Prop} {s U : State} {H : Heap} (hW : s.WarmedH U.vm) (h : XW sa A s H) : XW sa A U H := by
  refine ⟨fun w hw => ?_, fun q hq => vk_R.warm hW (h.2.1 q hq), vx_Zq.moved hW.alike h.2.2.1, vx_Zq.moved hW.alike h.2.2.2⟩
  have h1 := h.1 w hw
  simp only [XWs, List.mem_cons, List.not_mem_nil, or_false] at hw
  rcases hw with rfl | rfl | rfl | rfl | rfl | rfl
  · exact va_Nw.warmD hW h1
  · exact va_Nw.warmD hW h1
  · exact va_Nw.warmD hW h1
  · exact va_Nw.warmC hW h1
  · exact va_Nw.warmC hW h1
  · exact va_Nw.warmC hW h1
theorem XW.same {sa : Nat → Nat} {A : Nat → Prop} {s U : State} {H : Heap} (e : s.vm = U.vm) (h : XW sa A s H) : XW sa A U H := by
  refine ⟨fun w hw => ?_, fun q hq => vk_R.same e.symm (h.2.1 q hq), vx_Zq.moved (e ▸ Vm.Alike.refl s.vm) h.2.2.1, vx_Zq.moved (e ▸ Vm.Alike.refl s.vm) h.2.2.2⟩
  have h1 := h.1 w hw
  simp only [XWs, List.mem_cons, List.not_mem_nil, or_false] at hw
  rcases hw with rfl | rfl | rfl | rfl | rfl | rfl <;> exact va_Nw.same rfl e h1
theorem XW.kept {sa : Nat → Nat} {A : Nat → Prop} {U : State} {H H1 : Heap} (h : XW sa A U H) (hq : ∀ a : Nat, a < H.size → ¬ A a → H1[a]? = H[a]?) : XW sa A U H1 := ⟨h.1, h.2.1, h.2.2.1.kept hq, h.2.2.2.kept hq⟩
theorem XW.narrow {sa : Nat → Nat} {A B : Nat → Prop} {U : State} {H : Heap} (h : XW sa A U H) (hAB : ∀ q, B q → A q) : XW sa B U H := ⟨h.1, h.2.1, h.2.2.1.narrow hAB, h.2.2.2.narrow hAB⟩
/-- what a throwing method finds -/
def gX (D : va_G) (cs : Nat → ClassId) (ws : va_W) (sz : Nat) (sa : Nat → Nat) (U : State) : Prop := gP D cs ws sz U ∧ XW sa (va_A ws sz) U U.heap
theorem gX_blind {av : List Value} {D : va_G} {cs : Nat → ClassId} {ws : va_W} {sz : Nat} {sa : Nat → Nat} : FrameBlind (va_Pc av (gX D cs ws sz sa)) := fun a U g mk q => by
  obtain ⟨q0, ⟨q1, qP, qK, qD, qN⟩, qX⟩ := q
  exact ⟨q0, ⟨q1, qP, va_K.moved (u := U) (U := U.calling g mk a) (Vm.Alike.refl U.vm) qK, qD, NW.same (s := U) (U := U.calling g mk a) rfl qN⟩, XW.same (s := U) (U := U.calling g mk a) rfl qX⟩
theorem gX_pre {av : List Value} {D : va_G} {cs : Nat → ClassId} {ws : va_W} {s : State} {H H0 : Heap} {A : Nat → Prop} {sa : Nat → Nat} {locs : List Loc} (hP : va_P D vc ws H) (hK : va_K D vc (tyK cs) s) (hD : va_D A ws) (hN : NW s) (hS : va_S A H0 H locs) (hA : ∀ q : Nat, H0.size ≤ q → A q) (hX : XW sa A s H0) : ∀ U : State, U.heap = H → s.WarmedH U.vm → va_Pc av (gX D cs ws H.size sa) av.toArray U :=
  fun U hU hW => ⟨rfl, ⟨by rw [hU], by rw [hU]; exact hP, va_K.moved hW.alike hK, hD.weaken (fun _ _ _ _ => trivial), NW.warm hW hN⟩, by rw [hU]; exact XW.warm hW ((hX.kept hS.2.1).narrow (g_free hD hS hA))⟩
/-- how it leaves by a throw -/
def xB (D : va_G) (cs : Nat → ClassId) (A : Nat → Prop) (wf : TS → va_W) : String → String × TS → State → Prop := fun E u t => E = u.1 ∧ gB D cs A wf u.2 t
theorem xa_ISE : ∀ w ∈ (vx_atS RX2 48 xISE xNs).filter goodWord, w ∈ GW := by decide +kernel
theorem xa_IOB : ∀ w ∈ (vx_atS RX2 59 xIOB xNs).filter goodWord, w ∈ GW := by decide +kernel
theorem xa_IAE : ∀ w ∈ (vx_atS RX2 64 xIAE xNs).filter goodWord, w ∈ GW := by decide +kernel
theorem xb_ISE : ∀ w ∈ (vx_atS RX2 48 xISE xNs).filter (fun w => !goodWord w), w ∈ XWs := by decide +kernel
theorem xb_IOB : ∀ w ∈ (vx_atS RX2 59 xIOB xNs).filter (fun w => !goodWord w), w ∈ XWs := by decide +kernel
theorem xb_IAE : ∀ w ∈ (vx_atS RX2 64 xIAE xNs).filter (fun w => !goodWord w), w ∈ XWs := by decide +kernel
theorem xc_ISE : ∀ w ∈ Cond.classLink RX2 44 xISE :: Cond.initialized xISE :: vx_atS RX2 48 xISE xNs, vx_ot w = true := by decide +kernel
theorem xc_IOB : ∀ w ∈ Cond.classLink RX2 55 xIOB :: Cond.initialized xIOB :: vx_atS RX2 59 xIOB xNs, vx_ot w = true := by decide +kernel
theorem xc_IAE : ∀ w ∈ Cond.classLink RX2 60 xIAE :: Cond.initialized xIAE :: vx_atS RX2 64 xIAE xNs, vx_ot w = true := by decide +kernel
theorem XWs_on : ∀ w ∈ XWs, w.onTables = true := by decide +kernel
section X41
variable {p : Program} {l : Launch} {e : Env} {R : Room} {s : State} {m : MethodId} {args : Array Value} {below : List Frame} {meth : Method} {c : Code} {H : Heap} {locs : List Loc} {cells slots : Nat} {Q : State → Prop}
variable {cc : ByteArray} {pc : Nat} {ls : Array Slot} {rest : List Value} {D : va_G} {cs : Nat → ClassId} {A : Nat → Prop} {mc ms : Nat} {sa : Nat → Nat}
theorem w_widen {g : JFrame} {k n : Nat} (h1 : cells ≤ k) (h2 : slots ≤ n) (kk : W p l e R s m args below meth c H locs k n Q g) : W p l e R s m args below meth c H locs cells slots Q g := fun T hT X => kk T hT (stand_widen X h1 h2)
/-- throw new cls(text) -/
theorem x_throw {cls text : String} {ik is ic : Nat} {Qc : Array Value → State → Outcome → State → Prop} {px : String × TS → Prop} {wf : TS → va_W} (hx : p.tables.exec = Jvm.exec) (hb : c.code = cc) (hlt : l.stackTraces = false) (hml : ls.size = c.maxLocals) (hown : s.vm.findClass RX2 = some m.cls) (hts : ∀ w ∈ GW, w.before args s = true) (hlocks : meth.locks = false) (htab : ∀ x ∈ c.exceptionTable.toList, False) (hK : va_K D vc (tyK cs) s) (hX : XW sa A s s.heap)
    (hcls : Bundle.fit cls = true) (hk : Cond.classLink RX2 ik cls ∈ GW) (hini : Cond.initialized cls ∈ GW) (hstr : (is, text) ∈ SRs) (ha : ∀ w ∈ (vx_atS RX2 ic cls xNs).filter goodWord, w ∈ GW) (hb2 : ∀ w ∈ (vx_atS RX2 ic cls xNs).filter (fun w => !goodWord w), w ∈ XWs) (hc2 : ∀ w ∈ Cond.classLink RX2 ik cls :: Cond.initialized cls :: vx_atS RX2 ic cls xNs, vx_ot w = true)
    (d0 : decode cc pc = .ok (.new ik, 3)) (d3 : decode cc (pc + 3) = .ok (.dup, 1)) (d4 : decode cc (pc + 4) = .ok (.ldc is, 2)) (d6 : decode cc (pc + 6) = .ok (.invokespecial ic, 3)) (d9 : decode cc (pc + 9) = .ok (.athrow, 1))
    (hRf : 5 < R.frames) (hRl : 82 ≤ R.locals) (hRc : 1 ≤ R.cells) (hRs : 6 ≤ R.slots) (u : TS) (hu : px (cls, u)) (hP : va_P D vc (wf u) H) (hD : va_D A (wf u)) (hS : va_S A s.heap H locs) :
    W p l e R s m args below meth c H locs 0 0 (vx_MQ below Qc (vx_X px (xB D cs A wf) A) args s 1 6 A) (F0 m pc ls []) := by
  refine vx_throwS (cc := cc) (own := RX2) (cls := cls) (text := text) (names := xNs) (ik := ik) (is := is) (ic := ic) (sa := sa is) (A := A) hx hb hlt hown hcls (by decide) (hts _ hk) (hts _ hini) (hX.2.1 _ hstr) (vx_hat (fun w h => hts w (ha w h)) hb2 (fun w h => va_Nw.use (XWs_on w h) (hX.1 w h))) hc2 hX.2.2.1 hX.2.2.2 hS hml d0 d3 d4 d6 d9 (fun x h => (htab x h).elim) hRf hRl (by omega) (by omega) hlocks ?_ hS.2.2 (Nat.le_refl _) (Nat.le_refl _)
  intro t hvm hz hq
  refine ⟨(cls, u), hu, ⟨rfl, hP.kept (fun k q hk => hq q.1 (hP k q hk).lt), va_K.moved hvm hK, hD⟩, ?_⟩
  exact ⟨Nat.le_trans hS.1 hz, fun q h1 h2 => by rw [hq q (Nat.lt_of_lt_of_le h1 hS.1)]; exact hS.2.1 q h1 h2⟩
end X41
