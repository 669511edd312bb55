/-! A call over a part of the world; the rest is kept. -/
section F46
variable {D : va_G} {A : Nat → Prop} {a b c0 : va_W} {H H1 : Heap}
theorem P_l (h : va_P D vc (a ++ b) H) : va_P D vc a H := fun k q hk => h k q (by rw [List.getElem?_append_left (List.getElem?_eq_some_iff.mp hk).1]; exact hk)
theorem P_r (h : va_P D vc (a ++ b) H) : va_P D vc b H := fun k q hk => h (a.length + k) q (by rw [List.getElem?_append_right (by omega), Nat.add_sub_cancel_left]; exact hk)
theorem D_l (h : va_D A (a ++ b)) : va_D A a := ⟨fun i j p q hi hj e => h.1 i j p q (by rw [List.getElem?_append_left (List.getElem?_eq_some_iff.mp hi).1]; exact hi) (by rw [List.getElem?_append_left (List.getElem?_eq_some_iff.mp hj).1]; exact hj) e, fun k q hk => h.2 k q (by rw [List.getElem?_append_left (List.getElem?_eq_some_iff.mp hk).1]; exact hk)⟩
theorem D_r (h : va_D A (a ++ b)) : va_D A b := ⟨fun i j p q hi hj e => by
    have h1 := h.1 (a.length + i) (a.length + j) p q (by rw [List.getElem?_append_right (by omega), Nat.add_sub_cancel_left]; exact hi) (by rw [List.getElem?_append_right (by omega), Nat.add_sub_cancel_left]; exact hj) e
    omega, fun k q hk => h.2 (a.length + k) q (by rw [List.getElem?_append_right (by omega), Nat.add_sub_cancel_left]; exact hk)⟩
theorem D_x (h : va_D A (a ++ b)) {i j : Nat} {p q : Nat × va_E} (hi : a[i]? = some p) (hj : b[j]? = some q) : p.1 ≠ q.1 := fun e => by
  have h1 := h.1 i (a.length + j) p q (by rw [List.getElem?_append_left (List.getElem?_eq_some_iff.mp hi).1]; exact hi) (by rw [List.getElem?_append_right (by omega), Nat.add_sub_cancel_left]; exact hj) e
  have h2 := (List.getElem?_eq_some_iff.mp hi).1
  omega
theorem P_swap (h : va_P D vc (a ++ b) H) : va_P D vc (b ++ a) H := (P_r h).app (P_l h)
theorem D_swap (h : va_D A (a ++ b)) : va_D A (b ++ a) := va_D.app (D_r h) (D_l h) (fun i j p q hi hj e => D_x h hj hi e.symm)
theorem D_ad {ws ws' : va_W} (e : ws'.map (fun x => x.1) = ws.map (fun x => x.1)) (h : va_D A ws) : va_D A ws' := by
  have g : ∀ (k : Nat) (q : Nat × va_E), ws'[k]? = some q → ∃ q' : Nat × va_E, ws[k]? = some q' ∧ q'.1 = q.1 := fun k q hk => by
    have h1 : (ws'.map (fun x => x.1))[k]? = some q.1 := by rw [List.getElem?_map, hk]; rfl
    rw [e, List.getElem?_map] at h1
    obtain ⟨q', h2, h3⟩ := Option.map_eq_some_iff.mp h1
    exact ⟨q', h2, h3⟩
  refine ⟨fun i j p q hi hj e9 => ?_, fun k q hk => ?_⟩
  · obtain ⟨p', h1, h2⟩ := g i p hi
    obtain ⟨q', h3, h4⟩ := g j q hj
    exact h.1 i j p' q' h1 h3 (by rw [h2, h4]; exact e9)
  · obtain ⟨q', h1, h2⟩ := g k q hk
    rw [← h2]
    exact h.2 k q' h1
theorem fr_join {w0 w1 r : va_W} (hP : va_P D vc (w0 ++ r) H) (hD : va_D A (w0 ++ r)) (hk : ∀ q : Nat, q < H.size → ¬ va_A w0 H.size q → H1[q]? = H[q]?) (hP1 : va_P D vc w1 H1) (ha : w1.map (fun x => x.1) = w0.map (fun x => x.1)) : va_P D vc (w1 ++ r) H1 ∧ va_D A (w1 ++ r) := by
  refine ⟨hP1.app ((P_r hP).kept (fun k q hq => hk q.1 ((P_r hP) k q hq).lt ?_)), D_ad (by rw [List.map_append, List.map_append, ha]) hD⟩
  rintro (⟨j, e, hj⟩ | h)
  · exact D_x hD hj hq rfl
  · exact absurd ((P_r hP) k q hq).lt (by omega)
theorem h_at {n : Nat} {x : Nat × va_E} (h : a.length = n) : (a ++ [x])[n]? = some x := by
  rw [List.getElem?_append_right (by omega), h, Nat.sub_self]
  rfl
theorem h_set {n : Nat} {x y : Nat × va_E} (h : a.length = n) : (a ++ [x]).set n y = a ++ [y] := by
  subst h
  rw [List.set_append_right _ _ (Nat.le_refl _), Nat.sub_self]
  rfl
end F46
theorem wm_ads {n : Nat} {ad : Nat → Nat} {cf cg : Nat → va_E} : (wm n ad cf).map (fun x => x.1) = (wm n ad cg).map (fun x => x.1) := by
  unfold wm
  rw [List.map_map, List.map_map]
  rfl
section G46
variable {p : Program} {l : Launch} {e : Env} {R : Room} {s : State} {m : MethodId} {args : Array Value} {below : List Frame} {meth : Method} {c : Code} {H : Heap} {locs : List Loc} {cells slots : Nat} {Q : State → Prop}
variable {pc : Nat} {ls : Array Slot} {rest st0 : List Value} {a : Array Value} {D : va_G} {cs : Nat → ClassId} {A : Nat → Prop} {H0 : Heap} {mc ms : Nat}
theorem f_callv {S : Type} {post : S → Prop} {wf : S → va_W} {w0 w9 : va_W} (hr : va_Run p l e R s m args below meth c H locs cells slots mc ms (F0 m pc ls st0) rest (va_Qv post (gB D cs (va_A w0 H.size) wf) (va_A w0 H.size) a) (va_A w0 H.size)) (hP : va_P D vc (w0 ++ w9) H) (hD : va_D A (w0 ++ w9)) (hS : va_S A H0 H locs) (hA : ∀ q : Nat, H0.size ≤ q → A q) (ha : ∀ u, (wf u).map (fun x => x.1) = w0.map (fun x => x.1))
    (kk : ∀ (u : S) (H1 : Heap) (locs1 : List Loc), post u → va_P D vc (wf u ++ w9) H1 → va_D A (wf u ++ w9) → va_S A H0 H1 locs1 → W p l e R s m args below meth c H1 locs1 (cells + mc) (slots + ms) Q (F0 m (pc + 3) ls rest)) : W p l e R s m args below meth c H locs cells slots Q (F0 m pc ls st0) :=
  va_callv hr hS (fun q _ h => g_free (D_l hD) hS hA q h) (g_free (D_l hD) hS hA) (fun u t H1 locs1 ht hvm hw hB hz hk hS1 => by
    have hj := fr_join hP hD hk (by rw [← ht]; exact hB.1) (ha u)
    exact kk u H1 locs1 hw hj.1 hj.2 hS1)
theorem f_calli {S : Type} {post : Int32 → S → Prop} {wf : S → va_W} {w0 w9 : va_W} (hr : va_Run p l e R s m args below meth c H locs cells slots mc ms (F0 m pc ls st0) rest (va_Qi post (gB D cs (va_A w0 H.size) wf) (va_A w0 H.size) a) (va_A w0 H.size)) (hP : va_P D vc (w0 ++ w9) H) (hD : va_D A (w0 ++ w9)) (hS : va_S A H0 H locs) (hA : ∀ q : Nat, H0.size ≤ q → A q) (ha : ∀ u, (wf u).map (fun x => x.1) = w0.map (fun x => x.1))
    (kk : ∀ (r : Int32) (u : S) (H1 : Heap) (locs1 : List Loc), post r u → va_P D vc (wf u ++ w9) H1 → va_D A (wf u ++ w9) → va_S A H0 H1 locs1 → W p l e R s m args below meth c H1 locs1 (cells + mc) (slots + ms) Q (F0 m (pc + 3) ls (.int r :: rest))) : W p l e R s m args below meth c H locs cells slots Q (F0 m pc ls st0) :=
  va_calli hr hS (fun q _ h => g_free (D_l hD) hS hA q h) (g_free (D_l hD) hS hA) (fun r u t H1 locs1 ht hvm hw hB hz hk hS1 => by
    have hj := fr_join hP hD hk (by rw [← ht]; exact hB.1) (ha u)
    exact kk r u H1 locs1 hw hj.1 hj.2 hS1)
theorem f_calll {S : Type} {post : Int64 → S → Prop} {wf : S → va_W} {w0 w9 : va_W} (hr : va_Run p l e R s m args below meth c H locs cells slots mc ms (F0 m pc ls st0) rest (va_Ql post (gB D cs (va_A w0 H.size) wf) (va_A w0 H.size) a) (va_A w0 H.size)) (hP : va_P D vc (w0 ++ w9) H) (hD : va_D A (w0 ++ w9)) (hS : va_S A H0 H locs) (hA : ∀ q : Nat, H0.size ≤ q → A q) (ha : ∀ u, (wf u).map (fun x => x.1) = w0.map (fun x => x.1))
    (kk : ∀ (r : Int64) (u : S) (H1 : Heap) (locs1 : List Loc), post r u → va_P D vc (wf u ++ w9) H1 → va_D A (wf u ++ w9) → va_S A H0 H1 locs1 → W p l e R s m args below meth c H1 locs1 (cells + mc) (slots + ms) Q (F0 m (pc + 3) ls (.long r :: rest))) : W p l e R s m args below meth c H locs cells slots Q (F0 m pc ls st0) :=
  va_calll hr hS (fun q _ h => g_free (D_l hD) hS hA q h) (g_free (D_l hD) hS hA) (fun r u t H1 locs1 ht hvm hw hB hz hk hS1 => by
    have hj := fr_join hP hD hk (by rw [← ht]; exact hB.1) (ha u)
    exact kk r u H1 locs1 hw hj.1 hj.2 hS1)
/-- a call that may throw -/
theorem x_calli {S : Type} {post : Int32 → S → Prop} {px : String × TS → Prop} {wf : S → va_W} {wx : TS → va_W} {w0 w9 : va_W} (hr : vx_Run p l e R s m args below meth c H locs cells slots mc ms (F0 m pc ls st0) rest (va_Qi post (gB D cs (va_A w0 H.size) wf) (va_A w0 H.size) a) (vx_X px (xB D cs (va_A w0 H.size) wx) (va_A w0 H.size)) (va_A w0 H.size)) (hP : va_P D vc (w0 ++ w9) H) (hD : va_D A (w0 ++ w9)) (hS : va_S A H0 H locs) (hA : ∀ q : Nat, H0.size ≤ q → A q) (ha : ∀ u, (wf u).map (fun x => x.1) = w0.map (fun x => x.1)) (hax : ∀ u, (wx u).map (fun x => x.1) = w0.map (fun x => x.1))
    (kx : ∀ (ce : Cell) (q9 : Addr) (u : String × TS) (H1 : Heap) (locs1 : List Loc), px u → va_P D vc (wx u.2 ++ w9) H1 → va_D A (wx u.2 ++ w9) → va_S A H0 H1 locs1 → H1[q9]? = some ce → ce.vm = .none → s.vm.findClass u.1 = some ce.cls → vx_W p l e R s m args below meth c H1 locs1 (cells + mc) (slots + ms) Q (F0 m pc ls rest) q9)
    (kk : ∀ (r : Int32) (u : S) (H1 : Heap) (locs1 : List Loc), post r u → va_P D vc (wf u ++ w9) H1 → va_D A (wf u ++ w9) → va_S A H0 H1 locs1 → W p l e R s m args below meth c H1 locs1 (cells + mc) (slots + ms) Q (F0 m (pc + 3) ls (.int r :: rest))) : W p l e R s m args below meth c H locs cells slots Q (F0 m pc ls st0) :=
  vx_calli hr hS (fun q _ h => g_free (D_l hD) hS hA q h) (g_free (D_l hD) hS hA) (fun q _ h => g_free (D_l hD) hS hA q h) (fun E ce q9 u t H1 locs1 ht hvm hw hB hz hk hS1 h1 h2 h3 => by
    obtain ⟨rfl, hB1⟩ := hB
    have hj := fr_join hP hD hk (by rw [← ht]; exact hB1.1) (hax u.2)
    exact kx ce q9 u H1 locs1 hw hj.1 hj.2 hS1 h1 h2 h3) (fun r u t H1 locs1 ht hvm hw hB hz hk hS1 => by
    have hj := fr_join hP hD hk (by rw [← ht]; exact hB.1) (ha u)
    exact kk r u H1 locs1 hw hj.1 hj.2 hS1)
theorem x_calll {S : Type} {post : Int64 → S → Prop} {px : String × TS → Prop} {wf : S → va_W} {wx : TS → va_W} {w0 w9 : va_W} (hr : vx_Run p l e R s m args below meth c H locs cells slots mc ms (F0 m pc ls st0) rest (va_Ql post (gB D cs (va_A w0 H.size) wf) (va_A w0 H.size) a) (vx_X px (xB D cs (va_A w0 H.size) wx) (va_A w0 H.size)) (va_A w0 H.size)) (hP : va_P D vc (w0 ++ w9) H) (hD : va_D A (w0 ++ w9)) (hS : va_S A H0 H locs) (hA : ∀ q : Nat, H0.size ≤ q → A q) (ha : ∀ u, (wf u).map (fun x => x.1) = w0.map (fun x => x.1)) (hax : ∀ u, (wx u).map (fun x => x.1) = w0.map (fun x => x.1))
    (kx : ∀ (ce : Cell) (q9 : Addr) (u : String × TS) (H1 : Heap) (locs1 : List Loc), px u → va_P D vc (wx u.2 ++ w9) H1 → va_D A (wx u.2 ++ w9) → va_S A H0 H1 locs1 → H1[q9]? = some ce → ce.vm = .none → s.vm.findClass u.1 = some ce.cls → vx_W p l e R s m args below meth c H1 locs1 (cells + mc) (slots + ms) Q (F0 m pc ls rest) q9)
    (kk : ∀ (r : Int64) (u : S) (H1 : Heap) (locs1 : List Loc), post r u → va_P D vc (wf u ++ w9) H1 → va_D A (wf u ++ w9) → va_S A H0 H1 locs1 → W p l e R s m args below meth c H1 locs1 (cells + mc) (slots + ms) Q (F0 m (pc + 3) ls (.long r :: rest))) : W p l e R s m args below meth c H locs cells slots Q (F0 m pc ls st0) :=
  vx_calll hr hS (fun q _ h => g_free (D_l hD) hS hA q h) (g_free (D_l hD) hS hA) (fun q _ h => g_free (D_l hD) hS hA q h) (fun E ce q9 u t H1 locs1 ht hvm hw hB hz hk hS1 h1 h2 h3 => by
    obtain ⟨rfl, hB1⟩ := hB
    have hj := fr_join hP hD hk (by rw [← ht]; exact hB1.1) (hax u.2)
    exact kx ce q9 u H1 locs1 hw hj.1 hj.2 hS1 h1 h2 h3) (fun r u t H1 locs1 ht hvm hw hB hz hk hS1 => by
    have hj := fr_join hP hD hk (by rw [← ht]; exact hB.1) (ha u)
    exact kk r u H1 locs1 hw hj.1 hj.2 hS1)
end G46
/-- what a law's helper finds, leaves: the class's world and the place for answers -/
abbrev wH (cs : Nat → ClassId) (ad : Nat → Nat) (o : Nat) (w : TS × (Nat → Int64)) : va_W := wTs cs ad w.1 ++ [(o, .inl (cs 1, 1, .inr (.inl w.2)))]
theorem wH_ads {cs : Nat → ClassId} {ad : Nat → Nat} {o : Nat} {w w' : TS × (Nat → Int64)} : (wH cs ad o w).map (fun x => x.1) = (wH cs ad o w').map (fun x => x.1) := by
  rw [List.map_append, List.map_append]
  exact congrArg (· ++ [o]) wm_ads
theorem wT_len {cs : Nat → ClassId} {ad : Nat → Nat} {u : TS} : (wTs cs ad u).length = 22 := wm_len
def XN (U : State) : Prop := va_Nc xIAE xIOB U ∧ va_Nc xISE xIOB U ∧ va_Nc xIAE xISE U
theorem XN.moved {u U : State} (hvm : u.vm.Alike U.vm) (h : XN u) : XN U := ⟨va_Nc.moved hvm h.1, va_Nc.moved hvm h.2.1, va_Nc.moved hvm h.2.2⟩
def gH (D : va_G) (cs : Nat → ClassId) (ws : va_W) (sz : Nat) (sa : Nat → Nat) (U : State) : Prop := gX D cs ws sz sa U ∧ XN U
theorem gH_blind {av : List Value} {D : va_G} {cs : Nat → ClassId} {ws : va_W} {sz : Nat} {sa : Nat → Nat} : FrameBlind (va_Pc av (gH D cs ws sz sa)) := fun a U g mk q => by
  obtain ⟨q0, ⟨⟨q1, qP, qK, qD, qN⟩, qX⟩, q9⟩ := q
  exact ⟨q0, ⟨⟨q1, qP, va_K.moved (u := U) (U := U.calling g mk a) (Vm.Alike.refl U.vm) qK, qD, NW.same (s := U) (U := U.calling g mk a) rfl qN⟩, XW.same (s := U) (U := U.calling g mk a) rfl qX⟩, XN.moved (u := U) (U := U.calling g mk a) (Vm.Alike.refl U.vm) q9⟩
theorem gH_pre {av : List Value} {D : va_G} {cs : Nat → ClassId} {ws : va_W} {s : State} {H H0 : Heap} {A : Nat → Prop} {sa : Nat → Nat} {locs : List Loc} (hP : va_P D vc ws H) (hK : va_K D vc (tyK cs) s) (hD : va_D A ws) (hN : NW s) (hS : va_S A H0 H locs) (hA : ∀ q : Nat, H0.size ≤ q → A q) (hX : XW sa A s H0) (hXN : XN s) : ∀ U : State, U.heap = H → s.WarmedH U.vm → va_Pc av (gH D cs ws H.size sa) av.toArray U :=
  fun U hU hW => ⟨rfl, (gX_pre (av := av) hP hK hD hN hS hA hX U hU hW).2, XN.moved hW.alike hXN⟩
/-- what a helper tells: 0 and the answer, or the throw's number -/
def hPost (k : Nat × Int64 × TS) (r : Int32) (w : TS × (Nat → Int64)) : Prop := r = nI k.1 ∧ w.1 = k.2.2 ∧ (k.1 = 0 → w.2 0 = k.2.1)
