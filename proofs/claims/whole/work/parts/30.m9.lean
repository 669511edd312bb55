theorem fo_row {β : Type} {f : Nat → (Nat → Nat → β) → Nat → Nat → β} {j : Nat} (h : ∀ i X, f i X j = X j) : ∀ (n i : Nat) (X : Nat → Nat → β), fo f n i X j = X j
  | 0, _, _ => rfl
  | n + 1, i, X => by rw [fo_s, fo_row h n, h]
theorem ssq_12 {k j : Nat} (h5 : j ≠ 5) (h7 : j ≠ 7) (h8 : j ≠ 8) {AL : Nat → Nat → Int64} : ssq k AL j = AL j := by
  unfold ssq
  refine fo_row (fun c X => ?_) k 0 AL
  unfold ss1 ssB
  rw [fo_row (fun r Y => up2_row h5)]
  rw [up2_row h7]
  unfold ssA
  exact fo_row (fun r Y => by rw [up2_row h5, up2_row h8]) k 0 X
theorem ft2_12 {n rk j : Nat} (h5 : j ≠ 5) (h11 : j ≠ 11) {AN : Nat → Nat → Nat} {AI : Nat → Int32} : ∀ (n u : Nat) (x : Nat × (Nat → Nat → Int64)), (fo (ft2s rk AN AI) n u x).2 j = x.2 j
  | 0, _, _ => rfl
  | n + 1, u, x => by
    rw [fo_s, ft2_12 (n := n) h5 h11 n]
    unfold ft2s
    split
    · rfl
    · show up2 _ 11 u 0 j = _
      rw [up2_row h11]
      exact fo_row (fun r Y => up2_row h5) rk 0 x.2
theorem ft5_12 {al : Int64} {j : Nat} (h11 : j ≠ 11) : ∀ (n u k : Nat) (X : Nat → Nat → Int64), (ft5 al n u k X).2 j = X j
  | 0, _, _, _ => rfl
  | n + 1, u, k, X => by
    unfold ft5
    split
    · exact ft5_12 h11 n _ _ _
    · split
      · rw [ft5_12 h11 n, up2_row h11]
      · rfl
theorem ftR_12 {n rk : Nat} {AN : Nat → Nat → Nat} {AI : Nat → Int32} {x y z : Int64} {AL : Nat → Nat → Int64} {j : Nat} (h5 : j ≠ 5) (h6 : j ≠ 6) (h7 : j ≠ 7) (h8 : j ≠ 8) (h11 : j ≠ 11) : (ftR n rk AN AI x y z AL).2 j = AL j := by
  unfold ftR
  rw [ft5_12 h11, ssq_12 h5 h7 h8]
  unfold ftQ ft3
  rw [fo_row (fun r X => by rw [fo_row (fun u Y => up2_row h6), up2_row h6])]
  unfold ft2
  rw [ft2_12 (n := n) h5 h11]
  unfold ft1
  show up2 _ 11 2 z j = _
  rw [up2_row h11, up2_row h11, up2_row h11]
def mof (sz : Nat) (AN : Nat → Nat → Nat) (X : Nat → Nat → Int64) : Nat → Nat → Int64 := fo (fun u X => fo (fun k Y => if AN 10 k = u then up2 Y 12 u (Y 9 (3 * k + u)) else Y) sz 0 (up2 X 12 u 0)) 3 0 X
def cmx (m : Nat) : Nat := if 0 < m then m else 1
theorem cmx_1 {m : Nat} (hm : m < 2 ^ 31) (h : ¬ (0 : Int64) < lN m) : lN (cmx m) = 1 := by
  have h0 : ¬ 0 < m := fun q => h ((lN_lt (a := 0) (by decide) hm).mpr q)
  unfold cmx
  rw [if_neg h0]
  rfl
theorem cmx_2 {m : Nat} (hm : m < 2 ^ 31) (h : (0 : Int64) < lN m) : lN (cmx m) = lN m := by
  have h0 : 0 < m := (lN_lt (a := 0) (by decide) hm).mp h
  unfold cmx
  rw [if_pos h0]
theorem cmx_lt {m : Nat} (hm : m < 2 ^ 31) : cmx m < 2 ^ 31 := by
  unfold cmx
  split
  · exact hm
  · decide
/-- the tries in their order: whether one fits, and the tables behind it -/
def fwZ (n rk : Nat) (AN : Nat → Nat → Nat) (AI : Nat → Int32) (x y : Nat) : Nat → Nat → (Nat → Nat → Int64) → Bool × (Nat → Nat → Int64)
  | 0, _, X => (false, X)
  | c + 1, z, X => if (ftR n rk AN AI (lN x) (lN y) (lN z) X).1 then (true, (ftR n rk AN AI (lN x) (lN y) (lN z) X).2) else fwZ n rk AN AI x y c (z + 1) (ftR n rk AN AI (lN x) (lN y) (lN z) X).2
def fwY (n rk : Nat) (AN : Nat → Nat → Nat) (AI : Nat → Int32) (x cz : Nat) : Nat → Nat → (Nat → Nat → Int64) → Bool × (Nat → Nat → Int64)
  | 0, _, X => (false, X)
  | c + 1, y, X => if (fwZ n rk AN AI x y cz 0 X).1 then (true, (fwZ n rk AN AI x y cz 0 X).2) else fwY n rk AN AI x cz c (y + 1) (fwZ n rk AN AI x y cz 0 X).2
def fwX (n rk : Nat) (AN : Nat → Nat → Nat) (AI : Nat → Int32) (cy cz : Nat) : Nat → Nat → (Nat → Nat → Int64) → Bool × (Nat → Nat → Int64)
  | 0, _, X => (false, X)
  | c + 1, x, X => if (fwY n rk AN AI x cz cy 0 X).1 then (true, (fwY n rk AN AI x cz cy 0 X).2) else fwX n rk AN AI cy cz c (x + 1) (fwY n rk AN AI x cz cy 0 X).2
theorem fwZ_12 {n rk : Nat} {AN : Nat → Nat → Nat} {AI : Nat → Int32} {x y : Nat} : ∀ (c z : Nat) (X : Nat → Nat → Int64), (fwZ n rk AN AI x y c z X).2 12 = X 12
  | 0, _, _ => rfl
  | c + 1, z, X => by
    unfold fwZ
    split
    · exact ftR_12 (by decide) (by decide) (by decide) (by decide) (by decide)
    · rw [fwZ_12 c]; exact ftR_12 (by decide) (by decide) (by decide) (by decide) (by decide)
theorem fwY_12 {n rk : Nat} {AN : Nat → Nat → Nat} {AI : Nat → Int32} {x cz : Nat} : ∀ (c y : Nat) (X : Nat → Nat → Int64), (fwY n rk AN AI x cz c y X).2 12 = X 12
  | 0, _, _ => rfl
  | c + 1, y, X => by
    unfold fwY
    split
    · exact fwZ_12 _ _ _
    · rw [fwY_12 c]; exact fwZ_12 _ _ _
section B9
variable {p : Program} {l : Launch} {e : Env} {R : Room} {s : State} {m : MethodId} {args : Array Value} {below : List Frame} {meth : Method} {c : Code} {H : Heap} {locs : List Loc} {cells slots : Nat} {Q : State → Prop}
variable {cc : ByteArray} {pc : Nat} {ls : Array Slot} {rest : List Value}
theorem b_lnge_t (hx : p.tables.exec = Jvm.exec) (hb : c.code = cc) {a b : Nat} {off : Int} {tgt : Nat} (hd0 : decode cc pc = .ok (.lcmp, 1)) (hdg : decode cc (pc + 1) = .ok (.ifCond .ge off, 3)) (ht : ((pc + 1 : Nat) : Int) + off = (tgt : Int)) (h : b ≤ a) (ha : a < 2 ^ 31) (hb2 : b < 2 ^ 31)
    (kt : W p l e R s m args below meth c H locs cells slots Q (F0 m tgt ls rest)) : W p l e R s m args below meth c H locs cells slots Q (F0 m pc ls (.long (lN b) :: .long (lN a) :: rest)) :=
  b_lcge hx hb hd0 hdg ht (fun _ => kt) (fun q => absurd ((lN_lt ha hb2).mp q) (by omega))
theorem b_lnge_f (hx : p.tables.exec = Jvm.exec) (hb : c.code = cc) {a b : Nat} {off : Int} {tgt : Nat} (hd0 : decode cc pc = .ok (.lcmp, 1)) (hdg : decode cc (pc + 1) = .ok (.ifCond .ge off, 3)) (ht : ((pc + 1 : Nat) : Int) + off = (tgt : Int)) (h : a < b) (hb2 : b < 2 ^ 31)
    (kf : W p l e R s m args below meth c H locs cells slots Q (F0 m (pc + 4) ls rest)) : W p l e R s m args below meth c H locs cells slots Q (F0 m pc ls (.long (lN b) :: .long (lN a) :: rest)) :=
  b_lcge hx hb hd0 hdg ht (fun q => absurd ((lN_lt (by omega) hb2).mpr h) q) (fun _ => kf)
end B9
/-- what findWhole leaves: rank, places, tables before the tries -/
def fwL (n m : Nat) (AI : Nat → Int32) (AN : Nat → Nat → Nat) (AL : Nat → Nat → Int64) : Nat × (Nat → Nat → Nat) × (Nat → Nat → Int64) := lkF n m AI (fbS n m AI AN AL).2.1 (fbS n m AI AN AL).2.2
def fwP (n m : Nat) (AI : Nat → Int32) (AN : Nat → Nat → Nat) (AL : Nat → Nat → Int64) : Nat → Nat → Int64 := plAL n m AI (fbS n m AI AN AL).2.1 (fbS n m AI AN AL).2.2
def fwM (n m : Nat) (AI : Nat → Int32) (AN : Nat → Nat → Nat) (AL : Nat → Nat → Int64) : Nat → Nat → Int64 := mof (fbS n m AI AN AL).1 (fwL n m AI AN AL).2.1 (fwP n m AI AN AL)
def fwO (n m : Nat) (AI : Nat → Int32) (AN : Nat → Nat → Nat) (AL : Nat → Nat → Int64) : Bool := plok n m AI (fbS n m AI AN AL).2.1 (fbS n m AI AN AL).2.2
/-- findWhole: whether there is one, and the tables -/
def fwF (n m : Nat) (AI : Nat → Int32) (AN : Nat → Nat → Nat) (AL : Nat → Nat → Int64) (mo : Nat → Nat) : Bool × (Nat → Nat → Int64) :=
  if fwO n m AI AN AL then fwX n (fwL n m AI AN AL).1 (fwL n m AI AN AL).2.1 AI (cmx (mo 1)) (cmx (mo 2)) (cmx (mo 0)) 0 (fwM n m AI AN AL) else (false, fwP n m AI AN AL)
def okW (n m : Nat) (AI : Nat → Int32) (AN : Nat → Nat → Nat) (AL : Nat → Nat → Int64) (mo : Nat → Nat) : Prop :=
  fwO n m AI AN AL = true → (∀ u, u < 3 → fwM n m AI AN AL 12 u = lN (mo u) ∧ mo u < 2 ^ 30) ∧ ∀ (X : Nat → Nat → Int64) (x y z : Int64), X 12 = fwM n m AI AN AL 12 → ¬ det (fwL n m AI AN AL).1 (ftQ n (fwL n m AI AN AL).1 (fwL n m AI AN AL).2.1 AI x y z X 5) = 0

abbrev rmX3_findWhole : Room := { frames := 4, cells := 0, slots := 0, locals := 92 }
set_option maxHeartbeats 4000000 in
set_option maxRecDepth 100000 in
theorem ctX3_findWhole (l : Launch) (D : va_G) (cs : Nat → ClassId) (ad : Nat → Nat) (I : Nat → Nat) (G : Nat → Int64) (AN : Nat → Nat → Nat) (AI : Nat → Int32) (AL : Nat → Nat → Int64) (sz : Nat) (mo : Nat → Nat) (h1 : I 1 ≤ 3) (h2 : I 2 ≤ 3) (hok : okA AN) (hfb : okB (I 1) (I 2) AI AN AL) (hw : okW (I 1) (I 2) AI AN AL mo) : Met l yX3_findWhole (Cond.code yX3_findWhole cX3_findWhole 7 (some FieldType.boolean) :: GW) rmX3_findWhole (va_Pc [.ref (ad 0)] (gP D cs (wM cs ad I G AN AI AL) sz)) (va_Qi (fun (r : Int32) (u : MS) => (∃ G9, u = (up1 (up1 (up1 I 3 (lkF (I 1) (I 2) AI AN AL).1) 4 (fbS (I 1) (I 2) AI AN AL).1) 3 (fwL (I 1) (I 2) AI AN AL).1, G9, (fwL (I 1) (I 2) AI AN AL).2.1, AI, (fwF (I 1) (I 2) AI AN AL mo).2)) ∧ r = bz (fwF (I 1) (I 2) AI AN AL mo).1) (gB D cs (va_A (wM cs ad I G AN AI AL) sz) (wMs cs ad)) (va_A (wM cs ad I G AN AI AL) sz)) 0 0 (va_A (wM cs ad I G AN AI AL) sz) := by
  refine Met.ofW (cc := cX3_findWhole) (maxL := 7) (ret := (some FieldType.boolean)) (by decide) rfl ?_
  intro p e s m args below meth c s₁ B hml hv
  obtain ⟨rfl, hsz, hP, hK, hD0, hN⟩ := hv
  have hx := B.exec
  have hb := B.bytes
  have hr := B.returns
  have hts : ∀ w ∈ GW, w.before _ s = true := fun w h => atoms_spec (ws := Cond.code yX3_findWhole cX3_findWhole 7 (some FieldType.boolean) :: GW) B.pre w (List.mem_cons_of_mem _ h)
  have hown : s.vm.findClass RX3 = some m.cls := findClass_of_methodNamed B.named
  have hlocks := B.notSynchronized
  subst hsz
  have hD := hD0.self (sz := s.heap.size)
  generalize hAe : va_A (wM cs ad I G AN AI AL) s.heap.size = A at hD ⊢
  have hA : ∀ q : Nat, s.heap.size ≤ q → A q := fun q h => by rw [← hAe]; exact Or.inr h
  have hS : va_S A s.heap s.heap [] := va_S.rf
  have hl := lv_entry [.ref (ad 0)] (n := 7) (Nat.le_of_ble_eq_true rfl)
  rw [lg_entry_eq]
  generalize (lg_sl [.ref (ad 0)] ++ List.replicate (7 - (lg_sl [.ref (ad 0)]).length) Slot.unset).toArray = ls at hl ⊢
  have hl : lv_has ls 7 [(0, .ref (ad 0))] := hl
  generalize hargs : ([.ref (ad 0)] : List Value).toArray = args at *
  show W p l e rmX3_findWhole s m args below meth c s.heap [] 0 0 _ (F0 m 0 ls [])
  refine lv_aload_n hx hb dX3_findWhole_0 rfl (lv_at hl 0 rfl) ?_
  refine g_callv (va_runV (As := []) (rest := []) ⟨hx, hb, hml, hown, hts⟩ (ctX3_findBase l D cs ad I G AN AI AL _ h1 h2 hok hfb) (cwV 0 hts (gi_V gw_687 gw_689 gw_42 gw_57 gw_690) rfl rfl rfl (by decide +kernel) ⟨Nat.le_of_ble_eq_true rfl, Nat.le_of_ble_eq_true rfl⟩) ⟨g_blind, va_recv hK hP (ci := 3) (q0 := 0) rfl (wm_at (by decide) rfl), g_pre hP hK hD hN⟩ rfl rfl hl.1 rfl (lv_room (Nat.le_of_ble_eq_true rfl)) dX3_findWhole_1 ⟨Nat.zero_le _, Nat.zero_le _⟩) hD hS hA (fun u H locs hw hP hD hS => ?_)
  obtain rfl := hw
  have hP : va_P D vc (wM cs ad (up1 (up1 I 3 (lkF (I 1) (I 2) AI AN AL).1) 4 (fbS (I 1) (I 2) AI AN AL).1) G ((fbS (I 1) (I 2) AI AN AL).2.1) AI ((fbS (I 1) (I 2) AI AN AL).2.2)) H := hP
  have hD : va_D A (wM cs ad (up1 (up1 I 3 (lkF (I 1) (I 2) AI AN AL).1) 4 (fbS (I 1) (I 2) AI AN AL).1) G ((fbS (I 1) (I 2) AI AN AL).2.1) AI ((fbS (I 1) (I 2) AI AN AL).2.2)) := hD
  have hL := lk_ok (AI := AI) (AL := AL) h1 h2 hok
  have hL1 : (lkF (I 1) (I 2) AI AN AL).1 ≤ 3 := Nat.le_trans hL.2.1 h1
  have hsz : (fbS (I 1) (I 2) AI AN AL).1 ≤ 3 := fbS_le h1
  have hok2 : okA (fbS (I 1) (I 2) AI AN AL).2.1 := fbS_ok h1 h2 hok
  refine lv_aload_n hx hb dX3_findWhole_4 rfl (lv_at hl 0 rfl) ?_
  obtain ⟨sz, AN0, AL0, hFe⟩ : ∃ sz AN0 AL0, (fbS (I 1) (I 2) AI AN AL) = (sz, AN0, AL0) := ⟨_, _, _, rfl⟩
  have eL : fwL (I 1) (I 2) AI AN AL = lkF (I 1) (I 2) AI AN0 AL0 := by unfold fwL; rw [hFe]
  have eP : fwP (I 1) (I 2) AI AN AL = plAL (I 1) (I 2) AI AN0 AL0 := by unfold fwP; rw [hFe]
  have eO : fwO (I 1) (I 2) AI AN AL = plok (I 1) (I 2) AI AN0 AL0 := by unfold fwO; rw [hFe]
  rw [hFe] at hP hD hsz hok2 ⊢
  have hsz : sz ≤ 3 := hsz
  have hok2 : okA AN0 := hok2
  have hP : va_P D vc (wM cs ad (up1 (up1 I 3 (lkF (I 1) (I 2) AI AN AL).1) 4 sz) G AN0 AI AL0) H := hP
  have hD : va_D A (wM cs ad (up1 (up1 I 3 (lkF (I 1) (I 2) AI AN AL).1) 4 sz) G AN0 AI AL0) := hD
  refine g_calli (va_runV (As := []) (rest := []) ⟨hx, hb, hml, hown, hts⟩ (ctX3_findPlain l D cs ad (up1 (up1 I 3 (lkF (I 1) (I 2) AI AN AL).1) 4 sz) G AN0 AI AL0 _ (show I 1 ≤ 3 from h1) (show I 2 ≤ 3 from h2) hok2) (cwV 0 hts (gi_V gw_632 gw_634 gw_33 gw_57 gw_635) rfl rfl rfl (by decide +kernel) ⟨Nat.le_of_ble_eq_true rfl, Nat.le_of_ble_eq_true rfl⟩) ⟨g_blind, va_recv hK hP (ci := 3) (q0 := 0) rfl (wm_at (by decide) rfl), g_pre hP hK hD hN⟩ rfl rfl hl.1 rfl (lv_room (Nat.le_of_ble_eq_true rfl)) dX3_findWhole_5 ⟨Nat.zero_le _, Nat.zero_le _⟩) hD hS hA (fun r u H locs hw hP hD hS => ?_)
  obtain ⟨rfl, hw2⟩ := hw
  have hP : va_P D vc (wM cs ad (up1 (up1 (up1 I 3 (lkF (I 1) (I 2) AI AN AL).1) 4 sz) 3 (lkF (I 1) (I 2) AI AN0 AL0).1) (up1 G 0 (plall (I 1) (I 2) AI AN0 AL0)) ((lkF (I 1) (I 2) AI AN0 AL0).2.1) AI (plAL (I 1) (I 2) AI AN0 AL0)) H := hP
  have hD : va_D A (wM cs ad (up1 (up1 (up1 I 3 (lkF (I 1) (I 2) AI AN AL).1) 4 sz) 3 (lkF (I 1) (I 2) AI AN0 AL0).1) (up1 G 0 (plall (I 1) (I 2) AI AN0 AL0)) ((lkF (I 1) (I 2) AI AN0 AL0).2.1) AI (plAL (I 1) (I 2) AI AN0 AL0)) := hD
  have hw2 : r = bz (plok (I 1) (I 2) AI AN0 AL0) := hw2
  subst hw2
  have hl0 := lk_ok (AI := AI) (AL := AL0) h1 h2 hok2
  rw [← eP, ← eL] at hP hD
  rw [← eO]
  rw [← eL] at hl0
  obtain ⟨rk, AN1, AL1, hLe⟩ : ∃ rk AN1 AL1, fwL (I 1) (I 2) AI AN AL = (rk, AN1, AL1) := ⟨_, _, _, rfl⟩
  rw [hLe] at hP hD hl0 ⊢
  have hr1 : rk ≤ I 1 := hl0.2.1
  have hok1 : okA AN1 := hl0.2.2
  obtain ⟨G1, hG1⟩ : ∃ G1, G1 = up1 G 0 (plall (I 1) (I 2) AI AN0 AL0) := ⟨_, rfl⟩
  rw [← hG1] at hP hD
  obtain ⟨J, hJ⟩ : ∃ J, J = up1 (up1 (up1 I 3 (lkF (I 1) (I 2) AI AN AL).1) 4 sz) 3 rk := ⟨_, rfl⟩
  have hP : va_P D vc (wM cs ad J G1 AN1 AI (fwP (I 1) (I 2) AI AN AL)) H := by rw [hJ]; exact hP
  have hD : va_D A (wM cs ad J G1 AN1 AI (fwP (I 1) (I 2) AI AN AL)) := by rw [hJ]; exact hD
  have j1 : J 1 = I 1 := by rw [hJ]; rfl
  have j3 : J 3 = rk := by rw [hJ]; rfl
  have j4 : J 4 = sz := by rw [hJ]; rfl
  rw [← hJ]
  refine lv_if_ne (tgt := 13) hx hb dX3_findWhole_8 (by decide) (fun h => ?_) (fun h => ?_)
  · have hO := bz_t h
    obtain ⟨hmo, hde⟩ := hw hO
    have eF : fwF (I 1) (I 2) AI AN AL mo = fwX (I 1) rk AN1 AI (cmx (mo 1)) (cmx (mo 2)) (cmx (mo 0)) 0 (fwM (I 1) (I 2) AI AN AL) := by unfold fwF; rw [if_pos hO, hLe]
    rw [eF]
    have eM : fwM (I 1) (I 2) AI AN AL = mof sz AN1 (fwP (I 1) (I 2) AI AN AL) := by unfold fwM; rw [hLe, hFe]
    rw [hLe] at hde
    refine lv_iconst (v := nI 0) hx hb dX3_findWhole_13 (by decide) ?_
    refine lv_istore_n (lv' := [(1, .int (nI 0)), (0, .ref (ad 0))]) hx hb dX3_findWhole_14 rfl hl (by decide) rfl (fun ls hl => ?_)
    generalize hP9 : fwP (I 1) (I 2) AI AN AL = PP at hP hD eM
    have lp15 : ∀ (Q : State → Prop) (n u9 : Nat) (X : Nat → Nat → Int64) (H : Heap) (locs : List Loc) (ls : Array Slot), u9 + n = 3 → va_P D vc (wM cs ad J G1 AN1 AI X) H → va_D A (wM cs ad J G1 AN1 AI X) → va_S A s.heap H locs → lv_has ls 7 [(1, .int (nI u9)), (0, .ref (ad 0))] → (∀ (H : Heap) (locs : List Loc) (ls : Array Slot), va_P D vc (wM cs ad J G1 AN1 AI (fo (fun u X => fo (fun k Y => if AN1 10 k = u then up2 Y 12 u (Y 9 (3 * k + u)) else Y) (J 4) 0 (up2 X 12 u 0)) n u9 X)) H → va_D A (wM cs ad J G1 AN1 AI (fo (fun u X => fo (fun k Y => if AN1 10 k = u then up2 Y 12 u (Y 9 (3 * k + u)) else Y) (J 4) 0 (up2 X 12 u 0)) n u9 X)) → va_S A s.heap H locs → lv_has ls 7 [(1, .int (nI 3)), (0, .ref (ad 0))] → W p l e rmX3_findWhole s m args below meth c H locs 0 0 Q (F0 m 75 ls [])) → W p l e rmX3_findWhole s m args below meth c H locs 0 0 Q (F0 m 15 ls []) := by
      intro Q n
      induction n with
      | zero =>
        intro u9 X H locs ls hn hP hD hS hl kx
        have hi : u9 = 3 := by omega
        refine lv_iload_n hx hb dX3_findWhole_15 rfl (lv_at hl 0 rfl) ?_
        refine lv_iconst (v := nI 3) hx hb dX3_findWhole_16 (by decide) ?_
        refine b_ge_t (tgt := 75) hx hb dX3_findWhole_17 (by decide) (by omega) (by omega) ?_
        rw [hi] at hl
        exact kx H locs ls hP hD hS (lv_sub hl [0, 1] rfl)
      | succ n ih =>
        intro u9 X H locs ls hn hP hD hS hl kx
        have hi : u9 < 3 := by omega
        refine lv_iload_n hx hb dX3_findWhole_15 rfl (lv_at hl 0 rfl) ?_
        refine lv_iconst (v := nI 3) hx hb dX3_findWhole_16 (by decide) ?_
        refine b_ge_f (tgt := 75) hx hb dX3_findWhole_17 (by decide) (by omega) (by omega) ?_
        refine lv_aload_n hx hb dX3_findWhole_20 rfl (lv_at hl 1 rfl) ?_
        refine b_get (own := RX3) (C := RX3) (T := TX3) (N := 23) (ci := 3) (v := .ref (ad 12)) hx hb hts usX3 hown hK hP 0 (by decide) rfl rfl 19 (by decide) (hts _ gw_523) rfl dX3_findWhole_21 ?_
        refine lv_iload_n hx hb dX3_findWhole_24 rfl (lv_at hl 0 rfl) ?_
        refine lv_lconst (v := 0) hx hb dX3_findWhole_25 (by decide) ?_
        refine b_last hx hb hK hP hD hS 12 1 (by decide) rfl rfl (by omega) (by decide) dX3_findWhole_26 sM_L12 (fun H locs hP hD hS => ?_)
        refine lv_iconst (v := nI 0) hx hb dX3_findWhole_27 (by decide) ?_
        refine lv_istore_n (lv' := [(2, .int (nI 0)), (1, .int (nI u9)), (0, .ref (ad 0))]) hx hb dX3_findWhole_28 rfl hl (by decide) rfl (fun ls hl => ?_)
        have lp29 : ∀ (Q : State → Prop) (n k9 : Nat) (Y : Nat → Nat → Int64) (H : Heap) (locs : List Loc) (ls : Array Slot), k9 + n = J 4 → va_P D vc (wM cs ad J G1 AN1 AI Y) H → va_D A (wM cs ad J G1 AN1 AI Y) → va_S A s.heap H locs → lv_has ls 7 [(2, .int (nI k9)), (1, .int (nI u9)), (0, .ref (ad 0))] → (∀ (H : Heap) (locs : List Loc) (ls : Array Slot), va_P D vc (wM cs ad J G1 AN1 AI (fo (fun k Y => if AN1 10 k = u9 then up2 Y 12 u9 (Y 9 (3 * k + u9)) else Y) n k9 Y)) H → va_D A (wM cs ad J G1 AN1 AI (fo (fun k Y => if AN1 10 k = u9 then up2 Y 12 u9 (Y 9 (3 * k + u9)) else Y) n k9 Y)) → va_S A s.heap H locs → lv_has ls 7 [(2, .int (nI (J 4))), (1, .int (nI u9)), (0, .ref (ad 0))] → W p l e rmX3_findWhole s m args below meth c H locs 0 0 Q (F0 m 69 ls [])) → W p l e rmX3_findWhole s m args below meth c H locs 0 0 Q (F0 m 29 ls []) := by
          intro Q n
          induction n with
          | zero =>
            intro k9 Y H locs ls hn hP hD hS hl kx
            have hi : k9 = J 4 := by omega
            refine lv_iload_n hx hb dX3_findWhole_29 rfl (lv_at hl 0 rfl) ?_
            refine lv_aload_n hx hb dX3_findWhole_30 rfl (lv_at hl 2 rfl) ?_
            refine b_get (own := RX3) (C := RX3) (T := TX3) (N := 23) (ci := 3) (v := .int (nI (J 4))) hx hb hts usX3 hown hK hP 0 (by decide) rfl rfl 15 (by decide) (hts _ gw_519) rfl dX3_findWhole_31 ?_
            refine b_ge_t (tgt := 69) hx hb dX3_findWhole_34 (by decide) (by omega) (by omega) ?_
            rw [hi] at hl
            exact kx H locs ls hP hD hS (lv_sub hl [0, 1, 2] rfl)
          | succ n ih =>
            intro k9 Y H locs ls hn hP hD hS hl kx
            have hi : k9 < J 4 := by omega
            refine lv_iload_n hx hb dX3_findWhole_29 rfl (lv_at hl 0 rfl) ?_
            refine lv_aload_n hx hb dX3_findWhole_30 rfl (lv_at hl 2 rfl) ?_
            refine b_get (own := RX3) (C := RX3) (T := TX3) (N := 23) (ci := 3) (v := .int (nI (J 4))) hx hb hts usX3 hown hK hP 0 (by decide) rfl rfl 15 (by decide) (hts _ gw_519) rfl dX3_findWhole_31 ?_
            refine b_ge_f (tgt := 69) hx hb dX3_findWhole_34 (by decide) (by omega) (by omega) ?_
            have hb3 := hok1.2.2.2 k9 (by omega)
            refine lv_aload_n hx hb dX3_findWhole_37 rfl (lv_at hl 2 rfl) ?_
            refine b_get (own := RX3) (C := RX3) (T := TX3) (N := 23) (ci := 3) (v := .ref (ad 10)) hx hb hts usX3 hown hK hP 0 (by decide) rfl rfl 17 (by decide) (hts _ gw_521) rfl dX3_findWhole_38 ?_
            refine lv_iload_n hx hb dX3_findWhole_41 rfl (lv_at hl 0 rfl) ?_
            refine b_iald hx hb hK hP 10 0 (by decide) rfl rfl (by omega) (by decide) dX3_findWhole_42 ?_
            refine lv_iload_n hx hb dX3_findWhole_43 rfl (lv_at hl 1 rfl) ?_
            by_cases hbu : AN1 10 k9 = u9
            · refine b_ne_f (tgt := 63) hx hb dX3_findWhole_44 (by decide) (hbu)  ?_
              refine lv_aload_n hx hb dX3_findWhole_47 rfl (lv_at hl 2 rfl) ?_
              refine b_get (own := RX3) (C := RX3) (T := TX3) (N := 23) (ci := 3) (v := .ref (ad 12)) hx hb hts usX3 hown hK hP 0 (by decide) rfl rfl 19 (by decide) (hts _ gw_523) rfl dX3_findWhole_48 ?_
              refine lv_iload_n hx hb dX3_findWhole_51 rfl (lv_at hl 1 rfl) ?_
              refine lv_aload_n hx hb dX3_findWhole_52 rfl (lv_at hl 2 rfl) ?_
              refine b_get (own := RX3) (C := RX3) (T := TX3) (N := 23) (ci := 3) (v := .ref (ad 9)) hx hb hts usX3 hown hK hP 0 (by decide) rfl rfl 16 (by decide) (hts _ gw_520) rfl dX3_findWhole_53 ?_
              refine lv_iconst (v := nI 3) hx hb dX3_findWhole_56 (by decide) ?_
              refine lv_iload_n hx hb dX3_findWhole_57 rfl (lv_at hl 0 rfl) ?_
              refine b_muln hx hb dX3_findWhole_58 ?_
              refine lv_iload_n hx hb dX3_findWhole_59 rfl (lv_at hl 1 rfl) ?_
              refine b_addn hx hb dX3_findWhole_60 ?_
              refine b_lald hx hb hK hP 9 1 (by decide) rfl rfl (by omega) (by decide) dX3_findWhole_61 ?_
              refine b_last hx hb hK hP hD hS 12 1 (by decide) rfl rfl (by omega) (by decide) dX3_findWhole_62 sM_L12 (fun H locs hP hD hS => ?_)
              refine b_iinc (lv' := [(2, .int (nI (k9 + 1))), (1, .int (nI u9)), (0, .ref (ad 0))]) hx hb dX3_findWhole_63 hl (k := 0) rfl (by decide) rfl (fun ls hl => ?_)
              refine lv_goto (tgt := 29) hx hb dX3_findWhole_66 (by decide) ?_
              rw [show up2 Y 12 u9 (Y 9 ((3 * k9) + u9)) = (if AN1 10 k9 = u9 then up2 Y 12 u9 (Y 9 ((3 * k9) + u9)) else Y) from (if_pos hbu).symm] at hP hD
              exact ih (k9 + 1) _ H locs ls (by omega) hP hD hS (lv_sub hl [0, 1, 2] rfl) kx
            · refine b_ne_t (tgt := 63) hx hb dX3_findWhole_44 (by decide) (hbu) (by omega) (by omega) ?_
              refine b_iinc (lv' := [(2, .int (nI (k9 + 1))), (1, .int (nI u9)), (0, .ref (ad 0))]) hx hb dX3_findWhole_63 hl (k := 0) rfl (by decide) rfl (fun ls hl => ?_)
              refine lv_goto (tgt := 29) hx hb dX3_findWhole_66 (by decide) ?_
              rw [show Y = (if AN1 10 k9 = u9 then up2 Y 12 u9 (Y 9 (3 * k9 + u9)) else Y) from (if_neg hbu).symm] at hP hD
              exact ih (k9 + 1) _ H locs ls (by omega) hP hD hS (lv_sub hl [0, 1, 2] rfl) kx
        refine lp29 _ (J 4) 0 (up2 X 12 u9 0) _ _ ls (by omega) hP hD hS (lv_sub hl [0, 1, 2] rfl) (fun H locs ls hP hD hS hl => ?_)
        refine b_iinc (lv' := [(1, .int (nI (u9 + 1))), (2, .int (nI (J 4))), (0, .ref (ad 0))]) hx hb dX3_findWhole_69 hl (k := 1) rfl (by decide) rfl (fun ls hl => ?_)
        refine lv_goto (tgt := 15) hx hb dX3_findWhole_72 (by decide) ?_
        exact ih (u9 + 1) _ H locs ls (by omega) hP hD hS (lv_sub hl [0, 2] rfl) kx
    refine lp15 _ (3) 0 PP _ _ ls (by omega) hP hD hS (lv_sub hl [0, 1] rfl) (fun H locs ls hP hD hS hl => ?_)
    have hP : va_P D vc (wM cs ad J G1 AN1 AI (fwM (I 1) (I 2) AI AN AL)) H := by rw [eM]; unfold mof; rw [← j4]; exact hP
    have hD : va_D A (wM cs ad J G1 AN1 AI (fwM (I 1) (I 2) AI AN AL)) := by rw [eM]; unfold mof; rw [← j4]; exact hD
    generalize hM9 : fwM (I 1) (I 2) AI AN AL = M0 at hP hD hmo hde ⊢
    obtain ⟨mo0, mb0⟩ := hmo 0 (by decide)
    obtain ⟨mo1, mb1⟩ := hmo 1 (by decide)
    obtain ⟨mo2, mb2⟩ := hmo 2 (by decide)
    have q0 := cmx_lt (m := mo 0) (by omega)
    have q1 := cmx_lt (m := mo 1) (by omega)
    have q2 := cmx_lt (m := mo 2) (by omega)
    have hl : lv_has ls 7 [(0, .ref (ad 0))] := lv_sub hl [1] rfl
    have lpZ : ∀ (Q : State → Prop) (x y : Nat), x < 2 ^ 31 → y < 2 ^ 31 → ∀ (n z : Nat) (X : Nat → Nat → Int64) (G8 : Nat → Int64) (H : Heap) (locs : List Loc) (ls : Array Slot), z + n = cmx (mo 2) → X 12 = M0 12 → va_P D vc (wM cs ad J G8 AN1 AI X) H → va_D A (wM cs ad J G8 AN1 AI X) → va_S A s.heap H locs → lv_has ls 7 [(5, .long (lN z)), (3, .long (lN y)), (1, .long (lN x)), (0, .ref (ad 0))] → (∀ (H : Heap) (locs : List Loc) (ls : Array Slot) (G9 : Nat → Int64), (fwZ (I 1) rk AN1 AI x y n z X).1 = true → va_P D vc (wM cs ad J G9 AN1 AI (fwZ (I 1) rk AN1 AI x y n z X).2) H → va_D A (wM cs ad J G9 AN1 AI (fwZ (I 1) rk AN1 AI x y n z X).2) → va_S A s.heap H locs → W p l e rmX3_findWhole s m args below meth c H locs 0 0 Q (F0 m 172 ls [])) → (∀ (H : Heap) (locs : List Loc) (ls : Array Slot) (G9 : Nat → Int64), (fwZ (I 1) rk AN1 AI x y n z X).1 = false → va_P D vc (wM cs ad J G9 AN1 AI (fwZ (I 1) rk AN1 AI x y n z X).2) H → va_D A (wM cs ad J G9 AN1 AI (fwZ (I 1) rk AN1 AI x y n z X).2) → va_S A s.heap H locs → lv_has ls 7 [(3, .long (lN y)), (1, .long (lN x)), (0, .ref (ad 0))] → W p l e rmX3_findWhole s m args below meth c H locs 0 0 Q (F0 m 183 ls [])) → W p l e rmX3_findWhole s m args below meth c H locs 0 0 Q (F0 m 134 ls []) := by
      intro Q x y hx31 hy31 n
      induction n with
      | zero =>
        intro z X G8 H locs ls hn hX12 hP hD hS hl kf kn
        refine lv_lload hx hb dX3_findWhole_134 (lv_at hl 0 rfl) ?_
        refine lv_aload_n hx hb dX3_findWhole_136 rfl (lv_at hl 3 rfl) ?_
        refine b_get (own := RX3) (C := RX3) (T := TX3) (N := 23) (ci := 3) (v := .ref (ad 12)) hx hb hts usX3 hown hK hP 0 (by decide) rfl rfl 19 (by decide) (hts _ gw_523) rfl dX3_findWhole_137 ?_
        refine lv_iconst (v := nI 2) hx hb dX3_findWhole_140 (by decide) ?_
        refine b_lald hx hb hK hP 12 1 (by decide) rfl rfl (by omega) (by decide) dX3_findWhole_141 ?_
        refine lv_lconst (v := 0) hx hb dX3_findWhole_142 (by decide) ?_
        refine b_lcle (tgt := 156) hx hb dX3_findWhole_143 dX3_findWhole_144 (by decide) (fun h5 => ?_) (fun h5 => ?_)
        · refine lv_lconst (v := 1) hx hb dX3_findWhole_156 (by decide) ?_
          refine lv_topl (fun y9 e9 => ?_)
          have e9 : y9 = lN (cmx (mo 2)) := e9.trans (by rw [hX12, mo2] at h5; exact cmx_1 (by omega) h5 : lN (cmx (mo 2)) = _).symm
          subst e9
          refine b_lnge_t (tgt := 183) hx hb dX3_findWhole_157 dX3_findWhole_158 (by decide) (by omega) (by omega) (by omega) ?_
          exact kn H locs ls G8 rfl hP hD hS (lv_sub hl [1, 2, 3] rfl)
        · refine lv_aload_n hx hb dX3_findWhole_147 rfl (lv_at hl 3 rfl) ?_
          refine b_get (own := RX3) (C := RX3) (T := TX3) (N := 23) (ci := 3) (v := .ref (ad 12)) hx hb hts usX3 hown hK hP 0 (by decide) rfl rfl 19 (by decide) (hts _ gw_523) rfl dX3_findWhole_148 ?_
          refine lv_iconst (v := nI 2) hx hb dX3_findWhole_151 (by decide) ?_
          refine b_lald hx hb hK hP 12 1 (by decide) rfl rfl (by omega) (by decide) dX3_findWhole_152 ?_
          refine lv_goto (tgt := 157) hx hb dX3_findWhole_153 (by decide) ?_
          refine lv_topl (fun y9 e9 => ?_)
          have e9 : y9 = lN (cmx (mo 2)) := e9.trans (by rw [hX12, mo2] at h5; rw [hX12, mo2]; exact cmx_2 (by omega) h5 : lN (cmx (mo 2)) = _).symm
          subst e9
          refine b_lnge_t (tgt := 183) hx hb dX3_findWhole_157 dX3_findWhole_158 (by decide) (by omega) (by omega) (by omega) ?_
          exact kn H locs ls G8 rfl hP hD hS (lv_sub hl [1, 2, 3] rfl)
      | succ n ih =>
        intro z X G8 H locs ls hn hX12 hP hD hS hl kf kn
        refine lv_lload hx hb dX3_findWhole_134 (lv_at hl 0 rfl) ?_
        refine lv_aload_n hx hb dX3_findWhole_136 rfl (lv_at hl 3 rfl) ?_
        refine b_get (own := RX3) (C := RX3) (T := TX3) (N := 23) (ci := 3) (v := .ref (ad 12)) hx hb hts usX3 hown hK hP 0 (by decide) rfl rfl 19 (by decide) (hts _ gw_523) rfl dX3_findWhole_137 ?_
        refine lv_iconst (v := nI 2) hx hb dX3_findWhole_140 (by decide) ?_
        refine b_lald hx hb hK hP 12 1 (by decide) rfl rfl (by omega) (by decide) dX3_findWhole_141 ?_
        refine lv_lconst (v := 0) hx hb dX3_findWhole_142 (by decide) ?_
        refine b_lcle (tgt := 156) hx hb dX3_findWhole_143 dX3_findWhole_144 (by decide) (fun h5 => ?_) (fun h5 => ?_)
        · refine lv_lconst (v := 1) hx hb dX3_findWhole_156 (by decide) ?_
          refine lv_topl (fun y9 e9 => ?_)
          have e9 : y9 = lN (cmx (mo 2)) := e9.trans (by rw [hX12, mo2] at h5; exact cmx_1 (by omega) h5 : lN (cmx (mo 2)) = _).symm
          subst e9
          refine b_lnge_f (tgt := 183) hx hb dX3_findWhole_157 dX3_findWhole_158 (by decide) (by omega) (by omega) ?_
          refine lv_aload_n hx hb dX3_findWhole_161 rfl (lv_at hl 3 rfl) ?_
          refine lv_lload_n hx hb dX3_findWhole_162 rfl (lv_at hl 2 rfl) ?_
          refine lv_lload_n hx hb dX3_findWhole_163 rfl (lv_at hl 1 rfl) ?_
          refine lv_lload hx hb dX3_findWhole_164 (lv_at hl 0 rfl) ?_
          have hdd : ¬ det (J 3) (ftQ (J 1) (J 3) AN1 AI (lN x) (lN y) (lN z) X 5) = 0 := by rw [j1, j3]; exact hde X (lN x) (lN y) (lN z) hX12
          refine g_calli (va_runV (As := [.long (lN x), .long (lN y), .long (lN z)]) (rest := []) ⟨hx, hb, hml, hown, hts⟩ (ctX3_fits l D cs ad J G8 AN1 AI X _ (lN x) (lN y) (lN z) (by rw [j1]; exact h1) (by rw [j3]; omega) hok1 hdd) (cwV 3 hts (gi_V gw_715 gw_717 gw_48 gw_57 gw_718) rfl rfl rfl (by decide +kernel) ⟨Nat.le_of_ble_eq_true rfl, Nat.le_of_ble_eq_true rfl⟩) ⟨g_blind, va_recv hK hP (ci := 3) (q0 := 0) rfl (wm_at (by decide) rfl), g_pre hP hK hD hN⟩ rfl rfl hl.1 rfl (lv_room (Nat.le_of_ble_eq_true rfl)) dX3_findWhole_166 ⟨Nat.zero_le _, Nat.zero_le _⟩) hD hS hA (fun r u H locs hw hP hD hS => ?_)
          obtain ⟨rfl, hw2⟩ := hw
          have hP : va_P D vc (wM cs ad J (up1 G8 0 (det (J 3) (ftQ (J 1) (J 3) AN1 AI (lN x) (lN y) (lN z) X 5))) AN1 AI ((ftR (J 1) (J 3) AN1 AI (lN x) (lN y) (lN z) X).2)) H := hP
          have hD : va_D A (wM cs ad J (up1 G8 0 (det (J 3) (ftQ (J 1) (J 3) AN1 AI (lN x) (lN y) (lN z) X 5))) AN1 AI ((ftR (J 1) (J 3) AN1 AI (lN x) (lN y) (lN z) X).2)) := hD
          rw [j1, j3] at hP hD hw2
          subst hw2
          refine lv_if_eq (tgt := 174) hx hb dX3_findWhole_169 (by decide) (fun h6 => ?_) (fun h6 => ?_)
          · have e1 : fwZ (I 1) rk AN1 AI x y (n + 1) z X = fwZ (I 1) rk AN1 AI x y n (z + 1) (ftR (I 1) rk AN1 AI (lN x) (lN y) (lN z) X).2 := if_neg (by rw [bz_1.mp h6]; decide)
            rw [e1] at kf kn
            refine lv_lload hx hb dX3_findWhole_174 (lv_at hl 0 rfl) ?_
            refine lv_lconst (v := 1) hx hb dX3_findWhole_176 (by decide) ?_
            refine lv_ladd hx hb dX3_findWhole_177 ?_
            refine lv_topl (fun y9 e9 => ?_)
            have e9 : y9 = lN (z + 1) := e9.trans (lN_1 z)
            subst e9
            refine lv_lstore (lv' := [(5, .long (lN (z + 1))), (3, .long (lN y)), (1, .long (lN x)), (0, .ref (ad 0))]) hx hb dX3_findWhole_178 hl (by decide) rfl (fun ls hl => ?_)
            refine lv_goto (tgt := 134) hx hb dX3_findWhole_180 (by decide) ?_
            exact ih (z + 1) _ _ H locs ls (by omega) ((ftR_12 (by decide) (by decide) (by decide) (by decide) (by decide)).trans hX12) hP hD hS (lv_sub hl [0, 1, 2, 3] rfl) kf kn
          · have e1 : fwZ (I 1) rk AN1 AI x y (n + 1) z X = (true, (ftR (I 1) rk AN1 AI (lN x) (lN y) (lN z) X).2) := if_pos (bz_t h6)
            rw [e1] at kf
            exact kf H locs ls _ rfl hP hD hS
        · refine lv_aload_n hx hb dX3_findWhole_147 rfl (lv_at hl 3 rfl) ?_
          refine b_get (own := RX3) (C := RX3) (T := TX3) (N := 23) (ci := 3) (v := .ref (ad 12)) hx hb hts usX3 hown hK hP 0 (by decide) rfl rfl 19 (by decide) (hts _ gw_523) rfl dX3_findWhole_148 ?_
          refine lv_iconst (v := nI 2) hx hb dX3_findWhole_151 (by decide) ?_
          refine b_lald hx hb hK hP 12 1 (by decide) rfl rfl (by omega) (by decide) dX3_findWhole_152 ?_
          refine lv_goto (tgt := 157) hx hb dX3_findWhole_153 (by decide) ?_
          refine lv_topl (fun y9 e9 => ?_)
          have e9 : y9 = lN (cmx (mo 2)) := e9.trans (by rw [hX12, mo2] at h5; rw [hX12, mo2]; exact cmx_2 (by omega) h5 : lN (cmx (mo 2)) = _).symm
          subst e9
          refine b_lnge_f (tgt := 183) hx hb dX3_findWhole_157 dX3_findWhole_158 (by decide) (by omega) (by omega) ?_
          refine lv_aload_n hx hb dX3_findWhole_161 rfl (lv_at hl 3 rfl) ?_
          refine lv_lload_n hx hb dX3_findWhole_162 rfl (lv_at hl 2 rfl) ?_
          refine lv_lload_n hx hb dX3_findWhole_163 rfl (lv_at hl 1 rfl) ?_
          refine lv_lload hx hb dX3_findWhole_164 (lv_at hl 0 rfl) ?_
          have hdd : ¬ det (J 3) (ftQ (J 1) (J 3) AN1 AI (lN x) (lN y) (lN z) X 5) = 0 := by rw [j1, j3]; exact hde X (lN x) (lN y) (lN z) hX12
          refine g_calli (va_runV (As := [.long (lN x), .long (lN y), .long (lN z)]) (rest := []) ⟨hx, hb, hml, hown, hts⟩ (ctX3_fits l D cs ad J G8 AN1 AI X _ (lN x) (lN y) (lN z) (by rw [j1]; exact h1) (by rw [j3]; omega) hok1 hdd) (cwV 3 hts (gi_V gw_715 gw_717 gw_48 gw_57 gw_718) rfl rfl rfl (by decide +kernel) ⟨Nat.le_of_ble_eq_true rfl, Nat.le_of_ble_eq_true rfl⟩) ⟨g_blind, va_recv hK hP (ci := 3) (q0 := 0) rfl (wm_at (by decide) rfl), g_pre hP hK hD hN⟩ rfl rfl hl.1 rfl (lv_room (Nat.le_of_ble_eq_true rfl)) dX3_findWhole_166 ⟨Nat.zero_le _, Nat.zero_le _⟩) hD hS hA (fun r u H locs hw hP hD hS => ?_)
          obtain ⟨rfl, hw2⟩ := hw
          have hP : va_P D vc (wM cs ad J (up1 G8 0 (det (J 3) (ftQ (J 1) (J 3) AN1 AI (lN x) (lN y) (lN z) X 5))) AN1 AI ((ftR (J 1) (J 3) AN1 AI (lN x) (lN y) (lN z) X).2)) H := hP
          have hD : va_D A (wM cs ad J (up1 G8 0 (det (J 3) (ftQ (J 1) (J 3) AN1 AI (lN x) (lN y) (lN z) X 5))) AN1 AI ((ftR (J 1) (J 3) AN1 AI (lN x) (lN y) (lN z) X).2)) := hD
          rw [j1, j3] at hP hD hw2
          subst hw2
          refine lv_if_eq (tgt := 174) hx hb dX3_findWhole_169 (by decide) (fun h6 => ?_) (fun h6 => ?_)
          · have e1 : fwZ (I 1) rk AN1 AI x y (n + 1) z X = fwZ (I 1) rk AN1 AI x y n (z + 1) (ftR (I 1) rk AN1 AI (lN x) (lN y) (lN z) X).2 := if_neg (by rw [bz_1.mp h6]; decide)
            rw [e1] at kf kn
            refine lv_lload hx hb dX3_findWhole_174 (lv_at hl 0 rfl) ?_
            refine lv_lconst (v := 1) hx hb dX3_findWhole_176 (by decide) ?_
            refine lv_ladd hx hb dX3_findWhole_177 ?_
            refine lv_topl (fun y9 e9 => ?_)
            have e9 : y9 = lN (z + 1) := e9.trans (lN_1 z)
            subst e9
            refine lv_lstore (lv' := [(5, .long (lN (z + 1))), (3, .long (lN y)), (1, .long (lN x)), (0, .ref (ad 0))]) hx hb dX3_findWhole_178 hl (by decide) rfl (fun ls hl => ?_)
            refine lv_goto (tgt := 134) hx hb dX3_findWhole_180 (by decide) ?_
            exact ih (z + 1) _ _ H locs ls (by omega) ((ftR_12 (by decide) (by decide) (by decide) (by decide) (by decide)).trans hX12) hP hD hS (lv_sub hl [0, 1, 2, 3] rfl) kf kn
          · have e1 : fwZ (I 1) rk AN1 AI x y (n + 1) z X = (true, (ftR (I 1) rk AN1 AI (lN x) (lN y) (lN z) X).2) := if_pos (bz_t h6)
            rw [e1] at kf
            exact kf H locs ls _ rfl hP hD hS
    have lpY : ∀ (Q : State → Prop) (x : Nat), x < 2 ^ 31 → ∀ (n y : Nat) (X : Nat → Nat → Int64) (G8 : Nat → Int64) (H : Heap) (locs : List Loc) (ls : Array Slot), y + n = cmx (mo 1) → X 12 = M0 12 → va_P D vc (wM cs ad J G8 AN1 AI X) H → va_D A (wM cs ad J G8 AN1 AI X) → va_S A s.heap H locs → lv_has ls 7 [(3, .long (lN y)), (1, .long (lN x)), (0, .ref (ad 0))] → (∀ (H : Heap) (locs : List Loc) (ls : Array Slot) (G9 : Nat → Int64), (fwY (I 1) rk AN1 AI x (cmx (mo 2)) n y X).1 = true → va_P D vc (wM cs ad J G9 AN1 AI (fwY (I 1) rk AN1 AI x (cmx (mo 2)) n y X).2) H → va_D A (wM cs ad J G9 AN1 AI (fwY (I 1) rk AN1 AI x (cmx (mo 2)) n y X).2) → va_S A s.heap H locs → W p l e rmX3_findWhole s m args below meth c H locs 0 0 Q (F0 m 172 ls [])) → (∀ (H : Heap) (locs : List Loc) (ls : Array Slot) (G9 : Nat → Int64), (fwY (I 1) rk AN1 AI x (cmx (mo 2)) n y X).1 = false → va_P D vc (wM cs ad J G9 AN1 AI (fwY (I 1) rk AN1 AI x (cmx (mo 2)) n y X).2) H → va_D A (wM cs ad J G9 AN1 AI (fwY (I 1) rk AN1 AI x (cmx (mo 2)) n y X).2) → va_S A s.heap H locs → lv_has ls 7 [(1, .long (lN x)), (0, .ref (ad 0))] → W p l e rmX3_findWhole s m args below meth c H locs 0 0 Q (F0 m 190 ls [])) → W p l e rmX3_findWhole s m args below meth c H locs 0 0 Q (F0 m 105 ls []) := by
      intro Q x hx31 n
      induction n with
      | zero =>
        intro y X G8 H locs ls hn hX12 hP hD hS hl kf kn
        refine lv_lload_n hx hb dX3_findWhole_105 rfl (lv_at hl 0 rfl) ?_
        refine lv_aload_n hx hb dX3_findWhole_106 rfl (lv_at hl 2 rfl) ?_
        refine b_get (own := RX3) (C := RX3) (T := TX3) (N := 23) (ci := 3) (v := .ref (ad 12)) hx hb hts usX3 hown hK hP 0 (by decide) rfl rfl 19 (by decide) (hts _ gw_523) rfl dX3_findWhole_107 ?_
        refine lv_iconst (v := nI 1) hx hb dX3_findWhole_110 (by decide) ?_
        refine b_lald hx hb hK hP 12 1 (by decide) rfl rfl (by omega) (by decide) dX3_findWhole_111 ?_
        refine lv_lconst (v := 0) hx hb dX3_findWhole_112 (by decide) ?_
        refine b_lcle (tgt := 126) hx hb dX3_findWhole_113 dX3_findWhole_114 (by decide) (fun h5 => ?_) (fun h5 => ?_)
        · refine lv_lconst (v := 1) hx hb dX3_findWhole_126 (by decide) ?_
          refine lv_topl (fun y9 e9 => ?_)
          have e9 : y9 = lN (cmx (mo 1)) := e9.trans (by rw [hX12, mo1] at h5; exact cmx_1 (by omega) h5 : lN (cmx (mo 1)) = _).symm
          subst e9
          refine b_lnge_t (tgt := 190) hx hb dX3_findWhole_127 dX3_findWhole_128 (by decide) (by omega) (by omega) (by omega) ?_
          exact kn H locs ls G8 rfl hP hD hS (lv_sub hl [1, 2] rfl)
        · refine lv_aload_n hx hb dX3_findWhole_117 rfl (lv_at hl 2 rfl) ?_
          refine b_get (own := RX3) (C := RX3) (T := TX3) (N := 23) (ci := 3) (v := .ref (ad 12)) hx hb hts usX3 hown hK hP 0 (by decide) rfl rfl 19 (by decide) (hts _ gw_523) rfl dX3_findWhole_118 ?_
          refine lv_iconst (v := nI 1) hx hb dX3_findWhole_121 (by decide) ?_
          refine b_lald hx hb hK hP 12 1 (by decide) rfl rfl (by omega) (by decide) dX3_findWhole_122 ?_
          refine lv_goto (tgt := 127) hx hb dX3_findWhole_123 (by decide) ?_
          refine lv_topl (fun y9 e9 => ?_)
          have e9 : y9 = lN (cmx (mo 1)) := e9.trans (by rw [hX12, mo1] at h5; rw [hX12, mo1]; exact cmx_2 (by omega) h5 : lN (cmx (mo 1)) = _).symm
          subst e9
          refine b_lnge_t (tgt := 190) hx hb dX3_findWhole_127 dX3_findWhole_128 (by decide) (by omega) (by omega) (by omega) ?_
          exact kn H locs ls G8 rfl hP hD hS (lv_sub hl [1, 2] rfl)
      | succ n ih =>
        intro y X G8 H locs ls hn hX12 hP hD hS hl kf kn
        refine lv_lload_n hx hb dX3_findWhole_105 rfl (lv_at hl 0 rfl) ?_
        refine lv_aload_n hx hb dX3_findWhole_106 rfl (lv_at hl 2 rfl) ?_
        refine b_get (own := RX3) (C := RX3) (T := TX3) (N := 23) (ci := 3) (v := .ref (ad 12)) hx hb hts usX3 hown hK hP 0 (by decide) rfl rfl 19 (by decide) (hts _ gw_523) rfl dX3_findWhole_107 ?_
        refine lv_iconst (v := nI 1) hx hb dX3_findWhole_110 (by decide) ?_
        refine b_lald hx hb hK hP 12 1 (by decide) rfl rfl (by omega) (by decide) dX3_findWhole_111 ?_
        refine lv_lconst (v := 0) hx hb dX3_findWhole_112 (by decide) ?_
        refine b_lcle (tgt := 126) hx hb dX3_findWhole_113 dX3_findWhole_114 (by decide) (fun h5 => ?_) (fun h5 => ?_)
        · refine lv_lconst (v := 1) hx hb dX3_findWhole_126 (by decide) ?_
          refine lv_topl (fun y9 e9 => ?_)
          have e9 : y9 = lN (cmx (mo 1)) := e9.trans (by rw [hX12, mo1] at h5; exact cmx_1 (by omega) h5 : lN (cmx (mo 1)) = _).symm
          subst e9
          refine b_lnge_f (tgt := 190) hx hb dX3_findWhole_127 dX3_findWhole_128 (by decide) (by omega) (by omega) ?_
          refine lv_lconst (v := 0) hx hb dX3_findWhole_131 (by decide) ?_
          refine lv_lstore (lv' := [(5, .long 0), (3, .long (lN y)), (1, .long (lN x)), (0, .ref (ad 0))]) hx hb dX3_findWhole_132 hl (by decide) rfl (fun ls hl => ?_)
          refine lpZ _ x y hx31 (by omega) (cmx (mo 2)) 0 X G8 _ _ ls (by omega) hX12 hP hD hS (lv_sub hl [0, 1, 2, 3] rfl) (fun H locs ls G9 hf hP hD hS => ?_) (fun H locs ls G9 hf hP hD hS hl => ?_)
          · have e1 : fwY (I 1) rk AN1 AI x (cmx (mo 2)) (n + 1) y X = (true, (fwZ (I 1) rk AN1 AI x y (cmx (mo 2)) 0 X).2) := if_pos hf
            rw [e1] at kf
            exact kf H locs ls G9 rfl hP hD hS
          · have e1 : fwY (I 1) rk AN1 AI x (cmx (mo 2)) (n + 1) y X = fwY (I 1) rk AN1 AI x (cmx (mo 2)) n (y + 1) (fwZ (I 1) rk AN1 AI x y (cmx (mo 2)) 0 X).2 := if_neg (by rw [hf]; decide)
            rw [e1] at kf kn
            refine lv_lload_n hx hb dX3_findWhole_183 rfl (lv_at hl 0 rfl) ?_
            refine lv_lconst (v := 1) hx hb dX3_findWhole_184 (by decide) ?_
            refine lv_ladd hx hb dX3_findWhole_185 ?_
            refine lv_topl (fun y9 e9 => ?_)
            have e9 : y9 = lN (y + 1) := e9.trans (lN_1 y)
            subst e9
            refine lv_lstore_n (lv' := [(3, .long (lN (y + 1))), (1, .long (lN x)), (0, .ref (ad 0))]) hx hb dX3_findWhole_186 rfl hl (by decide) rfl (fun ls hl => ?_)
            refine lv_goto (tgt := 105) hx hb dX3_findWhole_187 (by decide) ?_
            exact ih (y + 1) _ _ H locs ls (by omega) ((fwZ_12 _ _ _).trans hX12) hP hD hS (lv_sub hl [0, 1, 2] rfl) kf kn
        · refine lv_aload_n hx hb dX3_findWhole_117 rfl (lv_at hl 2 rfl) ?_
          refine b_get (own := RX3) (C := RX3) (T := TX3) (N := 23) (ci := 3) (v := .ref (ad 12)) hx hb hts usX3 hown hK hP 0 (by decide) rfl rfl 19 (by decide) (hts _ gw_523) rfl dX3_findWhole_118 ?_
          refine lv_iconst (v := nI 1) hx hb dX3_findWhole_121 (by decide) ?_
          refine b_lald hx hb hK hP 12 1 (by decide) rfl rfl (by omega) (by decide) dX3_findWhole_122 ?_
          refine lv_goto (tgt := 127) hx hb dX3_findWhole_123 (by decide) ?_
          refine lv_topl (fun y9 e9 => ?_)
          have e9 : y9 = lN (cmx (mo 1)) := e9.trans (by rw [hX12, mo1] at h5; rw [hX12, mo1]; exact cmx_2 (by omega) h5 : lN (cmx (mo 1)) = _).symm
          subst e9
          refine b_lnge_f (tgt := 190) hx hb dX3_findWhole_127 dX3_findWhole_128 (by decide) (by omega) (by omega) ?_
          refine lv_lconst (v := 0) hx hb dX3_findWhole_131 (by decide) ?_
          refine lv_lstore (lv' := [(5, .long 0), (3, .long (lN y)), (1, .long (lN x)), (0, .ref (ad 0))]) hx hb dX3_findWhole_132 hl (by decide) rfl (fun ls hl => ?_)
          refine lpZ _ x y hx31 (by omega) (cmx (mo 2)) 0 X G8 _ _ ls (by omega) hX12 hP hD hS (lv_sub hl [0, 1, 2, 3] rfl) (fun H locs ls G9 hf hP hD hS => ?_) (fun H locs ls G9 hf hP hD hS hl => ?_)
          · have e1 : fwY (I 1) rk AN1 AI x (cmx (mo 2)) (n + 1) y X = (true, (fwZ (I 1) rk AN1 AI x y (cmx (mo 2)) 0 X).2) := if_pos hf
            rw [e1] at kf
            exact kf H locs ls G9 rfl hP hD hS
          · have e1 : fwY (I 1) rk AN1 AI x (cmx (mo 2)) (n + 1) y X = fwY (I 1) rk AN1 AI x (cmx (mo 2)) n (y + 1) (fwZ (I 1) rk AN1 AI x y (cmx (mo 2)) 0 X).2 := if_neg (by rw [hf]; decide)
            rw [e1] at kf kn
            refine lv_lload_n hx hb dX3_findWhole_183 rfl (lv_at hl 0 rfl) ?_
            refine lv_lconst (v := 1) hx hb dX3_findWhole_184 (by decide) ?_
            refine lv_ladd hx hb dX3_findWhole_185 ?_
            refine lv_topl (fun y9 e9 => ?_)
            have e9 : y9 = lN (y + 1) := e9.trans (lN_1 y)
            subst e9
            refine lv_lstore_n (lv' := [(3, .long (lN (y + 1))), (1, .long (lN x)), (0, .ref (ad 0))]) hx hb dX3_findWhole_186 rfl hl (by decide) rfl (fun ls hl => ?_)
            refine lv_goto (tgt := 105) hx hb dX3_findWhole_187 (by decide) ?_
            exact ih (y + 1) _ _ H locs ls (by omega) ((fwZ_12 _ _ _).trans hX12) hP hD hS (lv_sub hl [0, 1, 2] rfl) kf kn
    have lpX : ∀ (Q : State → Prop) (n x : Nat) (X : Nat → Nat → Int64) (G8 : Nat → Int64) (H : Heap) (locs : List Loc) (ls : Array Slot), x + n = cmx (mo 0) → X 12 = M0 12 → va_P D vc (wM cs ad J G8 AN1 AI X) H → va_D A (wM cs ad J G8 AN1 AI X) → va_S A s.heap H locs → lv_has ls 7 [(1, .long (lN x)), (0, .ref (ad 0))] → (∀ (H : Heap) (locs : List Loc) (ls : Array Slot) (G9 : Nat → Int64), (fwX (I 1) rk AN1 AI (cmx (mo 1)) (cmx (mo 2)) n x X).1 = true → va_P D vc (wM cs ad J G9 AN1 AI (fwX (I 1) rk AN1 AI (cmx (mo 1)) (cmx (mo 2)) n x X).2) H → va_D A (wM cs ad J G9 AN1 AI (fwX (I 1) rk AN1 AI (cmx (mo 1)) (cmx (mo 2)) n x X).2) → va_S A s.heap H locs → W p l e rmX3_findWhole s m args below meth c H locs 0 0 Q (F0 m 172 ls [])) → (∀ (H : Heap) (locs : List Loc) (ls : Array Slot) (G9 : Nat → Int64), (fwX (I 1) rk AN1 AI (cmx (mo 1)) (cmx (mo 2)) n x X).1 = false → va_P D vc (wM cs ad J G9 AN1 AI (fwX (I 1) rk AN1 AI (cmx (mo 1)) (cmx (mo 2)) n x X).2) H → va_D A (wM cs ad J G9 AN1 AI (fwX (I 1) rk AN1 AI (cmx (mo 1)) (cmx (mo 2)) n x X).2) → va_S A s.heap H locs → lv_has ls 7 [(0, .ref (ad 0))] → W p l e rmX3_findWhole s m args below meth c H locs 0 0 Q (F0 m 197 ls [])) → W p l e rmX3_findWhole s m args below meth c H locs 0 0 Q (F0 m 77 ls []) := by
      intro Q n
      induction n with
      | zero =>
        intro x X G8 H locs ls hn hX12 hP hD hS hl kf kn
        refine lv_lload_n hx hb dX3_findWhole_77 rfl (lv_at hl 0 rfl) ?_
        refine lv_aload_n hx hb dX3_findWhole_78 rfl (lv_at hl 1 rfl) ?_
        refine b_get (own := RX3) (C := RX3) (T := TX3) (N := 23) (ci := 3) (v := .ref (ad 12)) hx hb hts usX3 hown hK hP 0 (by decide) rfl rfl 19 (by decide) (hts _ gw_523) rfl dX3_findWhole_79 ?_
        refine lv_iconst (v := nI 0) hx hb dX3_findWhole_82 (by decide) ?_
        refine b_lald hx hb hK hP 12 1 (by decide) rfl rfl (by omega) (by decide) dX3_findWhole_83 ?_
        refine lv_lconst (v := 0) hx hb dX3_findWhole_84 (by decide) ?_
        refine b_lcle (tgt := 98) hx hb dX3_findWhole_85 dX3_findWhole_86 (by decide) (fun h5 => ?_) (fun h5 => ?_)
        · refine lv_lconst (v := 1) hx hb dX3_findWhole_98 (by decide) ?_
          refine lv_topl (fun y9 e9 => ?_)
          have e9 : y9 = lN (cmx (mo 0)) := e9.trans (by rw [hX12, mo0] at h5; exact cmx_1 (by omega) h5 : lN (cmx (mo 0)) = _).symm
          subst e9
          refine b_lnge_t (tgt := 197) hx hb dX3_findWhole_99 dX3_findWhole_100 (by decide) (by omega) (by omega) (by omega) ?_
          exact kn H locs ls G8 rfl hP hD hS (lv_sub hl [1] rfl)
        · refine lv_aload_n hx hb dX3_findWhole_89 rfl (lv_at hl 1 rfl) ?_
          refine b_get (own := RX3) (C := RX3) (T := TX3) (N := 23) (ci := 3) (v := .ref (ad 12)) hx hb hts usX3 hown hK hP 0 (by decide) rfl rfl 19 (by decide) (hts _ gw_523) rfl dX3_findWhole_90 ?_
          refine lv_iconst (v := nI 0) hx hb dX3_findWhole_93 (by decide) ?_
          refine b_lald hx hb hK hP 12 1 (by decide) rfl rfl (by omega) (by decide) dX3_findWhole_94 ?_
          refine lv_goto (tgt := 99) hx hb dX3_findWhole_95 (by decide) ?_
          refine lv_topl (fun y9 e9 => ?_)
          have e9 : y9 = lN (cmx (mo 0)) := e9.trans (by rw [hX12, mo0] at h5; rw [hX12, mo0]; exact cmx_2 (by omega) h5 : lN (cmx (mo 0)) = _).symm
          subst e9
          refine b_lnge_t (tgt := 197) hx hb dX3_findWhole_99 dX3_findWhole_100 (by decide) (by omega) (by omega) (by omega) ?_
          exact kn H locs ls G8 rfl hP hD hS (lv_sub hl [1] rfl)
      | succ n ih =>
        intro x X G8 H locs ls hn hX12 hP hD hS hl kf kn
        refine lv_lload_n hx hb dX3_findWhole_77 rfl (lv_at hl 0 rfl) ?_
        refine lv_aload_n hx hb dX3_findWhole_78 rfl (lv_at hl 1 rfl) ?_
        refine b_get (own := RX3) (C := RX3) (T := TX3) (N := 23) (ci := 3) (v := .ref (ad 12)) hx hb hts usX3 hown hK hP 0 (by decide) rfl rfl 19 (by decide) (hts _ gw_523) rfl dX3_findWhole_79 ?_
        refine lv_iconst (v := nI 0) hx hb dX3_findWhole_82 (by decide) ?_
        refine b_lald hx hb hK hP 12 1 (by decide) rfl rfl (by omega) (by decide) dX3_findWhole_83 ?_
        refine lv_lconst (v := 0) hx hb dX3_findWhole_84 (by decide) ?_
        refine b_lcle (tgt := 98) hx hb dX3_findWhole_85 dX3_findWhole_86 (by decide) (fun h5 => ?_) (fun h5 => ?_)
        · refine lv_lconst (v := 1) hx hb dX3_findWhole_98 (by decide) ?_
          refine lv_topl (fun y9 e9 => ?_)
          have e9 : y9 = lN (cmx (mo 0)) := e9.trans (by rw [hX12, mo0] at h5; exact cmx_1 (by omega) h5 : lN (cmx (mo 0)) = _).symm
          subst e9
          refine b_lnge_f (tgt := 197) hx hb dX3_findWhole_99 dX3_findWhole_100 (by decide) (by omega) (by omega) ?_
          refine lv_lconst (v := 0) hx hb dX3_findWhole_103 (by decide) ?_
          refine lv_lstore_n (lv' := [(3, .long 0), (1, .long (lN x)), (0, .ref (ad 0))]) hx hb dX3_findWhole_104 rfl hl (by decide) rfl (fun ls hl => ?_)
          refine lpY _ x (by omega) (cmx (mo 1)) 0 X G8 _ _ ls (by omega) hX12 hP hD hS (lv_sub hl [0, 1, 2] rfl) (fun H locs ls G9 hf hP hD hS => ?_) (fun H locs ls G9 hf hP hD hS hl => ?_)
          · have e1 : fwX (I 1) rk AN1 AI (cmx (mo 1)) (cmx (mo 2)) (n + 1) x X = (true, (fwY (I 1) rk AN1 AI x (cmx (mo 2)) (cmx (mo 1)) 0 X).2) := if_pos hf
            rw [e1] at kf
            exact kf H locs ls G9 rfl hP hD hS
          · have e1 : fwX (I 1) rk AN1 AI (cmx (mo 1)) (cmx (mo 2)) (n + 1) x X = fwX (I 1) rk AN1 AI (cmx (mo 1)) (cmx (mo 2)) n (x + 1) (fwY (I 1) rk AN1 AI x (cmx (mo 2)) (cmx (mo 1)) 0 X).2 := if_neg (by rw [hf]; decide)
            rw [e1] at kf kn
            refine lv_lload_n hx hb dX3_findWhole_190 rfl (lv_at hl 0 rfl) ?_
            refine lv_lconst (v := 1) hx hb dX3_findWhole_191 (by decide) ?_
            refine lv_ladd hx hb dX3_findWhole_192 ?_
            refine lv_topl (fun y9 e9 => ?_)
            have e9 : y9 = lN (x + 1) := e9.trans (lN_1 x)
            subst e9
            refine lv_lstore_n (lv' := [(1, .long (lN (x + 1))), (0, .ref (ad 0))]) hx hb dX3_findWhole_193 rfl hl (by decide) rfl (fun ls hl => ?_)
            refine lv_goto (tgt := 77) hx hb dX3_findWhole_194 (by decide) ?_
            exact ih (x + 1) _ _ H locs ls (by omega) ((fwY_12 _ _ _).trans hX12) hP hD hS (lv_sub hl [0, 1] rfl) kf kn
        · refine lv_aload_n hx hb dX3_findWhole_89 rfl (lv_at hl 1 rfl) ?_
          refine b_get (own := RX3) (C := RX3) (T := TX3) (N := 23) (ci := 3) (v := .ref (ad 12)) hx hb hts usX3 hown hK hP 0 (by decide) rfl rfl 19 (by decide) (hts _ gw_523) rfl dX3_findWhole_90 ?_
          refine lv_iconst (v := nI 0) hx hb dX3_findWhole_93 (by decide) ?_
          refine b_lald hx hb hK hP 12 1 (by decide) rfl rfl (by omega) (by decide) dX3_findWhole_94 ?_
          refine lv_goto (tgt := 99) hx hb dX3_findWhole_95 (by decide) ?_
          refine lv_topl (fun y9 e9 => ?_)
          have e9 : y9 = lN (cmx (mo 0)) := e9.trans (by rw [hX12, mo0] at h5; rw [hX12, mo0]; exact cmx_2 (by omega) h5 : lN (cmx (mo 0)) = _).symm
          subst e9
          refine b_lnge_f (tgt := 197) hx hb dX3_findWhole_99 dX3_findWhole_100 (by decide) (by omega) (by omega) ?_
          refine lv_lconst (v := 0) hx hb dX3_findWhole_103 (by decide) ?_
          refine lv_lstore_n (lv' := [(3, .long 0), (1, .long (lN x)), (0, .ref (ad 0))]) hx hb dX3_findWhole_104 rfl hl (by decide) rfl (fun ls hl => ?_)
          refine lpY _ x (by omega) (cmx (mo 1)) 0 X G8 _ _ ls (by omega) hX12 hP hD hS (lv_sub hl [0, 1, 2] rfl) (fun H locs ls G9 hf hP hD hS => ?_) (fun H locs ls G9 hf hP hD hS hl => ?_)
          · have e1 : fwX (I 1) rk AN1 AI (cmx (mo 1)) (cmx (mo 2)) (n + 1) x X = (true, (fwY (I 1) rk AN1 AI x (cmx (mo 2)) (cmx (mo 1)) 0 X).2) := if_pos hf
            rw [e1] at kf
            exact kf H locs ls G9 rfl hP hD hS
          · have e1 : fwX (I 1) rk AN1 AI (cmx (mo 1)) (cmx (mo 2)) (n + 1) x X = fwX (I 1) rk AN1 AI (cmx (mo 1)) (cmx (mo 2)) n (x + 1) (fwY (I 1) rk AN1 AI x (cmx (mo 2)) (cmx (mo 1)) 0 X).2 := if_neg (by rw [hf]; decide)
            rw [e1] at kf kn
            refine lv_lload_n hx hb dX3_findWhole_190 rfl (lv_at hl 0 rfl) ?_
            refine lv_lconst (v := 1) hx hb dX3_findWhole_191 (by decide) ?_
            refine lv_ladd hx hb dX3_findWhole_192 ?_
            refine lv_topl (fun y9 e9 => ?_)
            have e9 : y9 = lN (x + 1) := e9.trans (lN_1 x)
            subst e9
            refine lv_lstore_n (lv' := [(1, .long (lN (x + 1))), (0, .ref (ad 0))]) hx hb dX3_findWhole_193 rfl hl (by decide) rfl (fun ls hl => ?_)
            refine lv_goto (tgt := 77) hx hb dX3_findWhole_194 (by decide) ?_
            exact ih (x + 1) _ _ H locs ls (by omega) ((fwY_12 _ _ _).trans hX12) hP hD hS (lv_sub hl [0, 1] rfl) kf kn
    refine lv_lconst (v := 0) hx hb dX3_findWhole_75 (by decide) ?_
    refine lv_lstore_n (lv' := [(1, .long 0), (0, .ref (ad 0))]) hx hb dX3_findWhole_76 rfl hl (by decide) rfl (fun ls hl => ?_)
    refine lpX _ (cmx (mo 0)) 0 M0 G1 _ _ ls (by omega) rfl hP hD hS (lv_sub hl [0, 1] rfl) (fun H locs ls G9 hf hP hD hS => ?_) (fun H locs ls G9 hf hP hD hS hl => ?_)
    · refine lv_iconst (v := nI 1) hx hb dX3_findWhole_172 (by decide) ?_
      exact g_zret hx hb hr hlocks rfl (J, G9, AN1, AI, (fwX (I 1) rk AN1 AI (cmx (mo 1)) (cmx (mo 2)) (cmx (mo 0)) 0 M0).2) ⟨⟨G9, rfl⟩, by rw [hf]; rfl⟩ hK hP hD hS dX3_findWhole_173
    · refine lv_iconst (v := nI 0) hx hb dX3_findWhole_197 (by decide) ?_
      exact g_zret hx hb hr hlocks rfl (J, G9, AN1, AI, (fwX (I 1) rk AN1 AI (cmx (mo 1)) (cmx (mo 2)) (cmx (mo 0)) 0 M0).2) ⟨⟨G9, rfl⟩, by rw [hf]; rfl⟩ hK hP hD hS dX3_findWhole_198
  · have hO : fwO (I 1) (I 2) AI AN AL = false := bz_1.mp h
    have eF : fwF (I 1) (I 2) AI AN AL mo = (false, fwP (I 1) (I 2) AI AN AL) := by unfold fwF; rw [if_neg (by rw [hO]; decide)]
    rw [eF]
    refine lv_iconst (v := nI 0) hx hb dX3_findWhole_11 (by decide) ?_
    exact g_zret hx hb hr hlocks rfl (J, G1, AN1, AI, fwP (I 1) (I 2) AI AN AL) ⟨⟨G1, rfl⟩, rfl⟩ hK hP hD hS dX3_findWhole_12
