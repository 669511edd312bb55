def plX (n m : Nat) (g u : Int32) : Bool := decide (¬ g < 0 ∧ g < nI m ∧ ¬ u < 0 ∧ u ≤ nI n)
def isU (n : Nat) (u : Int32) : Bool := decide (¬ u < 0 ∧ u < nI n)
def isPt (q : Int32) : Bool := decide (q = 0 ∨ q = nI 1)
def in9 (v : Int32) : Bool := decide (¬ v < -9 ∧ ¬ nI 9 < v)
theorem plX_spec {n m : Nat} {g u : Int32} (h1 : n ≤ 3) (h2 : m ≤ 3) (h : plX n m g u = true) : ∃ g' u' : Nat, g = nI g' ∧ g' < m ∧ u = nI u' ∧ u' ≤ n := by
  obtain ⟨a, b, c, d⟩ := of_decide_eq_true h
  obtain ⟨g', hg, rfl⟩ := nI_of a
  obtain ⟨u', hu, rfl⟩ := nI_of c
  exact ⟨g', u', rfl, (nI_ltI hg (by omega)).mp b, rfl, (nI_leI hu (by omega)).mp d⟩
theorem isU_spec {n : Nat} {u : Int32} (h1 : n ≤ 3) (h : isU n u = true) : ∃ u' : Nat, u = nI u' ∧ u' < n := by
  obtain ⟨c, d⟩ := of_decide_eq_true h
  obtain ⟨u', hu, rfl⟩ := nI_of c
  exact ⟨u', rfl, (nI_ltI hu (by omega)).mp d⟩
theorem fre_lt {AN : Nat → Nat → Nat} {d : Nat} {k : Int32} : ∀ (n u p g : Nat), fre AN d k n u p = some g → g < u + n
  | 0, _, _, _, h => by cases h
  | n + 1, u, p, g, h => by
    unfold fre at h
    split at h
    · split at h
      · cases h; omega
      · have := fre_lt n (u + 1) (p + 1) g h; omega
    · have := fre_lt n (u + 1) p g h; omega
theorem neE_le {n e : Nat} {AN : Nat → Nat → Nat} {AI : Nat → Nat → Int32} {AL : Nat → Nat → Int64} : (neE n e AN AI AL).1 ≤ n + 1 := by
  have h := el_le2 (w := n + 1) (h := n + 1 + mbs (spL n e AN AI AL).1 n) (n + 1) 0 (0, (spL n e AN AI AL).1, nefill2 n (mbs (spL n e AN AI AL).1 n) (nefill1 n e AI (zer (n + 1) (n + 1 + mbs (spL n e AN AI AL).1 n) (spL n e AN AI AL).2)))
  have h2 : (neE n e AN AI AL).1 ≤ 0 + (n + 1) := h
  omega
theorem spL_5 {n e : Nat} {AN : Nat → Nat → Nat} {AI : Nat → Nat → Int32} {AL : Nat → Nat → Int64} : (spL n e AN AI AL).1 5 = AN 5 := sp_ot (by decide) 6 0 (0, AN, spfill n e AI (lbeg n AL))
theorem neE_dc {n e : Nat} {AN : Nat → Nat → Nat} {AI : Nat → Nat → Int32} {AL : Nat → Nat → Int64} (hn : n ≤ 3) (hx : ∀ k, k < 7 → AN 5 k < 2 ^ 31) : ∀ k, k < 7 → (neE n e AN AI AL).2.1 5 k < 2 ^ 31 :=
  el_dc (n + 1) 0 (0, (spL n e AN AI AL).1, nefill2 n (mbs (spL n e AN AI AL).1 n) (nefill1 n e AI (zer (n + 1) (n + 1 + mbs (spL n e AN AI AL).1 n) (spL n e AN AI AL).2))) (by omega) (by intro k hk; show (spL n e AN AI AL).1 5 k < 2 ^ 31; rw [spL_5]; exact hx k hk)

abbrev rmX2_equation : Room := { frames := 6, cells := 1, slots := 6, locals := 82 }
set_option maxHeartbeats 4000000 in
set_option maxRecDepth 100000 in
/-- equation -/
theorem ctX2_equation (l : Launch) (hlt : l.stackTraces = false) (D : va_G) (cs : Nat → ClassId) (ad : Nat → Nat) (I : Nat → Nat) (AN : Nat → Nat → Nat) (AI : Nat → Nat → Int32) (AL : Nat → Nat → Int64) (sz : Nat) (sa : Nat → Nat)  (hn3 : I 0 ≤ 3) (he3 : I 1 ≤ 3) : vx_Met l yX2_equation (Cond.code yX2_equation cX2_equation 2 (some FieldType.int) :: GW) rmX2_equation (va_Pc [.ref (ad 0)] (gX D cs (wT cs ad I AN AI AL) sz sa)) (va_Qi (fun (r : Int32) (u : TS) => I 1 < 3 ∧ u = (up1 I 1 (I 1 + 1), AN, fo (fun j X => up2 X (I 1 + 8) j (nI 0)) (I 0 + 1) 0 AI, AL) ∧ r = nI (I 1)) (gB D cs (va_A (wT cs ad I AN AI AL) sz) (wTs cs ad)) (va_A (wT cs ad I AN AI AL) sz)) (vx_X (fun w : String × TS => ¬ I 1 < 3 ∧ w = (xISE, (I, AN, AI, AL))) (xB D cs (va_A (wT cs ad I AN AI AL) sz) (wTs cs ad)) (va_A (wT cs ad I AN AI AL) sz)) 1 6 (va_A (wT cs ad I AN AI AL) sz) := by
  refine vx_ofW (cc := cX2_equation) (maxL := 2) (ret := (some FieldType.int)) (by decide) rfl ?_
  intro p e s m args below meth c s₁ B hml htab hv
  obtain ⟨rfl, ⟨hsz, hP, hK, hD0, hN⟩, hX⟩ := hv
  have hx := B.exec
  have hb := B.bytes
  have hr := B.returns
  have hts : ∀ w ∈ GW, w.before _ s = true := fun w h => atoms_spec (ws := Cond.code yX2_equation cX2_equation 2 (some FieldType.int) :: GW) B.pre w (List.mem_cons_of_mem _ h)
  have hown : s.vm.findClass RX2 = some m.cls := findClass_of_methodNamed B.named
  have hlocks := B.notSynchronized
  subst hsz
  have hD := hD0.self (sz := s.heap.size)
  generalize hAe : va_A (wT cs ad I AN AI AL) s.heap.size = A at hD hX ⊢
  have hA : ∀ q : Nat, s.heap.size ≤ q → A q := fun q h => by rw [← hAe]; exact Or.inr h
  have hS : va_S A s.heap s.heap [] := va_S.rf
  have hl := lv_entry [.ref (ad 0)] (n := 2) (Nat.le_of_ble_eq_true rfl)
  rw [lg_entry_eq]
  generalize (lg_sl [.ref (ad 0)] ++ List.replicate (2 - (lg_sl [.ref (ad 0)]).length) Slot.unset).toArray = ls at hl ⊢
  have hl : lv_has ls 2 [(0, .ref (ad 0))] := hl
  generalize hargs : ([.ref (ad 0)] : List Value).toArray = args at *
  show W p l e rmX2_equation s m args below meth c s.heap [] 0 0 _ (F0 m 0 ls [])
  refine lv_aload_n hx hb dX2_equation_0 rfl (lv_at hl 0 rfl) ?_
  refine b_get (own := RX2) (C := RX2) (T := TX2) (N := 5) (ci := 2) (v := .int (nI (I 1))) hx hb hts usX2 hown hK hP 0 (by decide) rfl rfl 4 (by decide) (hts _ gw_134) rfl dX2_equation_1 ?_
  refine lv_iconst (v := nI 3) hx hb dX2_equation_4 (by decide) ?_
  refine lv_icmp_lt (tgt := 18) hx hb dX2_equation_5 (by decide) (fun h => ?_) (fun h => ?_)
  · have h3 : I 1 < 3 := (nI_ltI (by omega) (by decide)).mp h
    refine lv_iconst (v := nI 0) hx hb dX2_equation_18 (by decide) ?_
    refine lv_istore_n (lv' := [(1, .int (nI 0)), (0, .ref (ad 0))]) hx hb dX2_equation_19 rfl hl (by decide) rfl (fun ls hl => ?_)
    have lp20 : ∀ (Q : State → Prop) (n j : Nat) (X : Nat → Nat → Int32) (H : Heap) (locs : List Loc) (ls : Array Slot), j + n = I 0 + 1 → va_P D vc (wT cs ad I AN X AL) H → va_D A (wT cs ad I AN X AL) → va_S A s.heap H locs → lv_has ls 2 [(1, .int (nI j)), (0, .ref (ad 0))] → (∀ (H : Heap) (locs : List Loc) (ls : Array Slot), va_P D vc (wT cs ad I AN (fo (fun j X => up2 X (I 1 + 8) j (nI 0)) n j X) AL) H → va_D A (wT cs ad I AN (fo (fun j X => up2 X (I 1 + 8) j (nI 0)) n j X) AL) → va_S A s.heap H locs → lv_has ls 2 [(1, .int (nI (I 0 + 1))), (0, .ref (ad 0))] → W p l e rmX2_equation s m args below meth c H locs 0 0 Q (F0 m 46 ls [])) → W p l e rmX2_equation s m args below meth c H locs 0 0 Q (F0 m 20 ls []) := by
      intro Q n
      induction n with
      | zero =>
        intro j X H locs ls hn hP hD hS hl kx
        have hi : j = I 0 + 1 := by omega
        refine lv_iload_n hx hb dX2_equation_20 rfl (lv_at hl 0 rfl) ?_
        refine lv_aload_n hx hb dX2_equation_21 rfl (lv_at hl 1 rfl) ?_
        refine b_get (own := RX2) (C := RX2) (T := TX2) (N := 5) (ci := 2) (v := .int (nI (I 0))) hx hb hts usX2 hown hK hP 0 (by decide) rfl rfl 0 (by decide) (hts _ gw_130) rfl dX2_equation_22 ?_
        refine b_gt_t (tgt := 46) hx hb dX2_equation_25 (by decide) (by omega) (by omega) ?_
        rw [hi] at hl
        exact kx H locs ls hP hD hS (lv_sub hl [0, 1] rfl)
      | succ n ih =>
        intro j X H locs ls hn hP hD hS hl kx
        have hi : j < I 0 + 1 := by omega
        refine lv_iload_n hx hb dX2_equation_20 rfl (lv_at hl 0 rfl) ?_
        refine lv_aload_n hx hb dX2_equation_21 rfl (lv_at hl 1 rfl) ?_
        refine b_get (own := RX2) (C := RX2) (T := TX2) (N := 5) (ci := 2) (v := .int (nI (I 0))) hx hb hts usX2 hown hK hP 0 (by decide) rfl rfl 0 (by decide) (hts _ gw_130) rfl dX2_equation_22 ?_
        refine b_gt_f (tgt := 46) hx hb dX2_equation_25 (by decide) (by omega) (by omega) ?_
        refine lv_aload_n hx hb dX2_equation_28 rfl (lv_at hl 1 rfl) ?_
        refine b_get (own := RX2) (C := RX2) (T := TX2) (N := 5) (ci := 2) (v := .ref (ad 1)) hx hb hts usX2 hown hK hP 0 (by decide) rfl rfl 1 (by decide) (hts _ gw_131) rfl dX2_equation_29 ?_
        refine lv_aload_n hx hb dX2_equation_32 rfl (lv_at hl 1 rfl) ?_
        refine b_get (own := RX2) (C := RX2) (T := TX2) (N := 5) (ci := 2) (v := .int (nI (I 1))) hx hb hts usX2 hown hK hP 0 (by decide) rfl rfl 4 (by decide) (hts _ gw_134) rfl dX2_equation_33 ?_
        refine tN_r hx hb hK hP (by omega) dX2_equation_36 ?_
        refine lv_iload_n hx hb dX2_equation_37 rfl (lv_at hl 0 rfl) ?_
        refine lv_iconst (v := nI 0) hx hb dX2_equation_38 (by decide) ?_
        refine tN_st (i := I 1) hx hb hK hP hD hS (by omega) (by omega) dX2_equation_39 (fun H locs hP hD hS => ?_)
        refine b_iinc (lv' := [(1, .int (nI (j + 1))), (0, .ref (ad 0))]) hx hb dX2_equation_40 hl (k := 0) rfl (by decide) rfl (fun ls hl => ?_)
        refine lv_goto (tgt := 20) hx hb dX2_equation_43 (by decide) ?_
        exact ih (j + 1) _ H locs ls (by omega) hP hD hS (lv_sub hl [0, 1] rfl) kx
    refine lp20 _ (I 0 + 1) 0 AI _ _ ls (by omega) hP hD hS (lv_sub hl [0, 1] rfl) (fun H locs ls hP hD hS hl => ?_)
    refine lv_aload_n hx hb dX2_equation_46 rfl (lv_at hl 1 rfl) ?_
    refine lv_dup hx hb dX2_equation_47 rfl ?_
    refine b_get (own := RX2) (C := RX2) (T := TX2) (N := 5) (ci := 2) (v := .int (nI (I 1))) hx hb hts usX2 hown hK hP 0 (by decide) rfl rfl 4 (by decide) (hts _ gw_134) rfl dX2_equation_48 ?_
    refine lv_iconst (v := nI 1) hx hb dX2_equation_51 (by decide) ?_
    refine b_addn hx hb dX2_equation_52 ?_
    refine b_put (own := RX2) (C := RX2) (T := TX2) (N := 5) (ci := 2) (v := .int (nI ((I 1) + 1))) hx hb hts usX2 tyX2 tyX2_ok nmX2 hown hK hP hD hS 0 (by decide) rfl rfl 4 (by decide) (hts _ gw_134) rfl rfl rfl (Nat.le_of_ble_eq_true rfl) dX2_equation_53 sT_eq (fun H locs hP hD hS => ?_)
    refine lv_aload_n hx hb dX2_equation_56 rfl (lv_at hl 1 rfl) ?_
    refine b_get (own := RX2) (C := RX2) (T := TX2) (N := 5) (ci := 2) (v := .int (nI ((I 1) + 1))) hx hb hts usX2 hown hK hP 0 (by decide) rfl rfl 4 (by decide) (hts _ gw_134) rfl dX2_equation_57 ?_
    refine lv_iconst (v := nI 1) hx hb dX2_equation_60 (by decide) ?_
    refine b_subn hx hb dX2_equation_61 (by omega) ?_
    exact vx_ret (w_widen (k := 1) (n := 6) (Nat.zero_le _) (Nat.zero_le _) (g_iret hx hb hr hlocks (up1 I 1 ((I 1) + 1), AN, fo (fun j X => up2 X (I 1 + 8) j (nI 0)) (I 0 + 1) 0 AI, AL) (⟨h3, rfl, rfl⟩) hK hP hD hS dX2_equation_62))
  · have h3 : ¬ I 1 < 3 := fun q => h ((nI_ltI (by omega) (by decide)).mpr q)
    exact x_throw (cls := xISE) (text := "there are 3 equations") (is := 46) hx hb hlt (by rw [hml]; exact hl.1) hown hts hlocks htab hK hX (by decide) gw_282 gw_61 (by decide) xa_ISE xb_ISE xc_ISE dX2_equation_8 dX2_equation_11 dX2_equation_12 dX2_equation_14 dX2_equation_17 (Nat.le_of_ble_eq_true rfl) (Nat.le_of_ble_eq_true rfl) (Nat.le_of_ble_eq_true rfl) (Nat.le_of_ble_eq_true rfl) (I, AN, AI, AL) (⟨h3, rfl⟩) hP hD hS

abbrev rmX2_put : Room := { frames := 6, cells := 1, slots := 6, locals := 82 }
set_option maxHeartbeats 4000000 in
set_option maxRecDepth 100000 in
/-- put -/
theorem ctX2_put (l : Launch) (hlt : l.stackTraces = false) (D : va_G) (cs : Nat → ClassId) (ad : Nat → Nat) (I : Nat → Nat) (AN : Nat → Nat → Nat) (AI : Nat → Nat → Int32) (AL : Nat → Nat → Int64) (sz : Nat) (sa : Nat → Nat) (g u v : Int32) (hn3 : I 0 ≤ 3) (he3 : I 1 ≤ 3) : vx_Met l yX2_put (Cond.code yX2_put cX2_put 5 (some FieldType.boolean) :: GW) rmX2_put (va_Pc [.ref (ad 0), .int g, .int u, .int v] (gX D cs (wT cs ad I AN AI AL) sz sa)) (va_Qi (fun (r : Int32) (w : TS) => plX (I 0) (I 1) g u = true ∧ in9 v = true ∧ w = (I, AN, up2 AI (g.toNatClampNeg + 8) u.toNatClampNeg v, AL) ∧ r = bz (decide (¬ AI (g.toNatClampNeg + 8) u.toNatClampNeg = v))) (gB D cs (va_A (wT cs ad I AN AI AL) sz) (wTs cs ad)) (va_A (wT cs ad I AN AI AL) sz)) (vx_X (fun w : String × TS => (plX (I 0) (I 1) g u = false ∧ w = (xIOB, (I, AN, AI, AL))) ∨ (plX (I 0) (I 1) g u = true ∧ in9 v = false ∧ w = (xIAE, (I, AN, AI, AL)))) (xB D cs (va_A (wT cs ad I AN AI AL) sz) (wTs cs ad)) (va_A (wT cs ad I AN AI AL) sz)) 1 6 (va_A (wT cs ad I AN AI AL) sz) := by
  refine vx_ofW (cc := cX2_put) (maxL := 5) (ret := (some FieldType.boolean)) (by decide) rfl ?_
  intro p e s m args below meth c s₁ B hml htab hv
  obtain ⟨rfl, ⟨hsz, hP, hK, hD0, hN⟩, hX⟩ := hv
  have hx := B.exec
  have hb := B.bytes
  have hr := B.returns
  have hts : ∀ w ∈ GW, w.before _ s = true := fun w h => atoms_spec (ws := Cond.code yX2_put cX2_put 5 (some FieldType.boolean) :: GW) B.pre w (List.mem_cons_of_mem _ h)
  have hown : s.vm.findClass RX2 = some m.cls := findClass_of_methodNamed B.named
  have hlocks := B.notSynchronized
  subst hsz
  have hD := hD0.self (sz := s.heap.size)
  generalize hAe : va_A (wT cs ad I AN AI AL) s.heap.size = A at hD hX ⊢
  have hA : ∀ q : Nat, s.heap.size ≤ q → A q := fun q h => by rw [← hAe]; exact Or.inr h
  have hS : va_S A s.heap s.heap [] := va_S.rf
  have hl := lv_entry [.ref (ad 0), .int g, .int u, .int v] (n := 5) (Nat.le_of_ble_eq_true rfl)
  rw [lg_entry_eq]
  generalize (lg_sl [.ref (ad 0), .int g, .int u, .int v] ++ List.replicate (5 - (lg_sl [.ref (ad 0), .int g, .int u, .int v]).length) Slot.unset).toArray = ls at hl ⊢
  have hl : lv_has ls 5 [(0, .ref (ad 0)), (1, .int g), (2, .int u), (3, .int v)] := hl
  generalize hargs : ([.ref (ad 0), .int g, .int u, .int v] : List Value).toArray = args at *
  show W p l e rmX2_put s m args below meth c s.heap [] 0 0 _ (F0 m 0 ls [])
  refine lv_aload_n hx hb dX2_put_0 rfl (lv_at hl 0 rfl) ?_
  refine lv_iload_n hx hb dX2_put_1 rfl (lv_at hl 1 rfl) ?_
  refine lv_iload_n hx hb dX2_put_2 rfl (lv_at hl 2 rfl) ?_
  refine g_calli (va_runV (As := [.int g, .int u]) (rest := []) ⟨hx, hb, hml, hown, hts⟩ (ctX2_isPlace l D cs ad I AN AI AL _ g u) (cwV 2 hts (gi_V gw_359 gw_361 gw_19 gw_53 gw_362) rfl rfl rfl (by decide +kernel) ⟨Nat.le_of_ble_eq_true rfl, Nat.le_of_ble_eq_true rfl⟩) ⟨g_blind, va_recv hK hP (ci := 2) (q0 := 0) rfl (wm_at (by decide) rfl), g_pre hP hK hD hN⟩ rfl rfl hl.1 rfl (lv_room (Nat.le_of_ble_eq_true rfl)) dX2_put_3 ⟨Nat.zero_le _, Nat.zero_le _⟩) hD hS hA (fun r u H locs hw hP hD hS => ?_)
  obtain ⟨rfl, hw2⟩ := hw
  have hP : va_P D vc (wT cs ad I AN AI AL) H := hP
  have hD : va_D A (wT cs ad I AN AI AL) := hD
  have hw2 : r = bz (plX (I 0) (I 1) g u) := hw2
  subst hw2
  refine lv_if_ne (tgt := 19) hx hb dX2_put_6 (by decide) (fun h => ?_) (fun h => ?_)
  · have hpl : plX (I 0) (I 1) g u = true := bz_t h
    refine lv_iload_n hx hb dX2_put_19 rfl (lv_at hl 3 rfl) ?_
    refine lv_bipush (v := -9) hx hb dX2_put_20 (by decide) ?_
    refine lv_icmp_lt (tgt := 31) hx hb dX2_put_22 (by decide) (fun h2 => ?_) (fun h2 => ?_)
    · exact x_throw (cls := xIAE) (text := "the number isn't -9 .. 9") (is := 62) hx hb hlt (by rw [hml]; exact hl.1) hown hts hlocks htab hK hX (by decide) gw_379 gw_63 (by decide) xa_IAE xb_IAE xc_IAE dX2_put_31 dX2_put_34 dX2_put_35 dX2_put_37 dX2_put_40 (Nat.le_of_ble_eq_true rfl) (Nat.le_of_ble_eq_true rfl) (Nat.le_of_ble_eq_true rfl) (Nat.le_of_ble_eq_true rfl) (I, AN, AI, AL) (Or.inr ⟨hpl, decide_eq_false (fun q => q.1 h2), rfl⟩) hP hD hS
    · refine lv_iload_n hx hb dX2_put_25 rfl (lv_at hl 3 rfl) ?_
      refine lv_bipush (v := nI 9) hx hb dX2_put_26 (by decide) ?_
      refine lv_icmp_le (tgt := 41) hx hb dX2_put_28 (by decide) (fun h3 => ?_) (fun h3 => ?_)
      · have h9 : in9 v = true := decide_eq_true ⟨h2, i32_nlt.mpr h3⟩
        obtain ⟨g', u', rfl, hg, rfl, hu⟩ := plX_spec hn3 he3 hpl
        have hl : lv_has ls 5 [(0, .ref (ad 0)), (1, .int (nI g')), (2, .int (nI u')), (3, .int v)] := hl
        refine lv_aload_n hx hb dX2_put_41 rfl (lv_at hl 0 rfl) ?_
        refine b_get (own := RX2) (C := RX2) (T := TX2) (N := 5) (ci := 2) (v := .ref (ad 1)) hx hb hts usX2 hown hK hP 0 (by decide) rfl rfl 1 (by decide) (hts _ gw_131) rfl dX2_put_42 ?_
        refine lv_iload_n hx hb dX2_put_45 rfl (lv_at hl 1 rfl) ?_
        refine tN_r hx hb hK hP (by omega) dX2_put_46 ?_
        refine lv_iload_n hx hb dX2_put_47 rfl (lv_at hl 2 rfl) ?_
        refine tN_ld (i := g') hx hb hK hP (by omega) (by omega) dX2_put_48 ?_
        refine lv_iload_n hx hb dX2_put_49 rfl (lv_at hl 3 rfl) ?_
        have cg := nI_cl (k := g') (by omega)
        have cu := nI_cl (k := u') (by omega)
        rw [cg, cu]
        refine lv_icmp_eq (tgt := 57) hx hb dX2_put_50 (by decide) (fun h4 => ?_) (fun h4 => ?_)
        · refine lv_iconst (v := nI 0) hx hb dX2_put_57 (by decide) ?_
          refine lv_istore (lv' := [(4, .int (nI 0)), (0, .ref (ad 0)), (1, .int (nI g')), (2, .int (nI u')), (3, .int v)]) hx hb dX2_put_58 hl (by decide) rfl (fun ls hl => ?_)
          refine lv_aload_n hx hb dX2_put_60 rfl (lv_at hl 1 rfl) ?_
          refine b_get (own := RX2) (C := RX2) (T := TX2) (N := 5) (ci := 2) (v := .ref (ad 1)) hx hb hts usX2 hown hK hP 0 (by decide) rfl rfl 1 (by decide) (hts _ gw_131) rfl dX2_put_61 ?_
          refine lv_iload_n hx hb dX2_put_64 rfl (lv_at hl 2 rfl) ?_
          refine tN_r hx hb hK hP (by omega) dX2_put_65 ?_
          refine lv_iload_n hx hb dX2_put_66 rfl (lv_at hl 3 rfl) ?_
          refine lv_iload_n hx hb dX2_put_67 rfl (lv_at hl 4 rfl) ?_
          refine tN_st (i := g') hx hb hK hP hD hS (by omega) (by omega) dX2_put_68 (fun H locs hP hD hS => ?_)
          refine lv_iload hx hb dX2_put_69 (lv_at hl 0 rfl) ?_
          exact vx_ret (w_widen (k := 1) (n := 6) (Nat.zero_le _) (Nat.zero_le _) (g_zret hx hb hr hlocks (rfl) (I, AN, up2 AI (g' + 8) u' v, AL) (⟨hpl, h9, rfl, by rw [decide_eq_false (fun q => q h4)]; rfl⟩) hK hP hD hS dX2_put_71))
        · refine lv_iconst (v := nI 1) hx hb dX2_put_53 (by decide) ?_
          refine lv_goto (tgt := 58) hx hb dX2_put_54 (by decide) ?_
          refine lv_istore (lv' := [(4, .int (nI 1)), (0, .ref (ad 0)), (1, .int (nI g')), (2, .int (nI u')), (3, .int v)]) hx hb dX2_put_58 hl (by decide) rfl (fun ls hl => ?_)
          refine lv_aload_n hx hb dX2_put_60 rfl (lv_at hl 1 rfl) ?_
          refine b_get (own := RX2) (C := RX2) (T := TX2) (N := 5) (ci := 2) (v := .ref (ad 1)) hx hb hts usX2 hown hK hP 0 (by decide) rfl rfl 1 (by decide) (hts _ gw_131) rfl dX2_put_61 ?_
          refine lv_iload_n hx hb dX2_put_64 rfl (lv_at hl 2 rfl) ?_
          refine tN_r hx hb hK hP (by omega) dX2_put_65 ?_
          refine lv_iload_n hx hb dX2_put_66 rfl (lv_at hl 3 rfl) ?_
          refine lv_iload_n hx hb dX2_put_67 rfl (lv_at hl 4 rfl) ?_
          refine tN_st (i := g') hx hb hK hP hD hS (by omega) (by omega) dX2_put_68 (fun H locs hP hD hS => ?_)
          refine lv_iload hx hb dX2_put_69 (lv_at hl 0 rfl) ?_
          exact vx_ret (w_widen (k := 1) (n := 6) (Nat.zero_le _) (Nat.zero_le _) (g_zret hx hb hr hlocks (rfl) (I, AN, up2 AI (g' + 8) u' v, AL) (⟨hpl, h9, rfl, by rw [decide_eq_true h4]; rfl⟩) hK hP hD hS dX2_put_71))
      · exact x_throw (cls := xIAE) (text := "the number isn't -9 .. 9") (is := 62) hx hb hlt (by rw [hml]; exact hl.1) hown hts hlocks htab hK hX (by decide) gw_379 gw_63 (by decide) xa_IAE xb_IAE xc_IAE dX2_put_31 dX2_put_34 dX2_put_35 dX2_put_37 dX2_put_40 (Nat.le_of_ble_eq_true rfl) (Nat.le_of_ble_eq_true rfl) (Nat.le_of_ble_eq_true rfl) (Nat.le_of_ble_eq_true rfl) (I, AN, AI, AL) (Or.inr ⟨hpl, decide_eq_false (fun q => h3 (i32_nlt.mp q.2)), rfl⟩) hP hD hS
  · have hpl : plX (I 0) (I 1) g u = false := bz_1.mp h
    exact x_throw (cls := xIOB) (text := "no such equation or unknown") (is := 57) hx hb hlt (by rw [hml]; exact hl.1) hown hts hlocks htab hK hX (by decide) gw_363 gw_62 (by decide) xa_IOB xb_IOB xc_IOB dX2_put_9 dX2_put_12 dX2_put_13 dX2_put_15 dX2_put_18 (Nat.le_of_ble_eq_true rfl) (Nat.le_of_ble_eq_true rfl) (Nat.le_of_ble_eq_true rfl) (Nat.le_of_ble_eq_true rfl) (I, AN, AI, AL) (Or.inl ⟨hpl, rfl⟩) hP hD hS

abbrev rmX2_at : Room := { frames := 6, cells := 1, slots := 6, locals := 82 }
set_option maxHeartbeats 4000000 in
set_option maxRecDepth 100000 in
/-- at -/
theorem ctX2_at (l : Launch) (hlt : l.stackTraces = false) (D : va_G) (cs : Nat → ClassId) (ad : Nat → Nat) (I : Nat → Nat) (AN : Nat → Nat → Nat) (AI : Nat → Nat → Int32) (AL : Nat → Nat → Int64) (sz : Nat) (sa : Nat → Nat) (g u : Int32) (hn3 : I 0 ≤ 3) (he3 : I 1 ≤ 3) : vx_Met l yX2_at (Cond.code yX2_at cX2_at 3 (some FieldType.int) :: GW) rmX2_at (va_Pc [.ref (ad 0), .int g, .int u] (gX D cs (wT cs ad I AN AI AL) sz sa)) (va_Qi (fun (r : Int32) (w : TS) => plX (I 0) (I 1) g u = true ∧ w = (I, AN, AI, AL) ∧ r = AI (g.toNatClampNeg + 8) u.toNatClampNeg) (gB D cs (va_A (wT cs ad I AN AI AL) sz) (wTs cs ad)) (va_A (wT cs ad I AN AI AL) sz)) (vx_X (fun w : String × TS => plX (I 0) (I 1) g u = false ∧ w = (xIOB, (I, AN, AI, AL))) (xB D cs (va_A (wT cs ad I AN AI AL) sz) (wTs cs ad)) (va_A (wT cs ad I AN AI AL) sz)) 1 6 (va_A (wT cs ad I AN AI AL) sz) := by
  refine vx_ofW (cc := cX2_at) (maxL := 3) (ret := (some FieldType.int)) (by decide) rfl ?_
  intro p e s m args below meth c s₁ B hml htab hv
  obtain ⟨rfl, ⟨hsz, hP, hK, hD0, hN⟩, hX⟩ := hv
  have hx := B.exec
  have hb := B.bytes
  have hr := B.returns
  have hts : ∀ w ∈ GW, w.before _ s = true := fun w h => atoms_spec (ws := Cond.code yX2_at cX2_at 3 (some FieldType.int) :: GW) B.pre w (List.mem_cons_of_mem _ h)
  have hown : s.vm.findClass RX2 = some m.cls := findClass_of_methodNamed B.named
  have hlocks := B.notSynchronized
  subst hsz
  have hD := hD0.self (sz := s.heap.size)
  generalize hAe : va_A (wT cs ad I AN AI AL) s.heap.size = A at hD hX ⊢
  have hA : ∀ q : Nat, s.heap.size ≤ q → A q := fun q h => by rw [← hAe]; exact Or.inr h
  have hS : va_S A s.heap s.heap [] := va_S.rf
  have hl := lv_entry [.ref (ad 0), .int g, .int u] (n := 3) (Nat.le_of_ble_eq_true rfl)
  rw [lg_entry_eq]
  generalize (lg_sl [.ref (ad 0), .int g, .int u] ++ List.replicate (3 - (lg_sl [.ref (ad 0), .int g, .int u]).length) Slot.unset).toArray = ls at hl ⊢
  have hl : lv_has ls 3 [(0, .ref (ad 0)), (1, .int g), (2, .int u)] := hl
  generalize hargs : ([.ref (ad 0), .int g, .int u] : List Value).toArray = args at *
  show W p l e rmX2_at s m args below meth c s.heap [] 0 0 _ (F0 m 0 ls [])
  refine lv_aload_n hx hb dX2_at_0 rfl (lv_at hl 0 rfl) ?_
  refine lv_iload_n hx hb dX2_at_1 rfl (lv_at hl 1 rfl) ?_
  refine lv_iload_n hx hb dX2_at_2 rfl (lv_at hl 2 rfl) ?_
  refine g_calli (va_runV (As := [.int g, .int u]) (rest := []) ⟨hx, hb, hml, hown, hts⟩ (ctX2_isPlace l D cs ad I AN AI AL _ g u) (cwV 2 hts (gi_V gw_359 gw_361 gw_19 gw_53 gw_362) rfl rfl rfl (by decide +kernel) ⟨Nat.le_of_ble_eq_true rfl, Nat.le_of_ble_eq_true rfl⟩) ⟨g_blind, va_recv hK hP (ci := 2) (q0 := 0) rfl (wm_at (by decide) rfl), g_pre hP hK hD hN⟩ rfl rfl hl.1 rfl (lv_room (Nat.le_of_ble_eq_true rfl)) dX2_at_3 ⟨Nat.zero_le _, Nat.zero_le _⟩) hD hS hA (fun r u H locs hw hP hD hS => ?_)
  obtain ⟨rfl, hw2⟩ := hw
  have hP : va_P D vc (wT cs ad I AN AI AL) H := hP
  have hD : va_D A (wT cs ad I AN AI AL) := hD
  have hw2 : r = bz (plX (I 0) (I 1) g u) := hw2
  subst hw2
  refine lv_if_ne (tgt := 19) hx hb dX2_at_6 (by decide) (fun h => ?_) (fun h => ?_)
  · have hpl : plX (I 0) (I 1) g u = true := bz_t h
    obtain ⟨g', u', rfl, hg, rfl, hu⟩ := plX_spec hn3 he3 hpl
    have hl : lv_has ls 3 [(0, .ref (ad 0)), (1, .int (nI g')), (2, .int (nI u'))] := hl
    have cg := nI_cl (k := g') (by omega)
    have cu := nI_cl (k := u') (by omega)
    rw [cg, cu]
    refine lv_aload_n hx hb dX2_at_19 rfl (lv_at hl 0 rfl) ?_
    refine b_get (own := RX2) (C := RX2) (T := TX2) (N := 5) (ci := 2) (v := .ref (ad 1)) hx hb hts usX2 hown hK hP 0 (by decide) rfl rfl 1 (by decide) (hts _ gw_131) rfl dX2_at_20 ?_
    refine lv_iload_n hx hb dX2_at_23 rfl (lv_at hl 1 rfl) ?_
    refine tN_r hx hb hK hP (by omega) dX2_at_24 ?_
    refine lv_iload_n hx hb dX2_at_25 rfl (lv_at hl 2 rfl) ?_
    refine tN_ld (i := g') hx hb hK hP (by omega) (by omega) dX2_at_26 ?_
    exact vx_ret (w_widen (k := 1) (n := 6) (Nat.zero_le _) (Nat.zero_le _) (g_iret hx hb hr hlocks (I, AN, AI, AL) (⟨hpl, rfl, rfl⟩) hK hP hD hS dX2_at_27))
  · have hpl : plX (I 0) (I 1) g u = false := bz_1.mp h
    exact x_throw (cls := xIOB) (text := "no such equation or unknown") (is := 57) hx hb hlt (by rw [hml]; exact hl.1) hown hts hlocks htab hK hX (by decide) gw_363 gw_62 (by decide) xa_IOB xb_IOB xc_IOB dX2_at_9 dX2_at_12 dX2_at_13 dX2_at_15 dX2_at_18 (Nat.le_of_ble_eq_true rfl) (Nat.le_of_ble_eq_true rfl) (Nat.le_of_ble_eq_true rfl) (Nat.le_of_ble_eq_true rfl) (I, AN, AI, AL) (⟨hpl, rfl⟩) hP hD hS

abbrev rmX2_plain : Room := { frames := 6, cells := 1, slots := 6, locals := 147 }
set_option maxHeartbeats 4000000 in
set_option maxRecDepth 100000 in
/-- plain -/
theorem ctX2_plain (l : Launch) (hlt : l.stackTraces = false) (D : va_G) (cs : Nat → ClassId) (ad : Nat → Nat) (I : Nat → Nat) (AN : Nat → Nat → Nat) (AI : Nat → Nat → Int32) (AL : Nat → Nat → Int64) (sz : Nat) (sa : Nat → Nat) (u q : Int32) (hn3 : I 0 ≤ 3) (he3 : I 1 ≤ 3) (hdc : ∀ k, k < 7 → AN 5 k < 2 ^ 31) : vx_Met l yX2_plain (Cond.code yX2_plain cX2_plain 3 (some FieldType.long) :: GW) rmX2_plain (va_Pc [.ref (ad 0), .int u, .int q] (gX D cs (wT cs ad I AN AI AL) sz sa)) (va_Ql (fun (r : Int64) (w : TS) => isU (I 0) u = true ∧ agr (I 0) (I 1) (eqE (I 0) (I 1) AN AI AL) = true ∧ isPt q = true ∧ w = (Ieq I (I 0) (I 1) (eqE (I 0) (I 1) AN AI AL).1, (eqE (I 0) (I 1) AN AI AL).2.1, AI, (eqE (I 0) (I 1) AN AI AL).2.2) ∧ r = ppart (eqE (I 0) (I 1) AN AI AL).2.1 (eqE (I 0) (I 1) AN AI AL).2.2 (eqE (I 0) (I 1) AN AI AL).1 (I 0) u.toNatClampNeg q) (gB D cs (va_A (wT cs ad I AN AI AL) sz) (wTs cs ad)) (va_A (wT cs ad I AN AI AL) sz)) (vx_X (fun w : String × TS => (isU (I 0) u = false ∧ w = (xIOB, (I, AN, AI, AL))) ∨ (isU (I 0) u = true ∧ agr (I 0) (I 1) (eqE (I 0) (I 1) AN AI AL) = false ∧ w = (xISE, (Ieq I (I 0) (I 1) (eqE (I 0) (I 1) AN AI AL).1, (eqE (I 0) (I 1) AN AI AL).2.1, AI, (eqE (I 0) (I 1) AN AI AL).2.2))) ∨ (isU (I 0) u = true ∧ agr (I 0) (I 1) (eqE (I 0) (I 1) AN AI AL) = true ∧ isPt q = false ∧ w = (xIAE, (Ieq I (I 0) (I 1) (eqE (I 0) (I 1) AN AI AL).1, (eqE (I 0) (I 1) AN AI AL).2.1, AI, (eqE (I 0) (I 1) AN AI AL).2.2)))) (xB D cs (va_A (wT cs ad I AN AI AL) sz) (wTs cs ad)) (va_A (wT cs ad I AN AI AL) sz)) 1 6 (va_A (wT cs ad I AN AI AL) sz) := by
  refine vx_ofW (cc := cX2_plain) (maxL := 3) (ret := (some FieldType.long)) (by decide) rfl ?_
  intro p e s m args below meth c s₁ B hml htab hv
  obtain ⟨rfl, ⟨hsz, hP, hK, hD0, hN⟩, hX⟩ := hv
  have hx := B.exec
  have hb := B.bytes
  have hr := B.returns
  have hts : ∀ w ∈ GW, w.before _ s = true := fun w h => atoms_spec (ws := Cond.code yX2_plain cX2_plain 3 (some FieldType.long) :: GW) B.pre w (List.mem_cons_of_mem _ h)
  have hown : s.vm.findClass RX2 = some m.cls := findClass_of_methodNamed B.named
  have hlocks := B.notSynchronized
  subst hsz
  have hD := hD0.self (sz := s.heap.size)
  generalize hAe : va_A (wT cs ad I AN AI AL) s.heap.size = A at hD hX ⊢
  have hA : ∀ q : Nat, s.heap.size ≤ q → A q := fun q h => by rw [← hAe]; exact Or.inr h
  have hS : va_S A s.heap s.heap [] := va_S.rf
  have hl := lv_entry [.ref (ad 0), .int u, .int q] (n := 3) (Nat.le_of_ble_eq_true rfl)
  rw [lg_entry_eq]
  generalize (lg_sl [.ref (ad 0), .int u, .int q] ++ List.replicate (3 - (lg_sl [.ref (ad 0), .int u, .int q]).length) Slot.unset).toArray = ls at hl ⊢
  have hl : lv_has ls 3 [(0, .ref (ad 0)), (1, .int u), (2, .int q)] := hl
  generalize hargs : ([.ref (ad 0), .int u, .int q] : List Value).toArray = args at *
  show W p l e rmX2_plain s m args below meth c s.heap [] 0 0 _ (F0 m 0 ls [])
  refine lv_aload_n hx hb dX2_plain_0 rfl (lv_at hl 0 rfl) ?_
  refine lv_iload_n hx hb dX2_plain_1 rfl (lv_at hl 1 rfl) ?_
  refine g_calli (va_runV (As := [.int u]) (rest := []) ⟨hx, hb, hml, hown, hts⟩ (ctX2_isUnknown l D cs ad I AN AI AL _ u) (cwV 1 hts (gi_V gw_409 gw_411 gw_20 gw_53 gw_412) rfl rfl rfl (by decide +kernel) ⟨Nat.le_of_ble_eq_true rfl, Nat.le_of_ble_eq_true rfl⟩) ⟨g_blind, va_recv hK hP (ci := 2) (q0 := 0) rfl (wm_at (by decide) rfl), g_pre hP hK hD hN⟩ rfl rfl hl.1 rfl (lv_room (Nat.le_of_ble_eq_true rfl)) dX2_plain_2 ⟨Nat.zero_le _, Nat.zero_le _⟩) hD hS hA (fun r u H locs hw hP hD hS => ?_)
  obtain ⟨rfl, hw2⟩ := hw
  have hP : va_P D vc (wT cs ad I AN AI AL) H := hP
  have hD : va_D A (wT cs ad I AN AI AL) := hD
  have hw2 : r = bz (isU (I 0) u) := hw2
  subst hw2
  refine lv_if_ne (tgt := 18) hx hb dX2_plain_5 (by decide) (fun h => ?_) (fun h => ?_)
  · have hun : isU (I 0) u = true := bz_t h
    obtain ⟨u', rfl, hu⟩ := isU_spec hn3 hun
    have hl : lv_has ls 3 [(0, .ref (ad 0)), (1, .int (nI u')), (2, .int q)] := hl
    have cu := nI_cl (k := u') (by omega)
    rw [cu]
    refine lv_aload_n hx hb dX2_plain_18 rfl (lv_at hl 0 rfl) ?_
    refine g_callv (va_runV (As := []) (rest := []) ⟨hx, hb, hml, hown, hts⟩ (ctX2_eliminateEquations l D cs ad I AN AI AL _ hn3 he3) (cwV 0 hts (gi_V gw_150 gw_152 gw_0 gw_53 gw_153) rfl rfl rfl (by decide +kernel) ⟨Nat.le_of_ble_eq_true rfl, Nat.le_of_ble_eq_true rfl⟩) ⟨g_blind, va_recv hK hP (ci := 2) (q0 := 0) rfl (wm_at (by decide) rfl), g_pre hP hK hD hN⟩ rfl rfl hl.1 rfl (lv_room (Nat.le_of_ble_eq_true rfl)) dX2_plain_19 ⟨Nat.zero_le _, Nat.zero_le _⟩) hD hS hA (fun u H locs hw hP hD hS => ?_)
    obtain rfl := hw
    have hP : va_P D vc (wT cs ad (Ieq I (I 0) (I 1) (eqE (I 0) (I 1) AN AI AL).1) ((eqE (I 0) (I 1) AN AI AL).2.1) AI ((eqE (I 0) (I 1) AN AI AL).2.2)) H := hP
    have hD : va_D A (wT cs ad (Ieq I (I 0) (I 1) (eqE (I 0) (I 1) AN AI AL).1) ((eqE (I 0) (I 1) AN AI AL).2.1) AI ((eqE (I 0) (I 1) AN AI AL).2.2)) := hD
    have hle : (eqE (I 0) (I 1) AN AI AL).1 ≤ I 1 := eqE_le
    have hle2 : (eqE (I 0) (I 1) AN AI AL).1 ≤ I 0 := eqE_le2
    refine lv_aload_n hx hb dX2_plain_22 rfl (lv_at hl 0 rfl) ?_
    refine b_get (own := RX2) (C := RX2) (T := TX2) (N := 5) (ci := 2) (v := .ref (ad 2)) hx hb hts usX2 hown hK hP 0 (by decide) rfl rfl 2 (by decide) (hts _ gw_132) rfl dX2_plain_23 ?_
    refine g_calli (va_runVN (C := RX0) (As := []) (rest := []) ⟨hx, hb, hml, hown, hts⟩ (ctX0_agrees l D cs ad (Ieq I (I 0) (I 1) (eqE (I 0) (I 1) AN AI AL).1) ((eqE (I 0) (I 1) AN AI AL).2.1) AI ((eqE (I 0) (I 1) AN AI AL).2.2) _ (show I 0 ≤ 4 by omega) (show I 1 ≤ 7 by omega) hle) ⟨va_cnB 0 hts (gi_C gw_197) rfl rfl rfl (hN _ (by decide +kernel) : va_Nw (Cond.methodLinkNest "TriangularSystems" 71 ⟨"TriangularSystems$Elimination", "agrees", "()Z"⟩ "TriangularSystems") s) (hts _ gw_55) (by decide +kernel) ⟨Nat.le_of_ble_eq_true rfl, Nat.le_of_ble_eq_true rfl⟩, hts _ gw_196, hts _ gw_8⟩ ⟨g_blind, va_recv hK hP (ci := 0) (q0 := 2) rfl (wm_at (by decide) rfl), g_pre hP hK hD hN⟩ rfl rfl hl.1 rfl (lv_room (Nat.le_of_ble_eq_true rfl)) dX2_plain_26 ⟨Nat.zero_le _, Nat.zero_le _⟩) hD hS hA (fun r u H locs hw hP hD hS => ?_)
    obtain ⟨rfl, hw2⟩ := hw
    have hP : va_P D vc (wT cs ad (Ieq I (I 0) (I 1) (eqE (I 0) (I 1) AN AI AL).1) ((eqE (I 0) (I 1) AN AI AL).2.1) AI ((eqE (I 0) (I 1) AN AI AL).2.2)) H := hP
    have hD : va_D A (wT cs ad (Ieq I (I 0) (I 1) (eqE (I 0) (I 1) AN AI AL).1) ((eqE (I 0) (I 1) AN AI AL).2.1) AI ((eqE (I 0) (I 1) AN AI AL).2.2)) := hD
    have hw2 : r = bz (agr (I 0) (I 1) (eqE (I 0) (I 1) AN AI AL)) := hw2
    subst hw2
    refine lv_if_ne (tgt := 42) hx hb dX2_plain_29 (by decide) (fun h2 => ?_) (fun h2 => ?_)
    · have hag : agr (I 0) (I 1) (eqE (I 0) (I 1) AN AI AL) = true := bz_t h2
      refine lv_iload_n hx hb dX2_plain_42 rfl (lv_at hl 2 rfl) ?_
      refine g_calli (va_runS (As := [.int q]) (rest := []) ⟨hx, hb, hml, hown, hts⟩ (ctX2_isPart l D cs ad (Ieq I (I 0) (I 1) (eqE (I 0) (I 1) AN AI AL).1) ((eqE (I 0) (I 1) AN AI AL).2.1) AI ((eqE (I 0) (I 1) AN AI AL).2.2) _ q) (va_cwS 1 hts (gi_S gw_415 gw_416 gw_53 gw_417) rfl rfl rfl (by decide +kernel) ⟨Nat.le_of_ble_eq_true rfl, Nat.le_of_ble_eq_true rfl⟩) ⟨g_blind, g_pre hP hK hD hN⟩ rfl rfl hl.1 rfl (lv_room (Nat.le_of_ble_eq_true rfl)) dX2_plain_43 ⟨Nat.zero_le _, Nat.zero_le _⟩) hD hS hA (fun r u H locs hw hP hD hS => ?_)
      obtain ⟨rfl, hw2⟩ := hw
      have hP : va_P D vc (wT cs ad (Ieq I (I 0) (I 1) (eqE (I 0) (I 1) AN AI AL).1) ((eqE (I 0) (I 1) AN AI AL).2.1) AI ((eqE (I 0) (I 1) AN AI AL).2.2)) H := hP
      have hD : va_D A (wT cs ad (Ieq I (I 0) (I 1) (eqE (I 0) (I 1) AN AI AL).1) ((eqE (I 0) (I 1) AN AI AL).2.1) AI ((eqE (I 0) (I 1) AN AI AL).2.2)) := hD
      have hw2 : r = bz (isPt q) := hw2
      subst hw2
      refine lv_if_ne (tgt := 59) hx hb dX2_plain_46 (by decide) (fun h3 => ?_) (fun h3 => ?_)
      · have hpt : isPt q = true := bz_t h3
        refine lv_aload_n hx hb dX2_plain_59 rfl (lv_at hl 0 rfl) ?_
        refine b_get (own := RX2) (C := RX2) (T := TX2) (N := 5) (ci := 2) (v := .ref (ad 2)) hx hb hts usX2 hown hK hP 0 (by decide) rfl rfl 2 (by decide) (hts _ gw_132) rfl dX2_plain_60 ?_
        refine lv_iload_n hx hb dX2_plain_63 rfl (lv_at hl 1 rfl) ?_
        refine lv_iload_n hx hb dX2_plain_64 rfl (lv_at hl 2 rfl) ?_
        refine g_calll (va_runVN (C := RX0) (As := [.int (nI u'), .int q]) (rest := []) ⟨hx, hb, hml, hown, hts⟩ (ctX0_plainPart l D cs ad (Ieq I (I 0) (I 1) (eqE (I 0) (I 1) AN AI AL).1) ((eqE (I 0) (I 1) AN AI AL).2.1) AI ((eqE (I 0) (I 1) AN AI AL).2.2) _ u' q (show I 0 ≤ 4 by omega) (show (eqE (I 0) (I 1) AN AI AL).1 ≤ 7 by omega) (eqE_dc hn3 hdc) (by omega)) ⟨va_cnB 2 hts (gi_C gw_422) rfl rfl rfl (hN _ (by decide +kernel) : va_Nw (Cond.methodLinkNest "TriangularSystems" 92 ⟨"TriangularSystems$Elimination", "plainPart", "(II)J"⟩ "TriangularSystems") s) (hts _ gw_55) (by decide +kernel) ⟨Nat.le_of_ble_eq_true rfl, Nat.le_of_ble_eq_true rfl⟩, hts _ gw_421, hts _ gw_21⟩ ⟨g_blind, va_recv hK hP (ci := 0) (q0 := 2) rfl (wm_at (by decide) rfl), g_pre hP hK hD hN⟩ rfl rfl hl.1 rfl (lv_room (Nat.le_of_ble_eq_true rfl)) dX2_plain_65 ⟨Nat.zero_le _, Nat.zero_le _⟩) hD hS hA (fun r u H locs hw hP hD hS => ?_)
        obtain ⟨rfl, hw2⟩ := hw
        have hP : va_P D vc (wT cs ad (Ieq I (I 0) (I 1) (eqE (I 0) (I 1) AN AI AL).1) ((eqE (I 0) (I 1) AN AI AL).2.1) AI ((eqE (I 0) (I 1) AN AI AL).2.2)) H := hP
        have hD : va_D A (wT cs ad (Ieq I (I 0) (I 1) (eqE (I 0) (I 1) AN AI AL).1) ((eqE (I 0) (I 1) AN AI AL).2.1) AI ((eqE (I 0) (I 1) AN AI AL).2.2)) := hD
        exact vx_ret (w_widen (k := 1) (n := 6) (Nat.zero_le _) (Nat.zero_le _) (g_lret hx hb hr hlocks (Ieq I (I 0) (I 1) (eqE (I 0) (I 1) AN AI AL).1, (eqE (I 0) (I 1) AN AI AL).2.1, AI, (eqE (I 0) (I 1) AN AI AL).2.2) (⟨hun, hag, hpt, rfl, hw2⟩) hK hP hD hS dX2_plain_68))
      · have hpt : isPt q = false := bz_1.mp h3
        exact x_throw (cls := xIAE) (text := "the part isn't 0 or 1") (is := 90) hx hb hlt (by rw [hml]; exact hl.1) hown hts hlocks htab hK hX (by decide) gw_379 gw_63 (by decide) xa_IAE xb_IAE xc_IAE dX2_plain_49 dX2_plain_52 dX2_plain_53 dX2_plain_55 dX2_plain_58 (Nat.le_of_ble_eq_true rfl) (Nat.le_of_ble_eq_true rfl) (Nat.le_of_ble_eq_true rfl) (Nat.le_of_ble_eq_true rfl) (Ieq I (I 0) (I 1) (eqE (I 0) (I 1) AN AI AL).1, (eqE (I 0) (I 1) AN AI AL).2.1, AI, (eqE (I 0) (I 1) AN AI AL).2.2) (Or.inr (Or.inr ⟨hun, hag, hpt, rfl⟩)) hP hD hS
    · have hag : agr (I 0) (I 1) (eqE (I 0) (I 1) AN AI AL) = false := bz_1.mp h2
      exact x_throw (cls := xISE) (text := "there is no solution") (is := 85) hx hb hlt (by rw [hml]; exact hl.1) hown hts hlocks htab hK hX (by decide) gw_282 gw_61 (by decide) xa_ISE xb_ISE xc_ISE dX2_plain_32 dX2_plain_35 dX2_plain_36 dX2_plain_38 dX2_plain_41 (Nat.le_of_ble_eq_true rfl) (Nat.le_of_ble_eq_true rfl) (Nat.le_of_ble_eq_true rfl) (Nat.le_of_ble_eq_true rfl) (Ieq I (I 0) (I 1) (eqE (I 0) (I 1) AN AI AL).1, (eqE (I 0) (I 1) AN AI AL).2.1, AI, (eqE (I 0) (I 1) AN AI AL).2.2) (Or.inr (Or.inl ⟨hun, hag, rfl⟩)) hP hD hS
  · have hun : isU (I 0) u = false := bz_1.mp h
    exact x_throw (cls := xIOB) (text := "no such unknown") (is := 83) hx hb hlt (by rw [hml]; exact hl.1) hown hts hlocks htab hK hX (by decide) gw_363 gw_62 (by decide) xa_IOB xb_IOB xc_IOB dX2_plain_8 dX2_plain_11 dX2_plain_12 dX2_plain_14 dX2_plain_17 (Nat.le_of_ble_eq_true rfl) (Nat.le_of_ble_eq_true rfl) (Nat.le_of_ble_eq_true rfl) (Nat.le_of_ble_eq_true rfl) (I, AN, AI, AL) (Or.inl ⟨hun, rfl⟩) hP hD hS

abbrev rmX2_direction : Room := { frames := 6, cells := 1, slots := 6, locals := 147 }
set_option maxHeartbeats 4000000 in
set_option maxRecDepth 100000 in
/-- direction -/
theorem ctX2_direction (l : Launch) (hlt : l.stackTraces = false) (D : va_G) (cs : Nat → ClassId) (ad : Nat → Nat) (I : Nat → Nat) (AN : Nat → Nat → Nat) (AI : Nat → Nat → Int32) (AL : Nat → Nat → Int64) (sz : Nat) (sa : Nat → Nat) (k u q : Int32) (hn3 : I 0 ≤ 3) (he3 : I 1 ≤ 3) (hdc : ∀ k, k < 7 → AN 5 k < 2 ^ 31) : vx_Met l yX2_direction (Cond.code yX2_direction cX2_direction 5 (some FieldType.long) :: GW) rmX2_direction (va_Pc [.ref (ad 0), .int k, .int u, .int q] (gX D cs (wT cs ad I AN AI AL) sz sa)) (va_Ql (fun (r : Int64) (w : TS) => ∃ ch, fre (eqE (I 0) (I 1) AN AI AL).2.1 (eqE (I 0) (I 1) AN AI AL).1 k (I 0) 0 0 = some ch ∧ isU (I 0) u = true ∧ isPt q = true ∧ w = (Ieq I (I 0) (I 1) (eqE (I 0) (I 1) AN AI AL).1, (eqE (I 0) (I 1) AN AI AL).2.1, AI, (eqE (I 0) (I 1) AN AI AL).2.2) ∧ r = dpart (eqE (I 0) (I 1) AN AI AL).2.1 (eqE (I 0) (I 1) AN AI AL).2.2 (eqE (I 0) (I 1) AN AI AL).1 ch u.toNatClampNeg q) (gB D cs (va_A (wT cs ad I AN AI AL) sz) (wTs cs ad)) (va_A (wT cs ad I AN AI AL) sz)) (vx_X (fun w : String × TS => (¬ (fre (eqE (I 0) (I 1) AN AI AL).2.1 (eqE (I 0) (I 1) AN AI AL).1 k (I 0) 0 0 ≠ none ∧ isU (I 0) u = true) ∧ w = (xIOB, (Ieq I (I 0) (I 1) (eqE (I 0) (I 1) AN AI AL).1, (eqE (I 0) (I 1) AN AI AL).2.1, AI, (eqE (I 0) (I 1) AN AI AL).2.2))) ∨ (fre (eqE (I 0) (I 1) AN AI AL).2.1 (eqE (I 0) (I 1) AN AI AL).1 k (I 0) 0 0 ≠ none ∧ isU (I 0) u = true ∧ isPt q = false ∧ w = (xIAE, (Ieq I (I 0) (I 1) (eqE (I 0) (I 1) AN AI AL).1, (eqE (I 0) (I 1) AN AI AL).2.1, AI, (eqE (I 0) (I 1) AN AI AL).2.2)))) (xB D cs (va_A (wT cs ad I AN AI AL) sz) (wTs cs ad)) (va_A (wT cs ad I AN AI AL) sz)) 1 6 (va_A (wT cs ad I AN AI AL) sz) := by
  refine vx_ofW (cc := cX2_direction) (maxL := 5) (ret := (some FieldType.long)) (by decide) rfl ?_
  intro p e s m args below meth c s₁ B hml htab hv
  obtain ⟨rfl, ⟨hsz, hP, hK, hD0, hN⟩, hX⟩ := hv
  have hx := B.exec
  have hb := B.bytes
  have hr := B.returns
  have hts : ∀ w ∈ GW, w.before _ s = true := fun w h => atoms_spec (ws := Cond.code yX2_direction cX2_direction 5 (some FieldType.long) :: GW) B.pre w (List.mem_cons_of_mem _ h)
  have hown : s.vm.findClass RX2 = some m.cls := findClass_of_methodNamed B.named
  have hlocks := B.notSynchronized
  subst hsz
  have hD := hD0.self (sz := s.heap.size)
  generalize hAe : va_A (wT cs ad I AN AI AL) s.heap.size = A at hD hX ⊢
  have hA : ∀ q : Nat, s.heap.size ≤ q → A q := fun q h => by rw [← hAe]; exact Or.inr h
  have hS : va_S A s.heap s.heap [] := va_S.rf
  have hl := lv_entry [.ref (ad 0), .int k, .int u, .int q] (n := 5) (Nat.le_of_ble_eq_true rfl)
  rw [lg_entry_eq]
  generalize (lg_sl [.ref (ad 0), .int k, .int u, .int q] ++ List.replicate (5 - (lg_sl [.ref (ad 0), .int k, .int u, .int q]).length) Slot.unset).toArray = ls at hl ⊢
  have hl : lv_has ls 5 [(0, .ref (ad 0)), (1, .int k), (2, .int u), (3, .int q)] := hl
  generalize hargs : ([.ref (ad 0), .int k, .int u, .int q] : List Value).toArray = args at *
  show W p l e rmX2_direction s m args below meth c s.heap [] 0 0 _ (F0 m 0 ls [])
  refine lv_aload_n hx hb dX2_direction_0 rfl (lv_at hl 0 rfl) ?_
  refine g_callv (va_runV (As := []) (rest := []) ⟨hx, hb, hml, hown, hts⟩ (ctX2_eliminateEquations l D cs ad I AN AI AL _ hn3 he3) (cwV 0 hts (gi_V gw_150 gw_152 gw_0 gw_53 gw_153) rfl rfl rfl (by decide +kernel) ⟨Nat.le_of_ble_eq_true rfl, Nat.le_of_ble_eq_true rfl⟩) ⟨g_blind, va_recv hK hP (ci := 2) (q0 := 0) rfl (wm_at (by decide) rfl), g_pre hP hK hD hN⟩ rfl rfl hl.1 rfl (lv_room (Nat.le_of_ble_eq_true rfl)) dX2_direction_1 ⟨Nat.zero_le _, Nat.zero_le _⟩) hD hS hA (fun u H locs hw hP hD hS => ?_)
  obtain rfl := hw
  have hP : va_P D vc (wT cs ad (Ieq I (I 0) (I 1) (eqE (I 0) (I 1) AN AI AL).1) ((eqE (I 0) (I 1) AN AI AL).2.1) AI ((eqE (I 0) (I 1) AN AI AL).2.2)) H := hP
  have hD : va_D A (wT cs ad (Ieq I (I 0) (I 1) (eqE (I 0) (I 1) AN AI AL).1) ((eqE (I 0) (I 1) AN AI AL).2.1) AI ((eqE (I 0) (I 1) AN AI AL).2.2)) := hD
  have hle : (eqE (I 0) (I 1) AN AI AL).1 ≤ I 1 := eqE_le
  have hle2 : (eqE (I 0) (I 1) AN AI AL).1 ≤ I 0 := eqE_le2
  refine lv_aload_n hx hb dX2_direction_4 rfl (lv_at hl 0 rfl) ?_
  refine b_get (own := RX2) (C := RX2) (T := TX2) (N := 5) (ci := 2) (v := .ref (ad 2)) hx hb hts usX2 hown hK hP 0 (by decide) rfl rfl 2 (by decide) (hts _ gw_132) rfl dX2_direction_5 ?_
  refine lv_iload_n hx hb dX2_direction_8 rfl (lv_at hl 1 rfl) ?_
  refine g_calli (va_runVN (C := RX0) (As := [.int k]) (rest := []) ⟨hx, hb, hml, hown, hts⟩ (ctX0_freeUnknown l D cs ad (Ieq I (I 0) (I 1) (eqE (I 0) (I 1) AN AI AL).1) ((eqE (I 0) (I 1) AN AI AL).2.1) AI ((eqE (I 0) (I 1) AN AI AL).2.2) _ k (show I 0 ≤ 4 by omega) (show (eqE (I 0) (I 1) AN AI AL).1 ≤ 7 by omega) (eqE_dc hn3 hdc)) ⟨va_cnB 1 hts (gi_C gw_205) rfl rfl rfl (hN _ (by decide +kernel) : va_Nw (Cond.methodLinkNest "TriangularSystems" 75 ⟨"TriangularSystems$Elimination", "freeUnknown", "(I)I"⟩ "TriangularSystems") s) (hts _ gw_55) (by decide +kernel) ⟨Nat.le_of_ble_eq_true rfl, Nat.le_of_ble_eq_true rfl⟩, hts _ gw_204, hts _ gw_9⟩ ⟨g_blind, va_recv hK hP (ci := 0) (q0 := 2) rfl (wm_at (by decide) rfl), g_pre hP hK hD hN⟩ rfl rfl hl.1 rfl (lv_room (Nat.le_of_ble_eq_true rfl)) dX2_direction_9 ⟨Nat.zero_le _, Nat.zero_le _⟩) hD hS hA (fun r u H locs hw hP hD hS => ?_)
  obtain ⟨rfl, hw2⟩ := hw
  have hP : va_P D vc (wT cs ad (Ieq I (I 0) (I 1) (eqE (I 0) (I 1) AN AI AL).1) ((eqE (I 0) (I 1) AN AI AL).2.1) AI ((eqE (I 0) (I 1) AN AI AL).2.2)) H := hP
  have hD : va_D A (wT cs ad (Ieq I (I 0) (I 1) (eqE (I 0) (I 1) AN AI AL).1) ((eqE (I 0) (I 1) AN AI AL).2.1) AI ((eqE (I 0) (I 1) AN AI AL).2.2)) := hD
  have hw2 : r = enc (fre (eqE (I 0) (I 1) AN AI AL).2.1 (eqE (I 0) (I 1) AN AI AL).1 k (I 0) 0 0) := hw2
  subst hw2
  obtain ⟨ch, hch⟩ : ∃ ch, ch = fre (eqE (I 0) (I 1) AN AI AL).2.1 (eqE (I 0) (I 1) AN AI AL).1 k (I 0) 0 0 := ⟨_, rfl⟩
  rw [← hch]
  refine lv_istore (lv' := [(4, .int (enc ch)), (0, .ref (ad 0)), (1, .int k), (2, .int u), (3, .int q)]) hx hb dX2_direction_12 hl (by decide) rfl (fun ls hl => ?_)
  refine lv_iload hx hb dX2_direction_14 (lv_at hl 0 rfl) ?_
  cases ch with
  | none =>
    refine lv_if_lt (tgt := 27) hx hb dX2_direction_16 (by decide) (fun _ => ?_) (fun q => absurd (show enc none < 0 by decide) q)
    exact x_throw (cls := xIOB) (text := "no such direction or unknown") (is := 96) hx hb hlt (by rw [hml]; exact hl.1) hown hts hlocks htab hK hX (by decide) gw_363 gw_62 (by decide) xa_IOB xb_IOB xc_IOB dX2_direction_27 dX2_direction_30 dX2_direction_31 dX2_direction_33 dX2_direction_36 (Nat.le_of_ble_eq_true rfl) (Nat.le_of_ble_eq_true rfl) (Nat.le_of_ble_eq_true rfl) (Nat.le_of_ble_eq_true rfl) (Ieq I (I 0) (I 1) (eqE (I 0) (I 1) AN AI AL).1, (eqE (I 0) (I 1) AN AI AL).2.1, AI, (eqE (I 0) (I 1) AN AI AL).2.2) (Or.inl ⟨fun q => absurd rfl q.1, rfl⟩) hP hD hS
  | some ch =>
    have hc3 : ch < I 0 := by have := fre_lt _ _ _ _ hch.symm; omega
    have hl : lv_has ls 5 [(4, .int (nI ch)), (0, .ref (ad 0)), (1, .int k), (2, .int u), (3, .int q)] := hl
    refine lv_if_lt (tgt := 27) hx hb dX2_direction_16 (by decide) (fun q => absurd q (nI_nlt (a := ch) (b := 0) (Nat.zero_le _) (by omega))) (fun _ => ?_)
    refine lv_aload_n hx hb dX2_direction_19 rfl (lv_at hl 1 rfl) ?_
    refine lv_iload_n hx hb dX2_direction_20 rfl (lv_at hl 3 rfl) ?_
    refine g_calli (va_runV (As := [.int u]) (rest := []) ⟨hx, hb, hml, hown, hts⟩ (ctX2_isUnknown l D cs ad (Ieq I (I 0) (I 1) (eqE (I 0) (I 1) AN AI AL).1) ((eqE (I 0) (I 1) AN AI AL).2.1) AI ((eqE (I 0) (I 1) AN AI AL).2.2) _ u) (cwV 1 hts (gi_V gw_409 gw_411 gw_20 gw_53 gw_412) rfl rfl rfl (by decide +kernel) ⟨Nat.le_of_ble_eq_true rfl, Nat.le_of_ble_eq_true rfl⟩) ⟨g_blind, va_recv hK hP (ci := 2) (q0 := 0) rfl (wm_at (by decide) rfl), g_pre hP hK hD hN⟩ rfl rfl hl.1 rfl (lv_room (Nat.le_of_ble_eq_true rfl)) dX2_direction_21 ⟨Nat.zero_le _, Nat.zero_le _⟩) hD hS hA (fun r u H locs hw hP hD hS => ?_)
    obtain ⟨rfl, hw2⟩ := hw
    have hP : va_P D vc (wT cs ad (Ieq I (I 0) (I 1) (eqE (I 0) (I 1) AN AI AL).1) ((eqE (I 0) (I 1) AN AI AL).2.1) AI ((eqE (I 0) (I 1) AN AI AL).2.2)) H := hP
    have hD : va_D A (wT cs ad (Ieq I (I 0) (I 1) (eqE (I 0) (I 1) AN AI AL).1) ((eqE (I 0) (I 1) AN AI AL).2.1) AI ((eqE (I 0) (I 1) AN AI AL).2.2)) := hD
    have hw2 : r = bz (isU (I 0) u) := hw2
    subst hw2
    refine lv_if_ne (tgt := 37) hx hb dX2_direction_24 (by decide) (fun h => ?_) (fun h => ?_)
    · have hun : isU (I 0) u = true := bz_t h
      have hun2 := hun
      obtain ⟨u', rfl, hu⟩ := isU_spec hn3 hun
      have hl : lv_has ls 5 [(4, .int (nI ch)), (0, .ref (ad 0)), (1, .int k), (2, .int (nI u')), (3, .int q)] := hl
      have cu := nI_cl (k := u') (by omega)
      rw [cu]
      refine lv_iload_n hx hb dX2_direction_37 rfl (lv_at hl 4 rfl) ?_
      refine g_calli (va_runS (As := [.int q]) (rest := []) ⟨hx, hb, hml, hown, hts⟩ (ctX2_isPart l D cs ad (Ieq I (I 0) (I 1) (eqE (I 0) (I 1) AN AI AL).1) ((eqE (I 0) (I 1) AN AI AL).2.1) AI ((eqE (I 0) (I 1) AN AI AL).2.2) _ q) (va_cwS 1 hts (gi_S gw_415 gw_416 gw_53 gw_417) rfl rfl rfl (by decide +kernel) ⟨Nat.le_of_ble_eq_true rfl, Nat.le_of_ble_eq_true rfl⟩) ⟨g_blind, g_pre hP hK hD hN⟩ rfl rfl hl.1 rfl (lv_room (Nat.le_of_ble_eq_true rfl)) dX2_direction_38 ⟨Nat.zero_le _, Nat.zero_le _⟩) hD hS hA (fun r u H locs hw hP hD hS => ?_)
      obtain ⟨rfl, hw2⟩ := hw
      have hP : va_P D vc (wT cs ad (Ieq I (I 0) (I 1) (eqE (I 0) (I 1) AN AI AL).1) ((eqE (I 0) (I 1) AN AI AL).2.1) AI ((eqE (I 0) (I 1) AN AI AL).2.2)) H := hP
      have hD : va_D A (wT cs ad (Ieq I (I 0) (I 1) (eqE (I 0) (I 1) AN AI AL).1) ((eqE (I 0) (I 1) AN AI AL).2.1) AI ((eqE (I 0) (I 1) AN AI AL).2.2)) := hD
      have hw2 : r = bz (isPt q) := hw2
      subst hw2
      refine lv_if_ne (tgt := 54) hx hb dX2_direction_41 (by decide) (fun h3 => ?_) (fun h3 => ?_)
      · have hpt : isPt q = true := bz_t h3
        refine lv_aload_n hx hb dX2_direction_54 rfl (lv_at hl 1 rfl) ?_
        refine b_get (own := RX2) (C := RX2) (T := TX2) (N := 5) (ci := 2) (v := .ref (ad 2)) hx hb hts usX2 hown hK hP 0 (by decide) rfl rfl 2 (by decide) (hts _ gw_132) rfl dX2_direction_55 ?_
        refine lv_iload hx hb dX2_direction_58 (lv_at hl 0 rfl) ?_
        refine lv_iload_n hx hb dX2_direction_60 rfl (lv_at hl 3 rfl) ?_
        refine lv_iload_n hx hb dX2_direction_61 rfl (lv_at hl 4 rfl) ?_
        refine g_calll (va_runVN (C := RX0) (As := [.int (nI ch), .int (nI u'), .int q]) (rest := []) ⟨hx, hb, hml, hown, hts⟩ (ctX0_directionPart l D cs ad (Ieq I (I 0) (I 1) (eqE (I 0) (I 1) AN AI AL).1) ((eqE (I 0) (I 1) AN AI AL).2.1) AI ((eqE (I 0) (I 1) AN AI AL).2.2) _ ch u' q (show (eqE (I 0) (I 1) AN AI AL).1 ≤ 7 by omega) (eqE_dc hn3 hdc) (by omega) (by omega)) ⟨va_cnB 3 hts (gi_C gw_438) rfl rfl rfl (hN _ (by decide +kernel) : va_Nw (Cond.methodLinkNest "TriangularSystems" 98 ⟨"TriangularSystems$Elimination", "directionPart", "(III)J"⟩ "TriangularSystems") s) (hts _ gw_55) (by decide +kernel) ⟨Nat.le_of_ble_eq_true rfl, Nat.le_of_ble_eq_true rfl⟩, hts _ gw_437, hts _ gw_22⟩ ⟨g_blind, va_recv hK hP (ci := 0) (q0 := 2) rfl (wm_at (by decide) rfl), g_pre hP hK hD hN⟩ rfl rfl hl.1 rfl (lv_room (Nat.le_of_ble_eq_true rfl)) dX2_direction_62 ⟨Nat.zero_le _, Nat.zero_le _⟩) hD hS hA (fun r u H locs hw hP hD hS => ?_)
        obtain ⟨rfl, hw2⟩ := hw
        have hP : va_P D vc (wT cs ad (Ieq I (I 0) (I 1) (eqE (I 0) (I 1) AN AI AL).1) ((eqE (I 0) (I 1) AN AI AL).2.1) AI ((eqE (I 0) (I 1) AN AI AL).2.2)) H := hP
        have hD : va_D A (wT cs ad (Ieq I (I 0) (I 1) (eqE (I 0) (I 1) AN AI AL).1) ((eqE (I 0) (I 1) AN AI AL).2.1) AI ((eqE (I 0) (I 1) AN AI AL).2.2)) := hD
        exact vx_ret (w_widen (k := 1) (n := 6) (Nat.zero_le _) (Nat.zero_le _) (g_lret hx hb hr hlocks (Ieq I (I 0) (I 1) (eqE (I 0) (I 1) AN AI AL).1, (eqE (I 0) (I 1) AN AI AL).2.1, AI, (eqE (I 0) (I 1) AN AI AL).2.2) (⟨ch, rfl, hun, hpt, rfl, hw2⟩) hK hP hD hS dX2_direction_65))
      · have hpt : isPt q = false := bz_1.mp h3
        exact x_throw (cls := xIAE) (text := "the part isn't 0 or 1") (is := 90) hx hb hlt (by rw [hml]; exact hl.1) hown hts hlocks htab hK hX (by decide) gw_379 gw_63 (by decide) xa_IAE xb_IAE xc_IAE dX2_direction_44 dX2_direction_47 dX2_direction_48 dX2_direction_50 dX2_direction_53 (Nat.le_of_ble_eq_true rfl) (Nat.le_of_ble_eq_true rfl) (Nat.le_of_ble_eq_true rfl) (Nat.le_of_ble_eq_true rfl) (Ieq I (I 0) (I 1) (eqE (I 0) (I 1) AN AI AL).1, (eqE (I 0) (I 1) AN AI AL).2.1, AI, (eqE (I 0) (I 1) AN AI AL).2.2) (Or.inr ⟨(by intro q; cases q), hun, hpt, rfl⟩) hP hD hS
    · have hun : isU (I 0) u = false := bz_1.mp h
      exact x_throw (cls := xIOB) (text := "no such direction or unknown") (is := 96) hx hb hlt (by rw [hml]; exact hl.1) hown hts hlocks htab hK hX (by decide) gw_363 gw_62 (by decide) xa_IOB xb_IOB xc_IOB dX2_direction_27 dX2_direction_30 dX2_direction_31 dX2_direction_33 dX2_direction_36 (Nat.le_of_ble_eq_true rfl) (Nat.le_of_ble_eq_true rfl) (Nat.le_of_ble_eq_true rfl) (Nat.le_of_ble_eq_true rfl) (Ieq I (I 0) (I 1) (eqE (I 0) (I 1) AN AI AL).1, (eqE (I 0) (I 1) AN AI AL).2.1, AI, (eqE (I 0) (I 1) AN AI AL).2.2) (Or.inl ⟨(fun q => by rw [hun] at q; cases q.2), rfl⟩) hP hD hS

abbrev rmX2_base : Room := { frames := 6, cells := 1, slots := 6, locals := 115 }
set_option maxHeartbeats 4000000 in
set_option maxRecDepth 100000 in
/-- base -/
theorem ctX2_base (l : Launch) (hlt : l.stackTraces = false) (D : va_G) (cs : Nat → ClassId) (ad : Nat → Nat) (I : Nat → Nat) (AN : Nat → Nat → Nat) (AI : Nat → Nat → Int32) (AL : Nat → Nat → Int64) (sz : Nat) (sa : Nat → Nat) (k u : Int32) (hn3 : I 0 ≤ 3) (he3 : I 1 ≤ 3) (hbg : ∀ r, r < 3 → AN 7 r < 6) : vx_Met l yX2_base (Cond.code yX2_base cX2_base 3 (some FieldType.long) :: GW) rmX2_base (va_Pc [.ref (ad 0), .int k, .int u] (gX D cs (wT cs ad I AN AI AL) sz sa)) (va_Ql (fun (r : Int64) (w : TS) => decide (¬ k < 0 ∧ k < nI (mbs (spL (I 0) (I 1) AN AI AL).1 (I 0))) = true ∧ isU (I 0) u = true ∧ w = (up1 I 5 (I 0), (spL (I 0) (I 1) AN AI AL).1, AI, (spL (I 0) (I 1) AN AI AL).2) ∧ r = (spL (I 0) (I 1) AN AI AL).2 (I 0 - mbs (spL (I 0) (I 1) AN AI AL).1 (I 0) + k.toNatClampNeg + 18) (3 + u.toNatClampNeg)) (gB D cs (va_A (wT cs ad I AN AI AL) sz) (wTs cs ad)) (va_A (wT cs ad I AN AI AL) sz)) (vx_X (fun w : String × TS => ¬ (decide (¬ k < 0 ∧ k < nI (mbs (spL (I 0) (I 1) AN AI AL).1 (I 0))) = true ∧ isU (I 0) u = true) ∧ w = (xIOB, (up1 I 5 (I 0), (spL (I 0) (I 1) AN AI AL).1, AI, (spL (I 0) (I 1) AN AI AL).2))) (xB D cs (va_A (wT cs ad I AN AI AL) sz) (wTs cs ad)) (va_A (wT cs ad I AN AI AL) sz)) 1 6 (va_A (wT cs ad I AN AI AL) sz) := by
  refine vx_ofW (cc := cX2_base) (maxL := 3) (ret := (some FieldType.long)) (by decide) rfl ?_
  intro p e s m args below meth c s₁ B hml htab hv
  obtain ⟨rfl, ⟨hsz, hP, hK, hD0, hN⟩, hX⟩ := hv
  have hx := B.exec
  have hb := B.bytes
  have hr := B.returns
  have hts : ∀ w ∈ GW, w.before _ s = true := fun w h => atoms_spec (ws := Cond.code yX2_base cX2_base 3 (some FieldType.long) :: GW) B.pre w (List.mem_cons_of_mem _ h)
  have hown : s.vm.findClass RX2 = some m.cls := findClass_of_methodNamed B.named
  have hlocks := B.notSynchronized
  subst hsz
  have hD := hD0.self (sz := s.heap.size)
  generalize hAe : va_A (wT cs ad I AN AI AL) s.heap.size = A at hD hX ⊢
  have hA : ∀ q : Nat, s.heap.size ≤ q → A q := fun q h => by rw [← hAe]; exact Or.inr h
  have hS : va_S A s.heap s.heap [] := va_S.rf
  have hl := lv_entry [.ref (ad 0), .int k, .int u] (n := 3) (Nat.le_of_ble_eq_true rfl)
  rw [lg_entry_eq]
  generalize (lg_sl [.ref (ad 0), .int k, .int u] ++ List.replicate (3 - (lg_sl [.ref (ad 0), .int k, .int u]).length) Slot.unset).toArray = ls at hl ⊢
  have hl : lv_has ls 3 [(0, .ref (ad 0)), (1, .int k), (2, .int u)] := hl
  generalize hargs : ([.ref (ad 0), .int k, .int u] : List Value).toArray = args at *
  show W p l e rmX2_base s m args below meth c s.heap [] 0 0 _ (F0 m 0 ls [])
  refine lv_aload_n hx hb dX2_base_0 rfl (lv_at hl 0 rfl) ?_
  refine g_callv (va_runV (As := []) (rest := []) ⟨hx, hb, hml, hown, hts⟩ (ctX2_spanLattice l D cs ad I AN AI AL _ hn3 he3 hbg) (cwV 0 hts (gi_V gw_214 gw_216 gw_11 gw_53 gw_217) rfl rfl rfl (by decide +kernel) ⟨Nat.le_of_ble_eq_true rfl, Nat.le_of_ble_eq_true rfl⟩) ⟨g_blind, va_recv hK hP (ci := 2) (q0 := 0) rfl (wm_at (by decide) rfl), g_pre hP hK hD hN⟩ rfl rfl hl.1 rfl (lv_room (Nat.le_of_ble_eq_true rfl)) dX2_base_1 ⟨Nat.zero_le _, Nat.zero_le _⟩) hD hS hA (fun u H locs hw hP hD hS => ?_)
  obtain rfl := hw
  have hP : va_P D vc (wT cs ad (up1 I 5 (I 0)) ((spL (I 0) (I 1) AN AI AL).1) AI ((spL (I 0) (I 1) AN AI AL).2)) H := hP
  have hD : va_D A (wT cs ad (up1 I 5 (I 0)) ((spL (I 0) (I 1) AN AI AL).1) AI ((spL (I 0) (I 1) AN AI AL).2)) := hD
  have hbg2 : ∀ r, r < 3 → (spL (I 0) (I 1) AN AI AL).1 7 r < 6 := sp_bg hbg
  refine lv_iload_n hx hb dX2_base_4 rfl (lv_at hl 1 rfl) ?_
  refine lv_if_lt (tgt := 27) hx hb dX2_base_5 (by decide) (fun h0 => ?_) (fun h0 => ?_)
  · exact x_throw (cls := xIOB) (text := "no such member of the base or unknown") (is := 112) hx hb hlt (by rw [hml]; exact hl.1) hown hts hlocks htab hK hX (by decide) gw_363 gw_62 (by decide) xa_IOB xb_IOB xc_IOB dX2_base_27 dX2_base_30 dX2_base_31 dX2_base_33 dX2_base_36 (Nat.le_of_ble_eq_true rfl) (Nat.le_of_ble_eq_true rfl) (Nat.le_of_ble_eq_true rfl) (Nat.le_of_ble_eq_true rfl) (up1 I 5 (I 0), (spL (I 0) (I 1) AN AI AL).1, AI, (spL (I 0) (I 1) AN AI AL).2) (⟨fun q => (of_decide_eq_true q.1).1 h0, rfl⟩) hP hD hS
  · refine lv_iload_n hx hb dX2_base_8 rfl (lv_at hl 1 rfl) ?_
    refine lv_aload_n hx hb dX2_base_9 rfl (lv_at hl 0 rfl) ?_
    refine b_get (own := RX2) (C := RX2) (T := TX2) (N := 5) (ci := 2) (v := .ref (ad 3)) hx hb hts usX2 hown hK hP 0 (by decide) rfl rfl 3 (by decide) (hts _ gw_133) rfl dX2_base_10 ?_
    refine g_calli (va_runVN (C := RX1) (As := []) (rest := [.int k]) ⟨hx, hb, hml, hown, hts⟩ (ctX1_members l D cs ad (up1 I 5 (I 0)) ((spL (I 0) (I 1) AN AI AL).1) AI ((spL (I 0) (I 1) AN AI AL).2) _ (show I 0 ≤ 3 from hn3) hbg2) ⟨va_cnB 0 hts (gi_C gw_449) rfl rfl rfl (hN _ (by decide +kernel) : va_Nw (Cond.methodLinkNest "TriangularSystems" 108 ⟨"TriangularSystems$Lattice", "members", "()I"⟩ "TriangularSystems") s) (hts _ gw_56) (by decide +kernel) ⟨Nat.le_of_ble_eq_true rfl, Nat.le_of_ble_eq_true rfl⟩, hts _ gw_448, hts _ gw_23⟩ ⟨g_blind, va_recv hK hP (ci := 1) (q0 := 3) rfl (wm_at (by decide) rfl), g_pre hP hK hD hN⟩ rfl rfl hl.1 rfl (lv_room (Nat.le_of_ble_eq_true rfl)) dX2_base_13 ⟨Nat.zero_le _, Nat.zero_le _⟩) hD hS hA (fun r u H locs hw hP hD hS => ?_)
    obtain ⟨rfl, hw2⟩ := hw
    have hP : va_P D vc (wT cs ad (up1 I 5 (I 0)) ((spL (I 0) (I 1) AN AI AL).1) AI ((spL (I 0) (I 1) AN AI AL).2)) H := hP
    have hD : va_D A (wT cs ad (up1 I 5 (I 0)) ((spL (I 0) (I 1) AN AI AL).1) AI ((spL (I 0) (I 1) AN AI AL).2)) := hD
    have hw2 : r = nI (mbs (spL (I 0) (I 1) AN AI AL).1 (I 0)) := hw2
    subst hw2
    have hmb : mbs (spL (I 0) (I 1) AN AI AL).1 (I 0) ≤ 0 + I 0 := mbs_le (AN := (spL (I 0) (I 1) AN AI AL).1) (I 0) 0 0
    refine lv_icmp_ge (tgt := 27) hx hb dX2_base_16 (by decide) (fun h1 => ?_) (fun h1 => ?_)
    · exact x_throw (cls := xIOB) (text := "no such member of the base or unknown") (is := 112) hx hb hlt (by rw [hml]; exact hl.1) hown hts hlocks htab hK hX (by decide) gw_363 gw_62 (by decide) xa_IOB xb_IOB xc_IOB dX2_base_27 dX2_base_30 dX2_base_31 dX2_base_33 dX2_base_36 (Nat.le_of_ble_eq_true rfl) (Nat.le_of_ble_eq_true rfl) (Nat.le_of_ble_eq_true rfl) (Nat.le_of_ble_eq_true rfl) (up1 I 5 (I 0), (spL (I 0) (I 1) AN AI AL).1, AI, (spL (I 0) (I 1) AN AI AL).2) (⟨fun q => (i32_nlt.mpr h1) (of_decide_eq_true q.1).2, rfl⟩) hP hD hS
    · have hkm : decide (¬ k < 0 ∧ k < nI (mbs (spL (I 0) (I 1) AN AI AL).1 (I 0))) = true := decide_eq_true ⟨h0, i32_nle.mp h1⟩
      refine lv_aload_n hx hb dX2_base_19 rfl (lv_at hl 0 rfl) ?_
      refine lv_iload_n hx hb dX2_base_20 rfl (lv_at hl 2 rfl) ?_
      refine g_calli (va_runV (As := [.int u]) (rest := []) ⟨hx, hb, hml, hown, hts⟩ (ctX2_isUnknown l D cs ad (up1 I 5 (I 0)) ((spL (I 0) (I 1) AN AI AL).1) AI ((spL (I 0) (I 1) AN AI AL).2) _ u) (cwV 1 hts (gi_V gw_409 gw_411 gw_20 gw_53 gw_412) rfl rfl rfl (by decide +kernel) ⟨Nat.le_of_ble_eq_true rfl, Nat.le_of_ble_eq_true rfl⟩) ⟨g_blind, va_recv hK hP (ci := 2) (q0 := 0) rfl (wm_at (by decide) rfl), g_pre hP hK hD hN⟩ rfl rfl hl.1 rfl (lv_room (Nat.le_of_ble_eq_true rfl)) dX2_base_21 ⟨Nat.zero_le _, Nat.zero_le _⟩) hD hS hA (fun r u H locs hw hP hD hS => ?_)
      obtain ⟨rfl, hw2⟩ := hw
      have hP : va_P D vc (wT cs ad (up1 I 5 (I 0)) ((spL (I 0) (I 1) AN AI AL).1) AI ((spL (I 0) (I 1) AN AI AL).2)) H := hP
      have hD : va_D A (wT cs ad (up1 I 5 (I 0)) ((spL (I 0) (I 1) AN AI AL).1) AI ((spL (I 0) (I 1) AN AI AL).2)) := hD
      have hw2 : r = bz (isU (I 0) u) := hw2
      subst hw2
      refine lv_if_ne (tgt := 37) hx hb dX2_base_24 (by decide) (fun h => ?_) (fun h => ?_)
      · have hun : isU (I 0) u = true := bz_t h
        obtain ⟨u', rfl, hu⟩ := isU_spec hn3 hun
        have hl : lv_has ls 3 [(0, .ref (ad 0)), (1, .int k), (2, .int (nI u'))] := hl
        have cu := nI_cl (k := u') (by omega)
        rw [cu]
        obtain ⟨k', hk31, rfl⟩ := nI_of h0
        have hl : lv_has ls 3 [(0, .ref (ad 0)), (1, .int (nI k')), (2, .int (nI u'))] := hl
        have hk : k' < mbs (spL (I 0) (I 1) AN AI AL).1 (I 0) := (nI_ltI hk31 (by omega)).mp (i32_nle.mp h1)
        have ck := nI_cl (k := k') (by omega)
        rw [ck]
        refine lv_aload_n hx hb dX2_base_37 rfl (lv_at hl 0 rfl) ?_
        refine b_get (own := RX2) (C := RX2) (T := TX2) (N := 5) (ci := 2) (v := .ref (ad 3)) hx hb hts usX2 hown hK hP 0 (by decide) rfl rfl 3 (by decide) (hts _ gw_133) rfl dX2_base_38 ?_
        refine lv_iload_n hx hb dX2_base_41 rfl (lv_at hl 1 rfl) ?_
        refine lv_iload_n hx hb dX2_base_42 rfl (lv_at hl 2 rfl) ?_
        refine g_calll (va_runVN (C := RX1) (As := [.int (nI k'), .int (nI u')]) (rest := []) ⟨hx, hb, hml, hown, hts⟩ (ctX1_member l D cs ad (up1 I 5 (I 0)) ((spL (I 0) (I 1) AN AI AL).1) AI ((spL (I 0) (I 1) AN AI AL).2) _ k' u' (show I 0 ≤ 3 from hn3) hbg2 hk (by omega)) ⟨va_cnB 2 hts (gi_C gw_454) rfl rfl rfl (hN _ (by decide +kernel) : va_Nw (Cond.methodLinkNest "TriangularSystems" 114 ⟨"TriangularSystems$Lattice", "member", "(II)J"⟩ "TriangularSystems") s) (hts _ gw_56) (by decide +kernel) ⟨Nat.le_of_ble_eq_true rfl, Nat.le_of_ble_eq_true rfl⟩, hts _ gw_453, hts _ gw_24⟩ ⟨g_blind, va_recv hK hP (ci := 1) (q0 := 3) rfl (wm_at (by decide) rfl), g_pre hP hK hD hN⟩ rfl rfl hl.1 rfl (lv_room (Nat.le_of_ble_eq_true rfl)) dX2_base_43 ⟨Nat.zero_le _, Nat.zero_le _⟩) hD hS hA (fun r u H locs hw hP hD hS => ?_)
        obtain ⟨rfl, hw2⟩ := hw
        have hP : va_P D vc (wT cs ad (up1 I 5 (I 0)) ((spL (I 0) (I 1) AN AI AL).1) AI ((spL (I 0) (I 1) AN AI AL).2)) H := hP
        have hD : va_D A (wT cs ad (up1 I 5 (I 0)) ((spL (I 0) (I 1) AN AI AL).1) AI ((spL (I 0) (I 1) AN AI AL).2)) := hD
        exact vx_ret (w_widen (k := 1) (n := 6) (Nat.zero_le _) (Nat.zero_le _) (g_lret hx hb hr hlocks (up1 I 5 (I 0), (spL (I 0) (I 1) AN AI AL).1, AI, (spL (I 0) (I 1) AN AI AL).2) (⟨hkm, hun, rfl, hw2⟩) hK hP hD hS dX2_base_46))
      · have hun : isU (I 0) u = false := bz_1.mp h
        exact x_throw (cls := xIOB) (text := "no such member of the base or unknown") (is := 112) hx hb hlt (by rw [hml]; exact hl.1) hown hts hlocks htab hK hX (by decide) gw_363 gw_62 (by decide) xa_IOB xb_IOB xc_IOB dX2_base_27 dX2_base_30 dX2_base_31 dX2_base_33 dX2_base_36 (Nat.le_of_ble_eq_true rfl) (Nat.le_of_ble_eq_true rfl) (Nat.le_of_ble_eq_true rfl) (Nat.le_of_ble_eq_true rfl) (up1 I 5 (I 0), (spL (I 0) (I 1) AN AI AL).1, AI, (spL (I 0) (I 1) AN AI AL).2) (⟨(fun q => by rw [hun] at q; cases q.2), rfl⟩) hP hD hS

abbrev rmX2_least : Room := { frames := 6, cells := 1, slots := 6, locals := 115 }
set_option maxHeartbeats 4000000 in
set_option maxRecDepth 100000 in
/-- least -/
theorem ctX2_least (l : Launch) (hlt : l.stackTraces = false) (D : va_G) (cs : Nat → ClassId) (ad : Nat → Nat) (I : Nat → Nat) (AN : Nat → Nat → Nat) (AI : Nat → Nat → Int32) (AL : Nat → Nat → Int64) (sz : Nat) (sa : Nat → Nat) (u : Int32) (hn3 : I 0 ≤ 3) (he3 : I 1 ≤ 3) (hbg : ∀ r, r < 3 → AN 7 r < 6) : vx_Met l yX2_least (Cond.code yX2_least cX2_least 2 (some FieldType.long) :: GW) rmX2_least (va_Pc [.ref (ad 0), .int u] (gX D cs (wT cs ad I AN AI AL) sz sa)) (va_Ql (fun (r : Int64) (w : TS) => isU (I 0) u = true ∧ (fnd (fun k => (spL (I 0) (I 1) AN AI AL).2 21 k ≠ 0) 3 0).isNone = true ∧ w = (up1 I 5 (I 0), (spL (I 0) (I 1) AN AI AL).1, AI, (spL (I 0) (I 1) AN AI AL).2) ∧ r = (spL (I 0) (I 1) AN AI AL).2 21 (3 + u.toNatClampNeg)) (gB D cs (va_A (wT cs ad I AN AI AL) sz) (wTs cs ad)) (va_A (wT cs ad I AN AI AL) sz)) (vx_X (fun w : String × TS => (isU (I 0) u = false ∧ w = (xIOB, (I, AN, AI, AL))) ∨ (isU (I 0) u = true ∧ (fnd (fun k => (spL (I 0) (I 1) AN AI AL).2 21 k ≠ 0) 3 0).isNone = false ∧ w = (xISE, (up1 I 5 (I 0), (spL (I 0) (I 1) AN AI AL).1, AI, (spL (I 0) (I 1) AN AI AL).2)))) (xB D cs (va_A (wT cs ad I AN AI AL) sz) (wTs cs ad)) (va_A (wT cs ad I AN AI AL) sz)) 1 6 (va_A (wT cs ad I AN AI AL) sz) := by
  refine vx_ofW (cc := cX2_least) (maxL := 2) (ret := (some FieldType.long)) (by decide) rfl ?_
  intro p e s m args below meth c s₁ B hml htab hv
  obtain ⟨rfl, ⟨hsz, hP, hK, hD0, hN⟩, hX⟩ := hv
  have hx := B.exec
  have hb := B.bytes
  have hr := B.returns
  have hts : ∀ w ∈ GW, w.before _ s = true := fun w h => atoms_spec (ws := Cond.code yX2_least cX2_least 2 (some FieldType.long) :: GW) B.pre w (List.mem_cons_of_mem _ h)
  have hown : s.vm.findClass RX2 = some m.cls := findClass_of_methodNamed B.named
  have hlocks := B.notSynchronized
  subst hsz
  have hD := hD0.self (sz := s.heap.size)
  generalize hAe : va_A (wT cs ad I AN AI AL) s.heap.size = A at hD hX ⊢
  have hA : ∀ q : Nat, s.heap.size ≤ q → A q := fun q h => by rw [← hAe]; exact Or.inr h
  have hS : va_S A s.heap s.heap [] := va_S.rf
  have hl := lv_entry [.ref (ad 0), .int u] (n := 2) (Nat.le_of_ble_eq_true rfl)
  rw [lg_entry_eq]
  generalize (lg_sl [.ref (ad 0), .int u] ++ List.replicate (2 - (lg_sl [.ref (ad 0), .int u]).length) Slot.unset).toArray = ls at hl ⊢
  have hl : lv_has ls 2 [(0, .ref (ad 0)), (1, .int u)] := hl
  generalize hargs : ([.ref (ad 0), .int u] : List Value).toArray = args at *
  show W p l e rmX2_least s m args below meth c s.heap [] 0 0 _ (F0 m 0 ls [])
  refine lv_aload_n hx hb dX2_least_0 rfl (lv_at hl 0 rfl) ?_
  refine lv_iload_n hx hb dX2_least_1 rfl (lv_at hl 1 rfl) ?_
  refine g_calli (va_runV (As := [.int u]) (rest := []) ⟨hx, hb, hml, hown, hts⟩ (ctX2_isUnknown l D cs ad I AN AI AL _ u) (cwV 1 hts (gi_V gw_409 gw_411 gw_20 gw_53 gw_412) rfl rfl rfl (by decide +kernel) ⟨Nat.le_of_ble_eq_true rfl, Nat.le_of_ble_eq_true rfl⟩) ⟨g_blind, va_recv hK hP (ci := 2) (q0 := 0) rfl (wm_at (by decide) rfl), g_pre hP hK hD hN⟩ rfl rfl hl.1 rfl (lv_room (Nat.le_of_ble_eq_true rfl)) dX2_least_2 ⟨Nat.zero_le _, Nat.zero_le _⟩) hD hS hA (fun r u H locs hw hP hD hS => ?_)
  obtain ⟨rfl, hw2⟩ := hw
  have hP : va_P D vc (wT cs ad I AN AI AL) H := hP
  have hD : va_D A (wT cs ad I AN AI AL) := hD
  have hw2 : r = bz (isU (I 0) u) := hw2
  subst hw2
  refine lv_if_ne (tgt := 18) hx hb dX2_least_5 (by decide) (fun h => ?_) (fun h => ?_)
  · have hun : isU (I 0) u = true := bz_t h
    obtain ⟨u', rfl, hu⟩ := isU_spec hn3 hun
    have hl : lv_has ls 2 [(0, .ref (ad 0)), (1, .int (nI u'))] := hl
    have cu := nI_cl (k := u') (by omega)
    rw [cu]
    refine lv_aload_n hx hb dX2_least_18 rfl (lv_at hl 0 rfl) ?_
    refine g_callv (va_runV (As := []) (rest := []) ⟨hx, hb, hml, hown, hts⟩ (ctX2_spanLattice l D cs ad I AN AI AL _ hn3 he3 hbg) (cwV 0 hts (gi_V gw_214 gw_216 gw_11 gw_53 gw_217) rfl rfl rfl (by decide +kernel) ⟨Nat.le_of_ble_eq_true rfl, Nat.le_of_ble_eq_true rfl⟩) ⟨g_blind, va_recv hK hP (ci := 2) (q0 := 0) rfl (wm_at (by decide) rfl), g_pre hP hK hD hN⟩ rfl rfl hl.1 rfl (lv_room (Nat.le_of_ble_eq_true rfl)) dX2_least_19 ⟨Nat.zero_le _, Nat.zero_le _⟩) hD hS hA (fun u H locs hw hP hD hS => ?_)
    obtain rfl := hw
    have hP : va_P D vc (wT cs ad (up1 I 5 (I 0)) ((spL (I 0) (I 1) AN AI AL).1) AI ((spL (I 0) (I 1) AN AI AL).2)) H := hP
    have hD : va_D A (wT cs ad (up1 I 5 (I 0)) ((spL (I 0) (I 1) AN AI AL).1) AI ((spL (I 0) (I 1) AN AI AL).2)) := hD
    have hbg2 : ∀ r, r < 3 → (spL (I 0) (I 1) AN AI AL).1 7 r < 6 := sp_bg hbg
    refine lv_aload_n hx hb dX2_least_22 rfl (lv_at hl 0 rfl) ?_
    refine b_get (own := RX2) (C := RX2) (T := TX2) (N := 5) (ci := 2) (v := .ref (ad 3)) hx hb hts usX2 hown hK hP 0 (by decide) rfl rfl 3 (by decide) (hts _ gw_133) rfl dX2_least_23 ?_
    refine g_calli (va_runVN (C := RX1) (As := []) (rest := []) ⟨hx, hb, hml, hown, hts⟩ (ctX1_isReached l D cs ad (up1 I 5 (I 0)) ((spL (I 0) (I 1) AN AI AL).1) AI ((spL (I 0) (I 1) AN AI AL).2) _ ) ⟨va_cnB 0 hts (gi_C gw_254) rfl rfl rfl (hN _ (by decide +kernel) : va_Nw (Cond.methodLinkNest "TriangularSystems" 105 ⟨"TriangularSystems$Lattice", "isReached", "()Z"⟩ "TriangularSystems") s) (hts _ gw_56) (by decide +kernel) ⟨Nat.le_of_ble_eq_true rfl, Nat.le_of_ble_eq_true rfl⟩, hts _ gw_253, hts _ gw_16⟩ ⟨g_blind, va_recv hK hP (ci := 1) (q0 := 3) rfl (wm_at (by decide) rfl), g_pre hP hK hD hN⟩ rfl rfl hl.1 rfl (lv_room (Nat.le_of_ble_eq_true rfl)) dX2_least_26 ⟨Nat.zero_le _, Nat.zero_le _⟩) hD hS hA (fun r u H locs hw hP hD hS => ?_)
    obtain ⟨rfl, hw2⟩ := hw
    have hP : va_P D vc (wT cs ad (up1 I 5 (I 0)) ((spL (I 0) (I 1) AN AI AL).1) AI ((spL (I 0) (I 1) AN AI AL).2)) H := hP
    have hD : va_D A (wT cs ad (up1 I 5 (I 0)) ((spL (I 0) (I 1) AN AI AL).1) AI ((spL (I 0) (I 1) AN AI AL).2)) := hD
    have hw2 : r = bz ((fnd (fun k => (spL (I 0) (I 1) AN AI AL).2 21 k ≠ 0) 3 0).isNone) := hw2
    subst hw2
    refine lv_if_ne (tgt := 42) hx hb dX2_least_29 (by decide) (fun h2 => ?_) (fun h2 => ?_)
    · have hre : (fnd (fun k => (spL (I 0) (I 1) AN AI AL).2 21 k ≠ 0) 3 0).isNone = true := bz_t h2
      refine lv_aload_n hx hb dX2_least_42 rfl (lv_at hl 0 rfl) ?_
      refine b_get (own := RX2) (C := RX2) (T := TX2) (N := 5) (ci := 2) (v := .ref (ad 3)) hx hb hts usX2 hown hK hP 0 (by decide) rfl rfl 3 (by decide) (hts _ gw_133) rfl dX2_least_43 ?_
      refine b_getN (own := RX2) (C := RX1) (host := RX2) (T := TX1) (N := 4) (ci := 1) (v := .ref (ad 21)) hx hb hts usX1 hown hK hP 3 (by decide) rfl rfl 2 (by decide) (hN _ (by decide +kernel)) rfl dX2_least_46 ?_
      refine lv_iconst (v := nI 3) hx hb dX2_least_49 (by decide) ?_
      refine lv_iload_n hx hb dX2_least_50 rfl (lv_at hl 1 rfl) ?_
      refine b_addn hx hb dX2_least_51 ?_
      refine tL_ld (i := 3) hx hb hK hP (by omega) (by omega) dX2_least_52 ?_
      exact vx_ret (w_widen (k := 1) (n := 6) (Nat.zero_le _) (Nat.zero_le _) (g_lret hx hb hr hlocks (up1 I 5 (I 0), (spL (I 0) (I 1) AN AI AL).1, AI, (spL (I 0) (I 1) AN AI AL).2) (⟨hun, hre, rfl, rfl⟩) hK hP hD hS dX2_least_53))
    · have hre : (fnd (fun k => (spL (I 0) (I 1) AN AI AL).2 21 k ≠ 0) 3 0).isNone = false := bz_1.mp h2
      exact x_throw (cls := xISE) (text := "there is no whole solution") (is := 117) hx hb hlt (by rw [hml]; exact hl.1) hown hts hlocks htab hK hX (by decide) gw_282 gw_61 (by decide) xa_ISE xb_ISE xc_ISE dX2_least_32 dX2_least_35 dX2_least_36 dX2_least_38 dX2_least_41 (Nat.le_of_ble_eq_true rfl) (Nat.le_of_ble_eq_true rfl) (Nat.le_of_ble_eq_true rfl) (Nat.le_of_ble_eq_true rfl) (up1 I 5 (I 0), (spL (I 0) (I 1) AN AI AL).1, AI, (spL (I 0) (I 1) AN AI AL).2) (Or.inr ⟨hun, hre, rfl⟩) hP hD hS
  · have hun : isU (I 0) u = false := bz_1.mp h
    exact x_throw (cls := xIOB) (text := "no such unknown") (is := 83) hx hb hlt (by rw [hml]; exact hl.1) hown hts hlocks htab hK hX (by decide) gw_363 gw_62 (by decide) xa_IOB xb_IOB xc_IOB dX2_least_8 dX2_least_11 dX2_least_12 dX2_least_14 dX2_least_17 (Nat.le_of_ble_eq_true rfl) (Nat.le_of_ble_eq_true rfl) (Nat.le_of_ble_eq_true rfl) (Nat.le_of_ble_eq_true rfl) (I, AN, AI, AL) (Or.inl ⟨hun, rfl⟩) hP hD hS

abbrev rmX2_nearest : Room := { frames := 6, cells := 1, slots := 6, locals := 148 }
set_option maxHeartbeats 4000000 in
set_option maxRecDepth 100000 in
/-- nearest -/
theorem ctX2_nearest (l : Launch) (hlt : l.stackTraces = false) (D : va_G) (cs : Nat → ClassId) (ad : Nat → Nat) (I : Nat → Nat) (AN : Nat → Nat → Nat) (AI : Nat → Nat → Int32) (AL : Nat → Nat → Int64) (sz : Nat) (sa : Nat → Nat) (u q : Int32) (hn3 : I 0 ≤ 3) (he3 : I 1 ≤ 3) (hbg : ∀ r, r < 3 → AN 7 r < 6) (hdc : ∀ k, k < 7 → AN 5 k < 2 ^ 31) : vx_Met l yX2_nearest (Cond.code yX2_nearest cX2_nearest 3 (some FieldType.long) :: GW) rmX2_nearest (va_Pc [.ref (ad 0), .int u, .int q] (gX D cs (wT cs ad I AN AI AL) sz sa)) (va_Ql (fun (r : Int64) (w : TS) => isU (I 0) u = true ∧ isPt q = true ∧ w = (Ieq (up1 I 5 (I 0)) (I 0 + 1) (I 0 + 1 + mbs (spL (I 0) (I 1) AN AI AL).1 (I 0)) (neE (I 0) (I 1) AN AI AL).1, (neE (I 0) (I 1) AN AI AL).2.1, AI, (neE (I 0) (I 1) AN AI AL).2.2) ∧ r = ppart (neE (I 0) (I 1) AN AI AL).2.1 (neE (I 0) (I 1) AN AI AL).2.2 (neE (I 0) (I 1) AN AI AL).1 (I 0 + 1) u.toNatClampNeg q) (gB D cs (va_A (wT cs ad I AN AI AL) sz) (wTs cs ad)) (va_A (wT cs ad I AN AI AL) sz)) (vx_X (fun w : String × TS => (isU (I 0) u = false ∧ w = (xIOB, (I, AN, AI, AL))) ∨ (isU (I 0) u = true ∧ isPt q = false ∧ w = (xIAE, (I, AN, AI, AL)))) (xB D cs (va_A (wT cs ad I AN AI AL) sz) (wTs cs ad)) (va_A (wT cs ad I AN AI AL) sz)) 1 6 (va_A (wT cs ad I AN AI AL) sz) := by
  refine vx_ofW (cc := cX2_nearest) (maxL := 3) (ret := (some FieldType.long)) (by decide) rfl ?_
  intro p e s m args below meth c s₁ B hml htab hv
  obtain ⟨rfl, ⟨hsz, hP, hK, hD0, hN⟩, hX⟩ := hv
  have hx := B.exec
  have hb := B.bytes
  have hr := B.returns
  have hts : ∀ w ∈ GW, w.before _ s = true := fun w h => atoms_spec (ws := Cond.code yX2_nearest cX2_nearest 3 (some FieldType.long) :: GW) B.pre w (List.mem_cons_of_mem _ h)
  have hown : s.vm.findClass RX2 = some m.cls := findClass_of_methodNamed B.named
  have hlocks := B.notSynchronized
  subst hsz
  have hD := hD0.self (sz := s.heap.size)
  generalize hAe : va_A (wT cs ad I AN AI AL) s.heap.size = A at hD hX ⊢
  have hA : ∀ q : Nat, s.heap.size ≤ q → A q := fun q h => by rw [← hAe]; exact Or.inr h
  have hS : va_S A s.heap s.heap [] := va_S.rf
  have hl := lv_entry [.ref (ad 0), .int u, .int q] (n := 3) (Nat.le_of_ble_eq_true rfl)
  rw [lg_entry_eq]
  generalize (lg_sl [.ref (ad 0), .int u, .int q] ++ List.replicate (3 - (lg_sl [.ref (ad 0), .int u, .int q]).length) Slot.unset).toArray = ls at hl ⊢
  have hl : lv_has ls 3 [(0, .ref (ad 0)), (1, .int u), (2, .int q)] := hl
  generalize hargs : ([.ref (ad 0), .int u, .int q] : List Value).toArray = args at *
  show W p l e rmX2_nearest s m args below meth c s.heap [] 0 0 _ (F0 m 0 ls [])
  refine lv_aload_n hx hb dX2_nearest_0 rfl (lv_at hl 0 rfl) ?_
  refine lv_iload_n hx hb dX2_nearest_1 rfl (lv_at hl 1 rfl) ?_
  refine g_calli (va_runV (As := [.int u]) (rest := []) ⟨hx, hb, hml, hown, hts⟩ (ctX2_isUnknown l D cs ad I AN AI AL _ u) (cwV 1 hts (gi_V gw_409 gw_411 gw_20 gw_53 gw_412) rfl rfl rfl (by decide +kernel) ⟨Nat.le_of_ble_eq_true rfl, Nat.le_of_ble_eq_true rfl⟩) ⟨g_blind, va_recv hK hP (ci := 2) (q0 := 0) rfl (wm_at (by decide) rfl), g_pre hP hK hD hN⟩ rfl rfl hl.1 rfl (lv_room (Nat.le_of_ble_eq_true rfl)) dX2_nearest_2 ⟨Nat.zero_le _, Nat.zero_le _⟩) hD hS hA (fun r u H locs hw hP hD hS => ?_)
  obtain ⟨rfl, hw2⟩ := hw
  have hP : va_P D vc (wT cs ad I AN AI AL) H := hP
  have hD : va_D A (wT cs ad I AN AI AL) := hD
  have hw2 : r = bz (isU (I 0) u) := hw2
  subst hw2
  refine lv_if_ne (tgt := 18) hx hb dX2_nearest_5 (by decide) (fun h => ?_) (fun h => ?_)
  · have hun : isU (I 0) u = true := bz_t h
    obtain ⟨u', rfl, hu⟩ := isU_spec hn3 hun
    have hl : lv_has ls 3 [(0, .ref (ad 0)), (1, .int (nI u')), (2, .int q)] := hl
    have cu := nI_cl (k := u') (by omega)
    rw [cu]
    refine lv_iload_n hx hb dX2_nearest_18 rfl (lv_at hl 2 rfl) ?_
    refine g_calli (va_runS (As := [.int q]) (rest := []) ⟨hx, hb, hml, hown, hts⟩ (ctX2_isPart l D cs ad I AN AI AL _ q) (va_cwS 1 hts (gi_S gw_415 gw_416 gw_53 gw_417) rfl rfl rfl (by decide +kernel) ⟨Nat.le_of_ble_eq_true rfl, Nat.le_of_ble_eq_true rfl⟩) ⟨g_blind, g_pre hP hK hD hN⟩ rfl rfl hl.1 rfl (lv_room (Nat.le_of_ble_eq_true rfl)) dX2_nearest_19 ⟨Nat.zero_le _, Nat.zero_le _⟩) hD hS hA (fun r u H locs hw hP hD hS => ?_)
    obtain ⟨rfl, hw2⟩ := hw
    have hP : va_P D vc (wT cs ad I AN AI AL) H := hP
    have hD : va_D A (wT cs ad I AN AI AL) := hD
    have hw2 : r = bz (isPt q) := hw2
    subst hw2
    refine lv_if_ne (tgt := 35) hx hb dX2_nearest_22 (by decide) (fun h2 => ?_) (fun h2 => ?_)
    · have hpt : isPt q = true := bz_t h2
      refine lv_aload_n hx hb dX2_nearest_35 rfl (lv_at hl 0 rfl) ?_
      refine g_callv (va_runV (As := []) (rest := []) ⟨hx, hb, hml, hown, hts⟩ (ctX2_eliminateNearest l D cs ad I AN AI AL _ hn3 he3 hbg) (cwV 0 hts (gi_V gw_471 gw_473 gw_25 gw_53 gw_474) rfl rfl rfl (by decide +kernel) ⟨Nat.le_of_ble_eq_true rfl, Nat.le_of_ble_eq_true rfl⟩) ⟨g_blind, va_recv hK hP (ci := 2) (q0 := 0) rfl (wm_at (by decide) rfl), g_pre hP hK hD hN⟩ rfl rfl hl.1 rfl (lv_room (Nat.le_of_ble_eq_true rfl)) dX2_nearest_36 ⟨Nat.zero_le _, Nat.zero_le _⟩) hD hS hA (fun u H locs hw hP hD hS => ?_)
      obtain rfl := hw
      have hP : va_P D vc (wT cs ad (Ieq (up1 I 5 (I 0)) (I 0 + 1) (I 0 + 1 + mbs (spL (I 0) (I 1) AN AI AL).1 (I 0)) (neE (I 0) (I 1) AN AI AL).1) ((neE (I 0) (I 1) AN AI AL).2.1) AI ((neE (I 0) (I 1) AN AI AL).2.2)) H := hP
      have hD : va_D A (wT cs ad (Ieq (up1 I 5 (I 0)) (I 0 + 1) (I 0 + 1 + mbs (spL (I 0) (I 1) AN AI AL).1 (I 0)) (neE (I 0) (I 1) AN AI AL).1) ((neE (I 0) (I 1) AN AI AL).2.1) AI ((neE (I 0) (I 1) AN AI AL).2.2)) := hD
      have hle : (neE (I 0) (I 1) AN AI AL).1 ≤ I 0 + 1 := neE_le
      refine lv_aload_n hx hb dX2_nearest_39 rfl (lv_at hl 0 rfl) ?_
      refine b_get (own := RX2) (C := RX2) (T := TX2) (N := 5) (ci := 2) (v := .ref (ad 2)) hx hb hts usX2 hown hK hP 0 (by decide) rfl rfl 2 (by decide) (hts _ gw_132) rfl dX2_nearest_40 ?_
      refine lv_iload_n hx hb dX2_nearest_43 rfl (lv_at hl 1 rfl) ?_
      refine lv_iload_n hx hb dX2_nearest_44 rfl (lv_at hl 2 rfl) ?_
      refine g_calll (va_runVN (C := RX0) (As := [.int (nI u'), .int q]) (rest := []) ⟨hx, hb, hml, hown, hts⟩ (ctX0_plainPart l D cs ad (Ieq (up1 I 5 (I 0)) (I 0 + 1) (I 0 + 1 + mbs (spL (I 0) (I 1) AN AI AL).1 (I 0)) (neE (I 0) (I 1) AN AI AL).1) ((neE (I 0) (I 1) AN AI AL).2.1) AI ((neE (I 0) (I 1) AN AI AL).2.2) _ u' q (show I 0 + 1 ≤ 4 by omega) (show (neE (I 0) (I 1) AN AI AL).1 ≤ 7 by omega) (neE_dc hn3 hdc) (by omega)) ⟨va_cnB 2 hts (gi_C gw_422) rfl rfl rfl (hN _ (by decide +kernel) : va_Nw (Cond.methodLinkNest "TriangularSystems" 92 ⟨"TriangularSystems$Elimination", "plainPart", "(II)J"⟩ "TriangularSystems") s) (hts _ gw_55) (by decide +kernel) ⟨Nat.le_of_ble_eq_true rfl, Nat.le_of_ble_eq_true rfl⟩, hts _ gw_421, hts _ gw_21⟩ ⟨g_blind, va_recv hK hP (ci := 0) (q0 := 2) rfl (wm_at (by decide) rfl), g_pre hP hK hD hN⟩ rfl rfl hl.1 rfl (lv_room (Nat.le_of_ble_eq_true rfl)) dX2_nearest_45 ⟨Nat.zero_le _, Nat.zero_le _⟩) hD hS hA (fun r u H locs hw hP hD hS => ?_)
      obtain ⟨rfl, hw2⟩ := hw
      have hP : va_P D vc (wT cs ad (Ieq (up1 I 5 (I 0)) (I 0 + 1) (I 0 + 1 + mbs (spL (I 0) (I 1) AN AI AL).1 (I 0)) (neE (I 0) (I 1) AN AI AL).1) ((neE (I 0) (I 1) AN AI AL).2.1) AI ((neE (I 0) (I 1) AN AI AL).2.2)) H := hP
      have hD : va_D A (wT cs ad (Ieq (up1 I 5 (I 0)) (I 0 + 1) (I 0 + 1 + mbs (spL (I 0) (I 1) AN AI AL).1 (I 0)) (neE (I 0) (I 1) AN AI AL).1) ((neE (I 0) (I 1) AN AI AL).2.1) AI ((neE (I 0) (I 1) AN AI AL).2.2)) := hD
      exact vx_ret (w_widen (k := 1) (n := 6) (Nat.zero_le _) (Nat.zero_le _) (g_lret hx hb hr hlocks (Ieq (up1 I 5 (I 0)) (I 0 + 1) (I 0 + 1 + mbs (spL (I 0) (I 1) AN AI AL).1 (I 0)) (neE (I 0) (I 1) AN AI AL).1, (neE (I 0) (I 1) AN AI AL).2.1, AI, (neE (I 0) (I 1) AN AI AL).2.2) (⟨hun, hpt, rfl, hw2⟩) hK hP hD hS dX2_nearest_48))
    · have hpt : isPt q = false := bz_1.mp h2
      exact x_throw (cls := xIAE) (text := "the part isn't 0 or 1") (is := 90) hx hb hlt (by rw [hml]; exact hl.1) hown hts hlocks htab hK hX (by decide) gw_379 gw_63 (by decide) xa_IAE xb_IAE xc_IAE dX2_nearest_25 dX2_nearest_28 dX2_nearest_29 dX2_nearest_31 dX2_nearest_34 (Nat.le_of_ble_eq_true rfl) (Nat.le_of_ble_eq_true rfl) (Nat.le_of_ble_eq_true rfl) (Nat.le_of_ble_eq_true rfl) (I, AN, AI, AL) (Or.inr ⟨hun, hpt, rfl⟩) hP hD hS
  · have hun : isU (I 0) u = false := bz_1.mp h
    exact x_throw (cls := xIOB) (text := "no such unknown") (is := 83) hx hb hlt (by rw [hml]; exact hl.1) hown hts hlocks htab hK hX (by decide) gw_363 gw_62 (by decide) xa_IOB xb_IOB xc_IOB dX2_nearest_8 dX2_nearest_11 dX2_nearest_12 dX2_nearest_14 dX2_nearest_17 (Nat.le_of_ble_eq_true rfl) (Nat.le_of_ble_eq_true rfl) (Nat.le_of_ble_eq_true rfl) (Nat.le_of_ble_eq_true rfl) (I, AN, AI, AL) (Or.inl ⟨hun, rfl⟩) hP hD hS

abbrev rmX2_squares : Room := { frames := 6, cells := 1, slots := 6, locals := 148 }
set_option maxHeartbeats 4000000 in
set_option maxRecDepth 100000 in
/-- squares -/
theorem ctX2_squares (l : Launch) (hlt : l.stackTraces = false) (D : va_G) (cs : Nat → ClassId) (ad : Nat → Nat) (I : Nat → Nat) (AN : Nat → Nat → Nat) (AI : Nat → Nat → Int32) (AL : Nat → Nat → Int64) (sz : Nat) (sa : Nat → Nat) (q : Int32) (hn3 : I 0 ≤ 3) (he3 : I 1 ≤ 3) (hbg : ∀ r, r < 3 → AN 7 r < 6) (hdc : ∀ k, k < 7 → AN 5 k < 2 ^ 31) : vx_Met l yX2_squares (Cond.code yX2_squares cX2_squares 2 (some FieldType.long) :: GW) rmX2_squares (va_Pc [.ref (ad 0), .int q] (gX D cs (wT cs ad I AN AI AL) sz sa)) (va_Ql (fun (r : Int64) (w : TS) => isPt q = true ∧ w = (Ieq (up1 I 5 (I 0)) (I 0 + 1) (I 0 + 1 + mbs (spL (I 0) (I 1) AN AI AL).1 (I 0)) (neE (I 0) (I 1) AN AI AL).1, (neE (I 0) (I 1) AN AI AL).2.1, AI, (neE (I 0) (I 1) AN AI AL).2.2) ∧ r = ppart (neE (I 0) (I 1) AN AI AL).2.1 (neE (I 0) (I 1) AN AI AL).2.2 (neE (I 0) (I 1) AN AI AL).1 (I 0 + 1) (I 0) q) (gB D cs (va_A (wT cs ad I AN AI AL) sz) (wTs cs ad)) (va_A (wT cs ad I AN AI AL) sz)) (vx_X (fun w : String × TS => isPt q = false ∧ w = (xIAE, (I, AN, AI, AL))) (xB D cs (va_A (wT cs ad I AN AI AL) sz) (wTs cs ad)) (va_A (wT cs ad I AN AI AL) sz)) 1 6 (va_A (wT cs ad I AN AI AL) sz) := by
  refine vx_ofW (cc := cX2_squares) (maxL := 2) (ret := (some FieldType.long)) (by decide) rfl ?_
  intro p e s m args below meth c s₁ B hml htab hv
  obtain ⟨rfl, ⟨hsz, hP, hK, hD0, hN⟩, hX⟩ := hv
  have hx := B.exec
  have hb := B.bytes
  have hr := B.returns
  have hts : ∀ w ∈ GW, w.before _ s = true := fun w h => atoms_spec (ws := Cond.code yX2_squares cX2_squares 2 (some FieldType.long) :: GW) B.pre w (List.mem_cons_of_mem _ h)
  have hown : s.vm.findClass RX2 = some m.cls := findClass_of_methodNamed B.named
  have hlocks := B.notSynchronized
  subst hsz
  have hD := hD0.self (sz := s.heap.size)
  generalize hAe : va_A (wT cs ad I AN AI AL) s.heap.size = A at hD hX ⊢
  have hA : ∀ q : Nat, s.heap.size ≤ q → A q := fun q h => by rw [← hAe]; exact Or.inr h
  have hS : va_S A s.heap s.heap [] := va_S.rf
  have hl := lv_entry [.ref (ad 0), .int q] (n := 2) (Nat.le_of_ble_eq_true rfl)
  rw [lg_entry_eq]
  generalize (lg_sl [.ref (ad 0), .int q] ++ List.replicate (2 - (lg_sl [.ref (ad 0), .int q]).length) Slot.unset).toArray = ls at hl ⊢
  have hl : lv_has ls 2 [(0, .ref (ad 0)), (1, .int q)] := hl
  generalize hargs : ([.ref (ad 0), .int q] : List Value).toArray = args at *
  show W p l e rmX2_squares s m args below meth c s.heap [] 0 0 _ (F0 m 0 ls [])
  refine lv_iload_n hx hb dX2_squares_0 rfl (lv_at hl 1 rfl) ?_
  refine g_calli (va_runS (As := [.int q]) (rest := []) ⟨hx, hb, hml, hown, hts⟩ (ctX2_isPart l D cs ad I AN AI AL _ q) (va_cwS 1 hts (gi_S gw_415 gw_416 gw_53 gw_417) rfl rfl rfl (by decide +kernel) ⟨Nat.le_of_ble_eq_true rfl, Nat.le_of_ble_eq_true rfl⟩) ⟨g_blind, g_pre hP hK hD hN⟩ rfl rfl hl.1 rfl (lv_room (Nat.le_of_ble_eq_true rfl)) dX2_squares_1 ⟨Nat.zero_le _, Nat.zero_le _⟩) hD hS hA (fun r u H locs hw hP hD hS => ?_)
  obtain ⟨rfl, hw2⟩ := hw
  have hP : va_P D vc (wT cs ad I AN AI AL) H := hP
  have hD : va_D A (wT cs ad I AN AI AL) := hD
  have hw2 : r = bz (isPt q) := hw2
  subst hw2
  refine lv_if_ne (tgt := 17) hx hb dX2_squares_4 (by decide) (fun h2 => ?_) (fun h2 => ?_)
  · have hpt : isPt q = true := bz_t h2
    refine lv_aload_n hx hb dX2_squares_17 rfl (lv_at hl 0 rfl) ?_
    refine g_callv (va_runV (As := []) (rest := []) ⟨hx, hb, hml, hown, hts⟩ (ctX2_eliminateNearest l D cs ad I AN AI AL _ hn3 he3 hbg) (cwV 0 hts (gi_V gw_471 gw_473 gw_25 gw_53 gw_474) rfl rfl rfl (by decide +kernel) ⟨Nat.le_of_ble_eq_true rfl, Nat.le_of_ble_eq_true rfl⟩) ⟨g_blind, va_recv hK hP (ci := 2) (q0 := 0) rfl (wm_at (by decide) rfl), g_pre hP hK hD hN⟩ rfl rfl hl.1 rfl (lv_room (Nat.le_of_ble_eq_true rfl)) dX2_squares_18 ⟨Nat.zero_le _, Nat.zero_le _⟩) hD hS hA (fun u H locs hw hP hD hS => ?_)
    obtain rfl := hw
    have hP : va_P D vc (wT cs ad (Ieq (up1 I 5 (I 0)) (I 0 + 1) (I 0 + 1 + mbs (spL (I 0) (I 1) AN AI AL).1 (I 0)) (neE (I 0) (I 1) AN AI AL).1) ((neE (I 0) (I 1) AN AI AL).2.1) AI ((neE (I 0) (I 1) AN AI AL).2.2)) H := hP
    have hD : va_D A (wT cs ad (Ieq (up1 I 5 (I 0)) (I 0 + 1) (I 0 + 1 + mbs (spL (I 0) (I 1) AN AI AL).1 (I 0)) (neE (I 0) (I 1) AN AI AL).1) ((neE (I 0) (I 1) AN AI AL).2.1) AI ((neE (I 0) (I 1) AN AI AL).2.2)) := hD
    have hle : (neE (I 0) (I 1) AN AI AL).1 ≤ I 0 + 1 := neE_le
    refine lv_aload_n hx hb dX2_squares_21 rfl (lv_at hl 0 rfl) ?_
    refine b_get (own := RX2) (C := RX2) (T := TX2) (N := 5) (ci := 2) (v := .ref (ad 2)) hx hb hts usX2 hown hK hP 0 (by decide) rfl rfl 2 (by decide) (hts _ gw_132) rfl dX2_squares_22 ?_
    refine lv_aload_n hx hb dX2_squares_25 rfl (lv_at hl 0 rfl) ?_
    refine b_get (own := RX2) (C := RX2) (T := TX2) (N := 5) (ci := 2) (v := .int (nI (I 0))) hx hb hts usX2 hown hK hP 0 (by decide) rfl rfl 0 (by decide) (hts _ gw_130) rfl dX2_squares_26 ?_
    refine lv_iload_n hx hb dX2_squares_29 rfl (lv_at hl 1 rfl) ?_
    refine g_calll (va_runVN (C := RX0) (As := [.int (nI (I 0)), .int q]) (rest := []) ⟨hx, hb, hml, hown, hts⟩ (ctX0_plainPart l D cs ad (Ieq (up1 I 5 (I 0)) (I 0 + 1) (I 0 + 1 + mbs (spL (I 0) (I 1) AN AI AL).1 (I 0)) (neE (I 0) (I 1) AN AI AL).1) ((neE (I 0) (I 1) AN AI AL).2.1) AI ((neE (I 0) (I 1) AN AI AL).2.2) _ (I 0) q (show I 0 + 1 ≤ 4 by omega) (show (neE (I 0) (I 1) AN AI AL).1 ≤ 7 by omega) (neE_dc hn3 hdc) (by omega)) ⟨va_cnB 2 hts (gi_C gw_422) rfl rfl rfl (hN _ (by decide +kernel) : va_Nw (Cond.methodLinkNest "TriangularSystems" 92 ⟨"TriangularSystems$Elimination", "plainPart", "(II)J"⟩ "TriangularSystems") s) (hts _ gw_55) (by decide +kernel) ⟨Nat.le_of_ble_eq_true rfl, Nat.le_of_ble_eq_true rfl⟩, hts _ gw_421, hts _ gw_21⟩ ⟨g_blind, va_recv hK hP (ci := 0) (q0 := 2) rfl (wm_at (by decide) rfl), g_pre hP hK hD hN⟩ rfl rfl hl.1 rfl (lv_room (Nat.le_of_ble_eq_true rfl)) dX2_squares_30 ⟨Nat.zero_le _, Nat.zero_le _⟩) hD hS hA (fun r u H locs hw hP hD hS => ?_)
    obtain ⟨rfl, hw2⟩ := hw
    have hP : va_P D vc (wT cs ad (Ieq (up1 I 5 (I 0)) (I 0 + 1) (I 0 + 1 + mbs (spL (I 0) (I 1) AN AI AL).1 (I 0)) (neE (I 0) (I 1) AN AI AL).1) ((neE (I 0) (I 1) AN AI AL).2.1) AI ((neE (I 0) (I 1) AN AI AL).2.2)) H := hP
    have hD : va_D A (wT cs ad (Ieq (up1 I 5 (I 0)) (I 0 + 1) (I 0 + 1 + mbs (spL (I 0) (I 1) AN AI AL).1 (I 0)) (neE (I 0) (I 1) AN AI AL).1) ((neE (I 0) (I 1) AN AI AL).2.1) AI ((neE (I 0) (I 1) AN AI AL).2.2)) := hD
    exact vx_ret (w_widen (k := 1) (n := 6) (Nat.zero_le _) (Nat.zero_le _) (g_lret hx hb hr hlocks (Ieq (up1 I 5 (I 0)) (I 0 + 1) (I 0 + 1 + mbs (spL (I 0) (I 1) AN AI AL).1 (I 0)) (neE (I 0) (I 1) AN AI AL).1, (neE (I 0) (I 1) AN AI AL).2.1, AI, (neE (I 0) (I 1) AN AI AL).2.2) (⟨hpt, rfl, hw2⟩) hK hP hD hS dX2_squares_33))
  · have hpt : isPt q = false := bz_1.mp h2
    exact x_throw (cls := xIAE) (text := "the part isn't 0 or 1") (is := 90) hx hb hlt (by rw [hml]; exact hl.1) hown hts hlocks htab hK hX (by decide) gw_379 gw_63 (by decide) xa_IAE xb_IAE xc_IAE dX2_squares_7 dX2_squares_10 dX2_squares_11 dX2_squares_13 dX2_squares_16 (Nat.le_of_ble_eq_true rfl) (Nat.le_of_ble_eq_true rfl) (Nat.le_of_ble_eq_true rfl) (Nat.le_of_ble_eq_true rfl) (I, AN, AI, AL) (⟨hpt, rfl⟩) hP hD hS
