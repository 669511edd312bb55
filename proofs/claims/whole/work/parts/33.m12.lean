/-- a small whole number as an int -/
def iI (a : Int) : Int32 := Int32.ofInt a
theorem iI_toInt {a : Int} (h1 : -2147483648 ≤ a) (h2 : a < 2147483648) : (iI a).toInt = a := by
  unfold iI
  rw [Int32.toInt_ofInt]
  show Int.bmod a (2 ^ 32) = a
  unfold Int.bmod
  simp only
  split <;> omega
theorem iI_nI (k : Nat) (h : k < 2 ^ 31) : nI k = iI (k : Int) := by
  rw [← Int32.toInt_inj, nI_toInt h, iI_toInt (by omega) (by omega)]
theorem iI_neg (k : Nat) (h : k < 2 ^ 30) : -nI k = iI (-(k : Int)) := by
  rw [← Int32.toInt_inj, iI_toInt (by omega) (by omega)]
  exact sb_negT (by omega)
theorem iI_inc {a : Int} (h1 : -1000 ≤ a) (h2 : a ≤ 1000) : iI a + 1 = iI (a + 1) := by
  unfold iI
  rw [Int32.ofInt_add]
  rfl
theorem iI_lt {a b : Int} (h1 : -1000 ≤ a) (h2 : a ≤ 1000) (h3 : -1000 ≤ b) (h4 : b ≤ 1000) : iI a < iI b ↔ a < b := by
  rw [Int32.lt_iff_toInt_lt, iI_toInt (by omega) (by omega), iI_toInt (by omega) (by omega)]
def lo9 (b n F : Nat) : Int := if b < n then -(F : Int) else 0
def hi9 (b n F : Nat) : Int := if b < n then (F : Int) else 0
def one9 (b : Bool) : Nat := if b then 1 else 0
def bxz (n m : Nat) (AI : Nat → Int32) (x y : Int) : Nat → Int → Nat → Nat
  | 0, _, c => c
  | k + 1, z, c => bxz n m AI x y k (z + 1) (c + one9 (isS n m AI (Int32.toInt64 (iI x)) (Int32.toInt64 (iI y)) (Int32.toInt64 (iI z))))
def bxy (n m F : Nat) (AI : Nat → Int32) (x : Int) : Nat → Int → Nat → Nat
  | 0, _, c => c
  | k + 1, y, c => bxy n m F AI x k (y + 1) (bxz n m AI x y (hi9 2 n F + 1 - lo9 2 n F).toNat (lo9 2 n F) c)
def bxx (n m F : Nat) (AI : Nat → Int32) : Nat → Int → Nat → Nat
  | 0, _, c => c
  | k + 1, x, c => bxx n m F AI k (x + 1) (bxy n m F AI x (hi9 1 n F + 1 - lo9 1 n F).toNat (lo9 1 n F) c)
def boxM (n m F : Nat) (AI : Nat → Int32) : Nat := bxx n m F AI (2 * F + 1) (-(F : Int)) 0
def faM (q : Int32) : Bool := inL (Int32.toInt64 q) 0 12
theorem lo9_b {b n F : Nat} (h : F ≤ 12) : -12 ≤ lo9 b n F ∧ lo9 b n F ≤ 0 := by unfold lo9; split <;> omega
theorem hi9_b {b n F : Nat} (h : F ≤ 12) : 0 ≤ hi9 b n F ∧ hi9 b n F ≤ 12 := by unfold hi9; split <;> omega

abbrev rmX3_inBox : Room := { frames := 1, cells := 0, slots := 0, locals := 29 }
set_option maxHeartbeats 4000000 in
set_option maxRecDepth 100000 in
theorem ctX3_inBox (l : Launch) (D : va_G) (cs : Nat → ClassId) (ad : Nat → Nat) (I : Nat → Nat) (G : Nat → Int64) (AN : Nat → Nat → Nat) (AI : Nat → Int32) (AL : Nat → Nat → Int64) (sz : Nat) (q : Int32) (h1 : I 1 ≤ 3) (h2 : I 2 ≤ 3) : Met l yX3_inBox (Cond.code yX3_inBox cX3_inBox 6 (some FieldType.int) :: GW) rmX3_inBox (va_Pc [.ref (ad 0), .int q] (gP D cs (wM cs ad I G AN AI AL) sz)) (va_Qi (fun (r : Int32) (v : MS) => v = (if faM q then (up1 I 0 0, G, AN, AI, AL) else (up1 I 0 1, G, AN, AI, AL)) ∧ r = if faM q then nI (boxM (I 1) (I 2) q.toNatClampNeg AI) else nI 0) (gB D cs (va_A (wM cs ad I G AN AI AL) sz) (wMs cs ad)) (va_A (wM cs ad I G AN AI AL) sz)) 0 0 (va_A (wM cs ad I G AN AI AL) sz) := by
  refine Met.ofW (cc := cX3_inBox) (maxL := 6) (ret := (some FieldType.int)) (by decide) rfl ?_
  intro p e s m args below meth c s₁ B hml hv
  obtain ⟨rfl, hsz, hP, hK, hD0, hN⟩ := hv
  have hx := B.exec
  have hb := B.bytes
  have hr := B.returns
  have hts : ∀ w ∈ GW, w.before _ s = true := fun w h => atoms_spec (ws := Cond.code yX3_inBox cX3_inBox 6 (some FieldType.int) :: GW) B.pre w (List.mem_cons_of_mem _ h)
  have hown : s.vm.findClass RX3 = some m.cls := findClass_of_methodNamed B.named
  have hlocks := B.notSynchronized
  subst hsz
  have hD := hD0.self (sz := s.heap.size)
  generalize hAe : va_A (wM cs ad I G AN AI AL) s.heap.size = A at hD ⊢
  have hA : ∀ q : Nat, s.heap.size ≤ q → A q := fun q h => by rw [← hAe]; exact Or.inr h
  have hS : va_S A s.heap s.heap [] := va_S.rf
  have hl := lv_entry [.ref (ad 0), .int q] (n := 6) (Nat.le_of_ble_eq_true rfl)
  rw [lg_entry_eq]
  generalize (lg_sl [.ref (ad 0), .int q] ++ List.replicate (6 - (lg_sl [.ref (ad 0), .int q]).length) Slot.unset).toArray = ls at hl ⊢
  have hl : lv_has ls 6 [(0, .ref (ad 0)), (1, .int q)] := hl
  generalize hargs : ([.ref (ad 0), .int q] : List Value).toArray = args at *
  show W p l e rmX3_inBox s m args below meth c s.heap [] 0 0 _ (F0 m 0 ls [])
  refine lv_aload_n hx hb dX3_inBox_0 rfl (lv_at hl 0 rfl) ?_
  refine lv_iload_n hx hb dX3_inBox_1 rfl (lv_at hl 1 rfl) ?_
  refine lv_i2l (v := Int32.toInt64 q) hx hb dX3_inBox_2 rfl ?_
  refine lv_lconst (v := 0) hx hb dX3_inBox_3 (by decide) ?_
  refine lv_ldc2 (own := RX3) (v := 12) hx hb hown (hts _ gwK174) dX3_inBox_4 ?_
  refine g_calli (va_runS (As := [.long (Int32.toInt64 q), .long 0, .long 12]) (rest := [.ref (ad 0)]) ⟨hx, hb, hml, hown, hts⟩ (ctX3_in l D cs ad I G AN AI AL _ (Int32.toInt64 q) 0 12) (va_cwS 3 hts (gi_S gw_591 gw_592 gw_57 gw_593) rfl rfl rfl (by decide +kernel) ⟨Nat.le_of_ble_eq_true rfl, Nat.le_of_ble_eq_true rfl⟩) ⟨g_blind, g_pre hP hK hD hN⟩ rfl rfl hl.1 rfl (lv_room (Nat.le_of_ble_eq_true rfl)) dX3_inBox_7 ⟨Nat.zero_le _, Nat.zero_le _⟩) hD hS hA (fun r u H locs hw hP hD hS => ?_)
  obtain ⟨rfl, hw2⟩ := hw
  have hP : va_P D vc (wM cs ad I G AN AI AL) H := hP
  have hD : va_D A (wM cs ad I G AN AI AL) := hD
  have hw2 : r = bz (faM q) := hw2
  subst hw2
  refine lv_if_eq (tgt := 17) hx hb dX3_inBox_10 (by decide) (fun h8 => ?_) (fun h8 => ?_)
  · have hpa : ¬ faM q = true := by rw [show faM q = false from bz_1.mp h8]; decide
    refine lv_iconst (v := nI 1) hx hb dX3_inBox_17 (by decide) ?_
    refine b_put (own := RX3) (C := RX3) (T := TX3) (N := 23) (ci := 3) (v := .int (nI 1)) hx hb hts usX3 tyX3 tyX3_ok nmX3 hown hK hP hD hS 0 (by decide) rfl rfl 0 (by decide) (hts _ gw_504) rfl rfl rfl (Nat.le_of_ble_eq_true rfl) dX3_inBox_18 sM_I0 (fun H locs hP hD hS => ?_)
    refine lv_aload_n hx hb dX3_inBox_21 rfl (lv_at hl 0 rfl) ?_
    refine b_get (own := RX3) (C := RX3) (T := TX3) (N := 23) (ci := 3) (v := .int (nI 1)) hx hb hts usX3 hown hK hP 0 (by decide) rfl rfl 0 (by decide) (hts _ gw_504) rfl dX3_inBox_22 ?_
    refine lv_if_le (tgt := 30) hx hb dX3_inBox_25 (by decide) (fun q => absurd q (by decide)) (fun _ => ?_)
    refine lv_iconst (v := nI 0) hx hb dX3_inBox_28 (by decide) ?_
    exact g_iret hx hb hr hlocks (up1 I 0 1, G, AN, AI, AL) (⟨by rw [if_neg hpa], by rw [if_neg hpa]⟩) hK hP hD hS dX3_inBox_29
  · have hpa := bz_t h8
    refine lv_iconst (v := nI 0) hx hb dX3_inBox_13 (by decide) ?_
    refine lv_goto (tgt := 18) hx hb dX3_inBox_14 (by decide) ?_
    refine b_put (own := RX3) (C := RX3) (T := TX3) (N := 23) (ci := 3) (v := .int (nI 0)) hx hb hts usX3 tyX3 tyX3_ok nmX3 hown hK hP hD hS 0 (by decide) rfl rfl 0 (by decide) (hts _ gw_504) rfl rfl rfl (Nat.le_of_ble_eq_true rfl) dX3_inBox_18 sM_I0 (fun H locs hP hD hS => ?_)
    refine lv_aload_n hx hb dX3_inBox_21 rfl (lv_at hl 0 rfl) ?_
    refine b_get (own := RX3) (C := RX3) (T := TX3) (N := 23) (ci := 3) (v := .int (nI 0)) hx hb hts usX3 hown hK hP 0 (by decide) rfl rfl 0 (by decide) (hts _ gw_504) rfl dX3_inBox_22 ?_
    refine lv_if_le (tgt := 30) hx hb dX3_inBox_25 (by decide) (fun _ => ?_) (fun q => absurd (by decide) q)
    obtain ⟨F, hF31, rfl, hF⟩ := inL_nat hpa
    have e12 : (12 : Int64).toInt = 12 := by decide
    have hF12 : F ≤ 12 := by omega
    have hcl : (nI F).toNatClampNeg = F := nI_cl hF31
    rw [if_pos hpa, if_pos hpa, hcl]
    obtain ⟨l1a, l1b⟩ := lo9_b (b := 1) (n := I 1) hF12
    obtain ⟨u1a, u1b⟩ := hi9_b (b := 1) (n := I 1) hF12
    obtain ⟨l2a, l2b⟩ := lo9_b (b := 2) (n := I 1) hF12
    obtain ⟨u2a, u2b⟩ := hi9_b (b := 2) (n := I 1) hF12
    have s40 : ∀ (Q : State → Prop) (st : List Value) (H : Heap) (locs : List Loc) (ls : Array Slot), va_P D vc (wM cs ad (up1 I 0 0) G AN AI AL) H → lv_has ls 6 [(1, .int (nI F)), (0, .ref (ad 0))] → W p l e rmX3_inBox s m args below meth c H locs 0 0 Q (F0 m 54 ls (.int (iI (lo9 1 (I 1) F)) :: st)) → W p l e rmX3_inBox s m args below meth c H locs 0 0 Q (F0 m 40 ls st) := by
      intro Q st H locs ls hP hl k9
      refine lv_aload_n hx hb dX3_inBox_40 rfl (lv_at hl 1 rfl) ?_
      refine b_get (own := RX3) (C := RX3) (T := TX3) (N := 23) (ci := 3) (v := .int (nI (I 1))) hx hb hts usX3 hown hK hP 0 (by decide) rfl rfl 1 (by decide) (hts _ gw_505) rfl dX3_inBox_41 ?_
      refine lv_iconst (v := nI 1) hx hb dX3_inBox_44 (by decide) ?_
      by_cases hb9 : 1 < I 1
      · refine lv_icmp_le (tgt := 53) hx hb dX3_inBox_45 (by decide) (fun q => absurd q (nI_ge hb9 (by omega))) (fun _ => ?_)
        refine lv_iload_n hx hb dX3_inBox_48 rfl (lv_at hl 0 rfl) ?_
        refine lv_ineg hx hb dX3_inBox_49 ?_
        refine lv_goto (tgt := 54) hx hb dX3_inBox_50 (by decide) ?_
        rw [show -nI F = iI (lo9 1 (I 1) F) by unfold lo9; rw [if_pos hb9]; exact iI_neg F (by omega)]
        exact k9
      · refine lv_icmp_le (tgt := 53) hx hb dX3_inBox_45 (by decide) (fun _ => ?_) (fun q => absurd (nI_le (by omega) (by omega)) q)
        refine lv_iconst (v := nI 0) hx hb dX3_inBox_53 (by decide) ?_
        rw [show nI 0 = iI (lo9 1 (I 1) F) by unfold lo9; rw [if_neg hb9]; rfl]
        exact k9
    have s58 : ∀ (Q : State → Prop) (st : List Value) (H : Heap) (locs : List Loc) (ls : Array Slot), va_P D vc (wM cs ad (up1 I 0 0) G AN AI AL) H → lv_has ls 6 [(1, .int (nI F)), (0, .ref (ad 0))] → W p l e rmX3_inBox s m args below meth c H locs 0 0 Q (F0 m 71 ls (.int (iI (hi9 1 (I 1) F)) :: st)) → W p l e rmX3_inBox s m args below meth c H locs 0 0 Q (F0 m 58 ls st) := by
      intro Q st H locs ls hP hl k9
      refine lv_aload_n hx hb dX3_inBox_58 rfl (lv_at hl 1 rfl) ?_
      refine b_get (own := RX3) (C := RX3) (T := TX3) (N := 23) (ci := 3) (v := .int (nI (I 1))) hx hb hts usX3 hown hK hP 0 (by decide) rfl rfl 1 (by decide) (hts _ gw_505) rfl dX3_inBox_59 ?_
      refine lv_iconst (v := nI 1) hx hb dX3_inBox_62 (by decide) ?_
      by_cases hb9 : 1 < I 1
      · refine lv_icmp_le (tgt := 70) hx hb dX3_inBox_63 (by decide) (fun q => absurd q (nI_ge hb9 (by omega))) (fun _ => ?_)
        refine lv_iload_n hx hb dX3_inBox_66 rfl (lv_at hl 0 rfl) ?_
        refine lv_goto (tgt := 71) hx hb dX3_inBox_67 (by decide) ?_
        rw [show nI F = iI (hi9 1 (I 1) F) by unfold hi9; rw [if_pos hb9]; exact iI_nI F hF31]
        exact k9
      · refine lv_icmp_le (tgt := 70) hx hb dX3_inBox_63 (by decide) (fun _ => ?_) (fun q => absurd (nI_le (by omega) (by omega)) q)
        refine lv_iconst (v := nI 0) hx hb dX3_inBox_70 (by decide) ?_
        rw [show nI 0 = iI (hi9 1 (I 1) F) by unfold hi9; rw [if_neg hb9]; rfl]
        exact k9
    have s74 : ∀ (Q : State → Prop) (st : List Value) (H : Heap) (locs : List Loc) (ls : Array Slot), va_P D vc (wM cs ad (up1 I 0 0) G AN AI AL) H → lv_has ls 6 [(1, .int (nI F)), (0, .ref (ad 0))] → W p l e rmX3_inBox s m args below meth c H locs 0 0 Q (F0 m 88 ls (.int (iI (lo9 2 (I 1) F)) :: st)) → W p l e rmX3_inBox s m args below meth c H locs 0 0 Q (F0 m 74 ls st) := by
      intro Q st H locs ls hP hl k9
      refine lv_aload_n hx hb dX3_inBox_74 rfl (lv_at hl 1 rfl) ?_
      refine b_get (own := RX3) (C := RX3) (T := TX3) (N := 23) (ci := 3) (v := .int (nI (I 1))) hx hb hts usX3 hown hK hP 0 (by decide) rfl rfl 1 (by decide) (hts _ gw_505) rfl dX3_inBox_75 ?_
      refine lv_iconst (v := nI 2) hx hb dX3_inBox_78 (by decide) ?_
      by_cases hb9 : 2 < I 1
      · refine lv_icmp_le (tgt := 87) hx hb dX3_inBox_79 (by decide) (fun q => absurd q (nI_ge hb9 (by omega))) (fun _ => ?_)
        refine lv_iload_n hx hb dX3_inBox_82 rfl (lv_at hl 0 rfl) ?_
        refine lv_ineg hx hb dX3_inBox_83 ?_
        refine lv_goto (tgt := 88) hx hb dX3_inBox_84 (by decide) ?_
        rw [show -nI F = iI (lo9 2 (I 1) F) by unfold lo9; rw [if_pos hb9]; exact iI_neg F (by omega)]
        exact k9
      · refine lv_icmp_le (tgt := 87) hx hb dX3_inBox_79 (by decide) (fun _ => ?_) (fun q => absurd (nI_le (by omega) (by omega)) q)
        refine lv_iconst (v := nI 0) hx hb dX3_inBox_87 (by decide) ?_
        rw [show nI 0 = iI (lo9 2 (I 1) F) by unfold lo9; rw [if_neg hb9]; rfl]
        exact k9
    have s92 : ∀ (Q : State → Prop) (st : List Value) (H : Heap) (locs : List Loc) (ls : Array Slot), va_P D vc (wM cs ad (up1 I 0 0) G AN AI AL) H → lv_has ls 6 [(1, .int (nI F)), (0, .ref (ad 0))] → W p l e rmX3_inBox s m args below meth c H locs 0 0 Q (F0 m 105 ls (.int (iI (hi9 2 (I 1) F)) :: st)) → W p l e rmX3_inBox s m args below meth c H locs 0 0 Q (F0 m 92 ls st) := by
      intro Q st H locs ls hP hl k9
      refine lv_aload_n hx hb dX3_inBox_92 rfl (lv_at hl 1 rfl) ?_
      refine b_get (own := RX3) (C := RX3) (T := TX3) (N := 23) (ci := 3) (v := .int (nI (I 1))) hx hb hts usX3 hown hK hP 0 (by decide) rfl rfl 1 (by decide) (hts _ gw_505) rfl dX3_inBox_93 ?_
      refine lv_iconst (v := nI 2) hx hb dX3_inBox_96 (by decide) ?_
      by_cases hb9 : 2 < I 1
      · refine lv_icmp_le (tgt := 104) hx hb dX3_inBox_97 (by decide) (fun q => absurd q (nI_ge hb9 (by omega))) (fun _ => ?_)
        refine lv_iload_n hx hb dX3_inBox_100 rfl (lv_at hl 0 rfl) ?_
        refine lv_goto (tgt := 105) hx hb dX3_inBox_101 (by decide) ?_
        rw [show nI F = iI (hi9 2 (I 1) F) by unfold hi9; rw [if_pos hb9]; exact iI_nI F hF31]
        exact k9
      · refine lv_icmp_le (tgt := 104) hx hb dX3_inBox_97 (by decide) (fun _ => ?_) (fun q => absurd (nI_le (by omega) (by omega)) q)
        refine lv_iconst (v := nI 0) hx hb dX3_inBox_104 (by decide) ?_
        rw [show nI 0 = iI (hi9 2 (I 1) F) by unfold hi9; rw [if_neg hb9]; rfl]
        exact k9
    have lpz : ∀ (Q : State → Prop) (x y : Int), -12 ≤ x → x ≤ 12 → -12 ≤ y → y ≤ 12 → ∀ (n : Nat) (z : Int) (mn : Nat) (H : Heap) (locs : List Loc) (ls : Array Slot), z + n = hi9 2 (I 1) F + 1 → -12 ≤ z → va_P D vc (wM cs ad (up1 I 0 0) G AN AI AL) H → va_D A (wM cs ad (up1 I 0 0) G AN AI AL) → va_S A s.heap H locs → lv_has ls 6 [(5, .int (iI z)), (4, .int (iI y)), (3, .int (iI x)), (2, .int (nI mn)), (1, .int (nI F)), (0, .ref (ad 0))] → (∀ (H : Heap) (locs : List Loc) (ls : Array Slot), va_P D vc (wM cs ad (up1 I 0 0) G AN AI AL) H → va_D A (wM cs ad (up1 I 0 0) G AN AI AL) → va_S A s.heap H locs → lv_has ls 6 [(4, .int (iI y)), (3, .int (iI x)), (2, .int (nI (bxz (I 1) (I 2) AI x y n z mn))), (1, .int (nI F)), (0, .ref (ad 0))] → W p l e rmX3_inBox s m args below meth c H locs 0 0 Q (F0 m 137 ls [])) → W p l e rmX3_inBox s m args below meth c H locs 0 0 Q (F0 m 90 ls []) := by
      intro Q x y hx1 hx2 hy1 hy2 n
      induction n with
      | zero =>
        intro z mn H locs ls hn hlo hP hD hS hl kx
        refine lv_iload hx hb dX3_inBox_90 (lv_at hl 0 rfl) ?_
        refine s92 _ _ _ _ ls hP (lv_sub hl [4, 5] rfl) ?_
        refine lv_icmp_gt (tgt := 137) hx hb dX3_inBox_105 (by decide) (fun _ => ?_) (fun q => absurd ((iI_lt (by omega) (by omega) (by omega) (by omega)).mpr (by omega)) q)
        exact kx H locs ls hP hD hS (lv_sub hl [1, 2, 3, 4, 5] rfl)
      | succ n ih =>
        intro z mn H locs ls hn hlo hP hD hS hl kx
        refine lv_iload hx hb dX3_inBox_90 (lv_at hl 0 rfl) ?_
        refine s92 _ _ _ _ ls hP (lv_sub hl [4, 5] rfl) ?_
        refine lv_icmp_gt (tgt := 137) hx hb dX3_inBox_105 (by decide) (fun q => absurd ((iI_lt (by omega) (by omega) (by omega) (by omega)).mp q) (by omega)) (fun _ => ?_)
        refine lv_iload_n hx hb dX3_inBox_108 rfl (lv_at hl 3 rfl) ?_
        refine lv_aload_n hx hb dX3_inBox_109 rfl (lv_at hl 5 rfl) ?_
        refine lv_iload_n hx hb dX3_inBox_110 rfl (lv_at hl 2 rfl) ?_
        refine lv_i2l (v := Int32.toInt64 (iI x)) hx hb dX3_inBox_111 rfl ?_
        refine lv_iload hx hb dX3_inBox_112 (lv_at hl 1 rfl) ?_
        refine lv_i2l (v := Int32.toInt64 (iI y)) hx hb dX3_inBox_114 rfl ?_
        refine lv_iload hx hb dX3_inBox_115 (lv_at hl 0 rfl) ?_
        refine lv_i2l (v := Int32.toInt64 (iI z)) hx hb dX3_inBox_117 rfl ?_
        refine g_calli (va_runV (As := [.long (Int32.toInt64 (iI x)), .long (Int32.toInt64 (iI y)), .long (Int32.toInt64 (iI z))]) (rest := [.int (nI mn)]) ⟨hx, hb, hml, hown, hts⟩ (ctX3_isSolution l D cs ad (up1 I 0 0) G AN AI AL _ (Int32.toInt64 (iI x)) (Int32.toInt64 (iI y)) (Int32.toInt64 (iI z)) (show I 1 ≤ 3 from h1) (show I 2 ≤ 3 from h2)) (cwV 3 hts (gi_V gw_744 gw_746 gw_51 gw_57 gw_747) rfl rfl rfl (by decide +kernel) ⟨Nat.le_of_ble_eq_true rfl, Nat.le_of_ble_eq_true rfl⟩) ⟨g_blind, va_recv hK hP (ci := 3) (q0 := 0) rfl (wm_at (by decide) rfl), g_pre hP hK hD hN⟩ rfl rfl hl.1 rfl (lv_room (Nat.le_of_ble_eq_true rfl)) dX3_inBox_118 ⟨Nat.zero_le _, Nat.zero_le _⟩) hD hS hA (fun r u H locs hw hP hD hS => ?_)
        obtain ⟨rfl, hw2⟩ := hw
        have hP : va_P D vc (wM cs ad (up1 I 0 0) G AN AI AL) H := hP
        have hD : va_D A (wM cs ad (up1 I 0 0) G AN AI AL) := hD
        have hw2 : r = bz (isS (I 1) (I 2) AI (Int32.toInt64 (iI x)) (Int32.toInt64 (iI y)) (Int32.toInt64 (iI z))) := hw2
        subst hw2
        refine lv_if_eq (tgt := 128) hx hb dX3_inBox_121 (by decide) (fun h6 => ?_) (fun h6 => ?_)
        · refine lv_iconst (v := nI 0) hx hb dX3_inBox_128 (by decide) ?_
          refine b_addn hx hb dX3_inBox_129 ?_
          refine lv_istore_n (lv' := [(2, .int (nI (mn + 0))), (5, .int (iI z)), (4, .int (iI y)), (3, .int (iI x)), (1, .int (nI F)), (0, .ref (ad 0))]) hx hb dX3_inBox_130 rfl hl (by decide) rfl (fun ls hl => ?_)
          have eo := show one9 (isS (I 1) (I 2) AI (Int32.toInt64 (iI x)) (Int32.toInt64 (iI y)) (Int32.toInt64 (iI z))) = 0 by rw [show (isS (I 1) (I 2) AI (Int32.toInt64 (iI x)) (Int32.toInt64 (iI y)) (Int32.toInt64 (iI z))) = false from bz_1.mp h6]; rfl
          obtain ⟨x9, ex9⟩ : ∃ x9 : Int32, x9 = iI z + 1 := ⟨_, rfl⟩
          refine lv_iinc (v := x9) (lv' := [(5, .int x9), (2, .int (nI (mn + 0))), (4, .int (iI y)), (3, .int (iI x)), (1, .int (nI F)), (0, .ref (ad 0))]) hx hb dX3_inBox_131 hl (k := 1) rfl (by rw [ex9]; rfl) (by decide) rfl (fun ls hl => ?_)
          rw [iI_inc (by omega) (by omega)] at ex9
          subst ex9
          refine lv_goto (tgt := 90) hx hb dX3_inBox_134 (by decide) ?_
          have kx2 := kx
          rw [show bxz (I 1) (I 2) AI x y (n + 1) z mn = bxz (I 1) (I 2) AI x y n (z + 1) (mn + 0) from congrArg (fun w => bxz (I 1) (I 2) AI x y n (z + 1) (mn + w)) eo] at kx2
          exact ih (z + 1) (mn + 0) H locs ls (by omega) (by omega) hP hD hS (lv_sub hl [0, 2, 3, 1, 4, 5] rfl) kx2
        · refine lv_iconst (v := nI 1) hx hb dX3_inBox_124 (by decide) ?_
          refine lv_goto (tgt := 129) hx hb dX3_inBox_125 (by decide) ?_
          refine b_addn hx hb dX3_inBox_129 ?_
          refine lv_istore_n (lv' := [(2, .int (nI (mn + 1))), (5, .int (iI z)), (4, .int (iI y)), (3, .int (iI x)), (1, .int (nI F)), (0, .ref (ad 0))]) hx hb dX3_inBox_130 rfl hl (by decide) rfl (fun ls hl => ?_)
          have eo := show one9 (isS (I 1) (I 2) AI (Int32.toInt64 (iI x)) (Int32.toInt64 (iI y)) (Int32.toInt64 (iI z))) = 1 by rw [show (isS (I 1) (I 2) AI (Int32.toInt64 (iI x)) (Int32.toInt64 (iI y)) (Int32.toInt64 (iI z))) = true from bz_t h6]; rfl
          obtain ⟨x9, ex9⟩ : ∃ x9 : Int32, x9 = iI z + 1 := ⟨_, rfl⟩
          refine lv_iinc (v := x9) (lv' := [(5, .int x9), (2, .int (nI (mn + 1))), (4, .int (iI y)), (3, .int (iI x)), (1, .int (nI F)), (0, .ref (ad 0))]) hx hb dX3_inBox_131 hl (k := 1) rfl (by rw [ex9]; rfl) (by decide) rfl (fun ls hl => ?_)
          rw [iI_inc (by omega) (by omega)] at ex9
          subst ex9
          refine lv_goto (tgt := 90) hx hb dX3_inBox_134 (by decide) ?_
          have kx2 := kx
          rw [show bxz (I 1) (I 2) AI x y (n + 1) z mn = bxz (I 1) (I 2) AI x y n (z + 1) (mn + 1) from congrArg (fun w => bxz (I 1) (I 2) AI x y n (z + 1) (mn + w)) eo] at kx2
          exact ih (z + 1) (mn + 1) H locs ls (by omega) (by omega) hP hD hS (lv_sub hl [0, 2, 3, 1, 4, 5] rfl) kx2
    have lpy : ∀ (Q : State → Prop) (x : Int), -12 ≤ x → x ≤ 12 → ∀ (n : Nat) (y : Int) (mn : Nat) (H : Heap) (locs : List Loc) (ls : Array Slot), y + n = hi9 1 (I 1) F + 1 → -12 ≤ y → va_P D vc (wM cs ad (up1 I 0 0) G AN AI AL) H → va_D A (wM cs ad (up1 I 0 0) G AN AI AL) → va_S A s.heap H locs → lv_has ls 6 [(4, .int (iI y)), (3, .int (iI x)), (2, .int (nI mn)), (1, .int (nI F)), (0, .ref (ad 0))] → (∀ (H : Heap) (locs : List Loc) (ls : Array Slot), va_P D vc (wM cs ad (up1 I 0 0) G AN AI AL) H → va_D A (wM cs ad (up1 I 0 0) G AN AI AL) → va_S A s.heap H locs → lv_has ls 6 [(3, .int (iI x)), (2, .int (nI (bxy (I 1) (I 2) F AI x n y mn))), (1, .int (nI F)), (0, .ref (ad 0))] → W p l e rmX3_inBox s m args below meth c H locs 0 0 Q (F0 m 143 ls [])) → W p l e rmX3_inBox s m args below meth c H locs 0 0 Q (F0 m 56 ls []) := by
      intro Q x hx1 hx2 n
      induction n with
      | zero =>
        intro y mn H locs ls hn hlo hP hD hS hl kx
        refine lv_iload hx hb dX3_inBox_56 (lv_at hl 0 rfl) ?_
        refine s58 _ _ _ _ ls hP (lv_sub hl [3, 4] rfl) ?_
        refine lv_icmp_gt (tgt := 143) hx hb dX3_inBox_71 (by decide) (fun _ => ?_) (fun q => absurd ((iI_lt (by omega) (by omega) (by omega) (by omega)).mpr (by omega)) q)
        exact kx H locs ls hP hD hS (lv_sub hl [1, 2, 3, 4] rfl)
      | succ n ih =>
        intro y mn H locs ls hn hlo hP hD hS hl kx
        refine lv_iload hx hb dX3_inBox_56 (lv_at hl 0 rfl) ?_
        refine s58 _ _ _ _ ls hP (lv_sub hl [3, 4] rfl) ?_
        refine lv_icmp_gt (tgt := 143) hx hb dX3_inBox_71 (by decide) (fun q => absurd ((iI_lt (by omega) (by omega) (by omega) (by omega)).mp q) (by omega)) (fun _ => ?_)
        refine s74 _ _ _ _ ls hP (lv_sub hl [3, 4] rfl) ?_
        refine lv_istore (lv' := [(5, .int (iI (lo9 2 (I 1) F))), (4, .int (iI y)), (3, .int (iI x)), (2, .int (nI mn)), (1, .int (nI F)), (0, .ref (ad 0))]) hx hb dX3_inBox_88 hl (by decide) rfl (fun ls hl => ?_)
        refine lpz _ x y hx1 hx2 (by omega) (by omega) (hi9 2 (I 1) F + 1 - lo9 2 (I 1) F).toNat (lo9 2 (I 1) F) mn _ _ ls (by omega) (by omega) hP hD hS (lv_sub hl [0, 1, 2, 3, 4, 5] rfl) (fun H locs ls hP hD hS hl => ?_)
        obtain ⟨x9, ex9⟩ : ∃ x9 : Int32, x9 = iI y + 1 := ⟨_, rfl⟩
        refine lv_iinc (v := x9) (lv' := [(4, .int x9), (3, .int (iI x)), (2, .int (nI (bxz (I 1) (I 2) AI x y (hi9 2 (I 1) F + 1 - lo9 2 (I 1) F).toNat (lo9 2 (I 1) F) mn))), (1, .int (nI F)), (0, .ref (ad 0))]) hx hb dX3_inBox_137 hl (k := 0) rfl (by rw [ex9]; rfl) (by decide) rfl (fun ls hl => ?_)
        rw [iI_inc (by omega) (by omega)] at ex9
        subst ex9
        refine lv_goto (tgt := 56) hx hb dX3_inBox_140 (by decide) ?_
        exact ih (y + 1) _ H locs ls (by omega) (by omega) hP hD hS (lv_sub hl [0, 1, 2, 3, 4] rfl) kx
    have lpx : ∀ (Q : State → Prop) (n : Nat) (x : Int) (mn : Nat) (H : Heap) (locs : List Loc) (ls : Array Slot), x + n = (F : Int) + 1 → -12 ≤ x → va_P D vc (wM cs ad (up1 I 0 0) G AN AI AL) H → va_D A (wM cs ad (up1 I 0 0) G AN AI AL) → va_S A s.heap H locs → lv_has ls 6 [(3, .int (iI x)), (2, .int (nI mn)), (1, .int (nI F)), (0, .ref (ad 0))] → (∀ (H : Heap) (locs : List Loc) (ls : Array Slot), va_P D vc (wM cs ad (up1 I 0 0) G AN AI AL) H → va_D A (wM cs ad (up1 I 0 0) G AN AI AL) → va_S A s.heap H locs → lv_has ls 6 [(2, .int (nI (bxx (I 1) (I 2) F AI n x mn))), (1, .int (nI F)), (0, .ref (ad 0))] → W p l e rmX3_inBox s m args below meth c H locs 0 0 Q (F0 m 149 ls [])) → W p l e rmX3_inBox s m args below meth c H locs 0 0 Q (F0 m 35 ls []) := by
      intro Q n
      induction n with
      | zero =>
        intro x mn H locs ls hn hlo hP hD hS hl kx
        refine lv_iload_n hx hb dX3_inBox_35 rfl (lv_at hl 0 rfl) ?_
        refine lv_iload_n hx hb dX3_inBox_36 rfl (lv_at hl 2 rfl) ?_
        rw [iI_nI F hF31]
        refine lv_icmp_gt (tgt := 149) hx hb dX3_inBox_37 (by decide) (fun _ => ?_) (fun q => absurd ((iI_lt (by omega) (by omega) (by omega) (by omega)).mpr (by omega)) q)
        exact kx H locs ls hP hD hS (lv_sub hl [1, 2, 3] rfl)
      | succ n ih =>
        intro x mn H locs ls hn hlo hP hD hS hl kx
        refine lv_iload_n hx hb dX3_inBox_35 rfl (lv_at hl 0 rfl) ?_
        refine lv_iload_n hx hb dX3_inBox_36 rfl (lv_at hl 2 rfl) ?_
        rw [iI_nI F hF31]
        refine lv_icmp_gt (tgt := 149) hx hb dX3_inBox_37 (by decide) (fun q => absurd ((iI_lt (by omega) (by omega) (by omega) (by omega)).mp q) (by omega)) (fun _ => ?_)
        refine s40 _ _ _ _ ls hP (lv_sub hl [2, 3] rfl) ?_
        refine lv_istore (lv' := [(4, .int (iI (lo9 1 (I 1) F))), (3, .int (iI x)), (2, .int (nI mn)), (1, .int (nI F)), (0, .ref (ad 0))]) hx hb dX3_inBox_54 hl (by decide) rfl (fun ls hl => ?_)
        refine lpy _ x (by omega) (by omega) (hi9 1 (I 1) F + 1 - lo9 1 (I 1) F).toNat (lo9 1 (I 1) F) mn _ _ ls (by omega) (by omega) hP hD hS (lv_sub hl [0, 1, 2, 3, 4] rfl) (fun H locs ls hP hD hS hl => ?_)
        obtain ⟨x9, ex9⟩ : ∃ x9 : Int32, x9 = iI x + 1 := ⟨_, rfl⟩
        refine lv_iinc (v := x9) (lv' := [(3, .int x9), (2, .int (nI (bxy (I 1) (I 2) F AI x (hi9 1 (I 1) F + 1 - lo9 1 (I 1) F).toNat (lo9 1 (I 1) F) mn))), (1, .int (nI F)), (0, .ref (ad 0))]) hx hb dX3_inBox_143 hl (k := 0) rfl (by rw [ex9]; rfl) (by decide) rfl (fun ls hl => ?_)
        rw [iI_inc (by omega) (by omega)] at ex9
        subst ex9
        refine lv_goto (tgt := 35) hx hb dX3_inBox_146 (by decide) ?_
        exact ih (x + 1) _ H locs ls (by omega) (by omega) hP hD hS (lv_sub hl [0, 1, 2, 3] rfl) kx
    refine lv_iconst (v := nI 0) hx hb dX3_inBox_30 (by decide) ?_
    refine lv_istore_n (lv' := [(2, .int (nI 0)), (0, .ref (ad 0)), (1, .int (nI F))]) hx hb dX3_inBox_31 rfl hl (by decide) rfl (fun ls hl => ?_)
    refine lv_iload_n hx hb dX3_inBox_32 rfl (lv_at hl 2 rfl) ?_
    refine lv_ineg hx hb dX3_inBox_33 ?_
    rw [iI_neg F (by omega)]
    refine lv_istore_n (lv' := [(3, .int (iI (-(F : Int)))), (2, .int (nI 0)), (0, .ref (ad 0)), (1, .int (nI F))]) hx hb dX3_inBox_34 rfl hl (by decide) rfl (fun ls hl => ?_)
    refine lpx _ (2 * F + 1) (-(F : Int)) 0 _ _ ls (by omega) (by omega) hP hD hS (lv_sub hl [0, 1, 3, 2] rfl) (fun H locs ls hP hD hS hl => ?_)
    have hl : lv_has ls 6 [(2, .int (nI (boxM (I 1) (I 2) F AI))), (1, .int (nI F)), (0, .ref (ad 0))] := hl
    refine lv_iload_n hx hb dX3_inBox_149 rfl (lv_at hl 0 rfl) ?_
    exact g_iret hx hb hr hlocks (up1 I 0 0, G, AN, AI, AL) (⟨rfl, rfl⟩) hK hP hD hS dX3_inBox_150
