def mo9 (b n F : Nat) : Nat := if b < n then F else 0
theorem mo9_le {b n F : Nat} : mo9 b n F ≤ F := by unfold mo9; split <;> omega
def in12 (q : Int32) : Bool := decide (¬ q < 0 ∧ ¬ nI 12 < q)
def bz2 (n m F : Nat) (AI : Nat → Nat → Int32) (y : Int) : Nat → Int → Int32 → Int32
  | 0, _, c => c
  | k + 1, z, c => bz2 n m F AI y k (z + 1) (c + fitf n AI (iI y) (iI z) m 0 (-(nI F)) (nI F))
def by2 (n m F : Nat) (AI : Nat → Nat → Int32) : Nat → Int → Int32 → Int32
  | 0, _, c => c
  | k + 1, y, c => by2 n m F AI k (y + 1) (bz2 n m F AI y (2 * mo9 2 n F + 1) (-(mo9 2 n F : Int)) c)
def boxX (n m F : Nat) (AI : Nat → Nat → Int32) : Int32 := by2 n m F AI (2 * mo9 1 n F + 1) (-(mo9 1 n F : Int)) (nI 0)

abbrev rmX2_inBox : Room := { frames := 6, cells := 1, slots := 6, locals := 82 }
set_option maxHeartbeats 4000000 in
set_option maxRecDepth 100000 in
/-- inBox -/
theorem ctX2_inBox (l : Launch) (hlt : l.stackTraces = false) (D : va_G) (cs : Nat → ClassId) (ad : Nat → Nat) (I : Nat → Nat) (AN : Nat → Nat → Nat) (AI : Nat → Nat → Int32) (AL : Nat → Nat → Int64) (sz : Nat) (sa : Nat → Nat) (q : Int32) (hn3 : I 0 ≤ 3) (he3 : I 1 ≤ 3) : vx_Met l yX2_inBox (Cond.code yX2_inBox cX2_inBox 7 (some FieldType.int) :: GW) rmX2_inBox (va_Pc [.ref (ad 0), .int q] (gX D cs (wT cs ad I AN AI AL) sz sa)) (va_Qi (fun (r : Int32) (u : TS) => in12 q = true ∧ u = (I, AN, AI, AL) ∧ r = boxX (I 0) (I 1) q.toNatClampNeg AI) (gB D cs (va_A (wT cs ad I AN AI AL) sz) (wTs cs ad)) (va_A (wT cs ad I AN AI AL) sz)) (vx_X (fun w : String × TS => in12 q = false ∧ w = (xIAE, (I, AN, AI, AL))) (xB D cs (va_A (wT cs ad I AN AI AL) sz) (wTs cs ad)) (va_A (wT cs ad I AN AI AL) sz)) 1 6 (va_A (wT cs ad I AN AI AL) sz) := by
  refine vx_ofW (cc := cX2_inBox) (maxL := 7) (ret := (some FieldType.int)) (by decide) rfl ?_
  intro p e s m args below meth c s₁ B hml htab hv
  obtain ⟨rfl, ⟨hsz, hP, hK, hD0, hN⟩, hX⟩ := hv
  have hx := B.exec
  have hb := B.bytes
  have hr := B.returns
  have hts : ∀ w ∈ GW, w.before _ s = true := fun w h => atoms_spec (ws := Cond.code yX2_inBox cX2_inBox 7 (some FieldType.int) :: GW) B.pre w (List.mem_cons_of_mem _ h)
  have hown : s.vm.findClass RX2 = some m.cls := findClass_of_methodNamed B.named
  have hlocks := B.notSynchronized
  subst hsz
  have hD := hD0.self (sz := s.heap.size)
  generalize hAe : va_A (wT cs ad I AN AI AL) s.heap.size = A at hD hX ⊢
  have hA : ∀ q : Nat, s.heap.size ≤ q → A q := fun q h => by rw [← hAe]; exact Or.inr h
  have hS : va_S A s.heap s.heap [] := va_S.rf
  have hl := lv_entry [.ref (ad 0), .int q] (n := 7) (Nat.le_of_ble_eq_true rfl)
  rw [lg_entry_eq]
  generalize (lg_sl [.ref (ad 0), .int q] ++ List.replicate (7 - (lg_sl [.ref (ad 0), .int q]).length) Slot.unset).toArray = ls at hl ⊢
  have hl : lv_has ls 7 [(0, .ref (ad 0)), (1, .int q)] := hl
  generalize hargs : ([.ref (ad 0), .int q] : List Value).toArray = args at *
  show W p l e rmX2_inBox s m args below meth c s.heap [] 0 0 _ (F0 m 0 ls [])
  refine lv_iload_n hx hb dX2_inBox_0 rfl (lv_at hl 1 rfl) ?_
  refine lv_if_lt (tgt := 10) hx hb dX2_inBox_1 (by decide) (fun h0 => ?_) (fun h0 => ?_)
  · exact x_throw (cls := xIAE) (text := "most isn't 0 .. 12") (is := 126) hx hb hlt (by rw [hml]; exact hl.1) hown hts hlocks htab hK hX (by decide) gw_379 gw_63 (by decide) xa_IAE xb_IAE xc_IAE dX2_inBox_10 dX2_inBox_13 dX2_inBox_14 dX2_inBox_16 dX2_inBox_19 (Nat.le_of_ble_eq_true rfl) (Nat.le_of_ble_eq_true rfl) (Nat.le_of_ble_eq_true rfl) (Nat.le_of_ble_eq_true rfl) (I, AN, AI, AL) (⟨decide_eq_false (fun z => z.1 h0), rfl⟩) hP hD hS
  · refine lv_iload_n hx hb dX2_inBox_4 rfl (lv_at hl 1 rfl) ?_
    refine lv_bipush (v := nI 12) hx hb dX2_inBox_5 (by decide) ?_
    refine lv_icmp_le (tgt := 20) hx hb dX2_inBox_7 (by decide) (fun h1 => ?_) (fun h1 => ?_)
    · have hin : in12 q = true := decide_eq_true ⟨h0, i32_nlt.mpr h1⟩
      obtain ⟨F, hF31, rfl⟩ := nI_of h0
      have hF12 : F ≤ 12 := (nI_leI hF31 (by decide)).mp h1
      have hcl : (nI F).toNatClampNeg = F := nI_cl hF31
      rw [hcl]
      have hl : lv_has ls 7 [(0, .ref (ad 0)), (1, .int (nI F))] := hl
      have s20 : ∀ (Q : State → Prop) (lv : List (Nat × Value)) (H : Heap) (locs : List Loc) (ls : Array Slot), va_P D vc (wT cs ad I AN AI AL) H → lv_has ls 7 [(0, .ref (ad 0)), (1, .int (nI F))] → W p l e rmX2_inBox s m args below meth c H locs 0 0 Q (F0 m 33 ls [.int (nI (mo9 1 (I 0) F))]) → W p l e rmX2_inBox s m args below meth c H locs 0 0 Q (F0 m 20 ls []) := by
        intro Q lv H locs ls hP hl k9
        refine lv_aload_n hx hb dX2_inBox_20 rfl (lv_at hl 0 rfl) ?_
        refine b_get (own := RX2) (C := RX2) (T := TX2) (N := 5) (ci := 2) (v := .int (nI (I 0))) hx hb hts usX2 hown hK hP 0 (by decide) rfl rfl 0 (by decide) (hts _ gw_130) rfl dX2_inBox_21 ?_
        refine lv_iconst (v := nI 1) hx hb dX2_inBox_24 (by decide) ?_
        by_cases hb9 : 1 < I 0
        · refine lv_icmp_le (tgt := 32) hx hb dX2_inBox_25 (by decide) (fun q => absurd q (nI_ge hb9 (by omega))) (fun _ => ?_)
          refine lv_iload_n hx hb dX2_inBox_28 rfl (lv_at hl 1 rfl) ?_
          refine lv_goto (tgt := 33) hx hb dX2_inBox_29 (by decide) ?_
          rw [show nI (mo9 1 (I 0) F) = nI F by unfold mo9; rw [if_pos hb9]] at k9
          exact k9
        · refine lv_icmp_le (tgt := 32) hx hb dX2_inBox_25 (by decide) (fun _ => ?_) (fun q => absurd (nI_le (by omega) (by omega)) q)
          refine lv_iconst (v := nI 0) hx hb dX2_inBox_32 (by decide) ?_
          rw [show nI (mo9 1 (I 0) F) = nI 0 by unfold mo9; rw [if_neg hb9]] at k9
          exact k9
      have s34 : ∀ (Q : State → Prop) (lv : List (Nat × Value)) (H : Heap) (locs : List Loc) (ls : Array Slot), va_P D vc (wT cs ad I AN AI AL) H → lv_has ls 7 [(0, .ref (ad 0)), (1, .int (nI F))] → W p l e rmX2_inBox s m args below meth c H locs 0 0 Q (F0 m 47 ls [.int (nI (mo9 2 (I 0) F))]) → W p l e rmX2_inBox s m args below meth c H locs 0 0 Q (F0 m 34 ls []) := by
        intro Q lv H locs ls hP hl k9
        refine lv_aload_n hx hb dX2_inBox_34 rfl (lv_at hl 0 rfl) ?_
        refine b_get (own := RX2) (C := RX2) (T := TX2) (N := 5) (ci := 2) (v := .int (nI (I 0))) hx hb hts usX2 hown hK hP 0 (by decide) rfl rfl 0 (by decide) (hts _ gw_130) rfl dX2_inBox_35 ?_
        refine lv_iconst (v := nI 2) hx hb dX2_inBox_38 (by decide) ?_
        by_cases hb9 : 2 < I 0
        · refine lv_icmp_le (tgt := 46) hx hb dX2_inBox_39 (by decide) (fun q => absurd q (nI_ge hb9 (by omega))) (fun _ => ?_)
          refine lv_iload_n hx hb dX2_inBox_42 rfl (lv_at hl 1 rfl) ?_
          refine lv_goto (tgt := 47) hx hb dX2_inBox_43 (by decide) ?_
          rw [show nI (mo9 2 (I 0) F) = nI F by unfold mo9; rw [if_pos hb9]] at k9
          exact k9
        · refine lv_icmp_le (tgt := 46) hx hb dX2_inBox_39 (by decide) (fun _ => ?_) (fun q => absurd (nI_le (by omega) (by omega)) q)
          refine lv_iconst (v := nI 0) hx hb dX2_inBox_46 (by decide) ?_
          rw [show nI (mo9 2 (I 0) F) = nI 0 by unfold mo9; rw [if_neg hb9]] at k9
          exact k9
      have hm1 : mo9 1 (I 0) F ≤ F := mo9_le
      have hm2 : mo9 2 (I 0) F ≤ F := mo9_le
      obtain ⟨M1, hM1⟩ : ∃ M1, M1 = mo9 1 (I 0) F := ⟨_, rfl⟩
      obtain ⟨M2, hM2⟩ : ∃ M2, M2 = mo9 2 (I 0) F := ⟨_, rfl⟩
      rw [← hM1] at s20 hm1
      rw [← hM2] at s34 hm2
      have lpz : ∀ (Q : State → Prop) (y : Int) (n : Nat) (z : Int) (fd : Int32) (H : Heap) (locs : List Loc) (ls : Array Slot), z + n = (M2 : Int) + 1 → -12 ≤ z → va_P D vc (wT cs ad I AN AI AL) H → va_D A (wT cs ad I AN AI AL) → va_S A s.heap H locs → lv_has ls 7 [(6, .int (iI z)), (5, .int (iI y)), (4, .int fd), (3, .int (nI M2)), (2, .int (nI M1)), (0, .ref (ad 0)), (1, .int (nI F))] → (∀ (H : Heap) (locs : List Loc) (ls : Array Slot), va_P D vc (wT cs ad I AN AI AL) H → va_D A (wT cs ad I AN AI AL) → va_S A s.heap H locs → lv_has ls 7 [(5, .int (iI y)), (4, .int (bz2 (I 0) (I 1) F AI y n z fd)), (3, .int (nI M2)), (2, .int (nI M1)), (0, .ref (ad 0)), (1, .int (nI F))] → W p l e rmX2_inBox s m args below meth c H locs 0 0 Q (F0 m 91 ls [])) → W p l e rmX2_inBox s m args below meth c H locs 0 0 Q (F0 m 65 ls []) := by
        intro Q y n
        induction n with
        | zero =>
          intro z fd H locs ls hn hlo hP hD hS hl kx
          refine lv_iload hx hb dX2_inBox_65 (lv_at hl 0 rfl) ?_
          refine lv_iload_n hx hb dX2_inBox_67 rfl (lv_at hl 3 rfl) ?_
          rw [iI_nI M2 (by omega)]
          refine lv_icmp_gt (tgt := 91) hx hb dX2_inBox_68 (by decide) (fun _ => ?_) (fun q => absurd ((iI_lt (by omega) (by omega) (by omega) (by omega)).mpr (by omega)) q)
          exact kx H locs ls hP hD hS (lv_sub hl [1, 2, 3, 4, 5, 6] rfl)
        | succ n ih =>
          intro z fd H locs ls hn hlo hP hD hS hl kx
          refine lv_iload hx hb dX2_inBox_65 (lv_at hl 0 rfl) ?_
          refine lv_iload_n hx hb dX2_inBox_67 rfl (lv_at hl 3 rfl) ?_
          rw [iI_nI M2 (by omega)]
          refine lv_icmp_gt (tgt := 91) hx hb dX2_inBox_68 (by decide) (fun q => absurd ((iI_lt (by omega) (by omega) (by omega) (by omega)).mp q) (by omega)) (fun _ => ?_)
          refine lv_iload hx hb dX2_inBox_71 (lv_at hl 2 rfl) ?_
          refine lv_aload_n hx hb dX2_inBox_73 rfl (lv_at hl 5 rfl) ?_
          refine lv_iload hx hb dX2_inBox_74 (lv_at hl 1 rfl) ?_
          refine lv_iload hx hb dX2_inBox_76 (lv_at hl 0 rfl) ?_
          refine lv_iload_n hx hb dX2_inBox_78 rfl (lv_at hl 6 rfl) ?_
          refine g_calli (va_runV (As := [.int (iI y), .int (iI z), .int (nI F)]) (rest := [.int fd]) ⟨hx, hb, hml, hown, hts⟩ (ctX2_fittingFirsts l D cs ad I AN AI AL _ (iI y) (iI z) (nI F) hn3 he3) (cwV 3 hts (gi_V gw_494 gw_496 gw_27 gw_53 gw_497) rfl rfl rfl (by decide +kernel) ⟨Nat.le_of_ble_eq_true rfl, Nat.le_of_ble_eq_true rfl⟩) ⟨g_blind, va_recv hK hP (ci := 2) (q0 := 0) rfl (wm_at (by decide) rfl), g_pre hP hK hD hN⟩ rfl rfl hl.1 rfl (lv_room (Nat.le_of_ble_eq_true rfl)) dX2_inBox_79 ⟨Nat.zero_le _, Nat.zero_le _⟩) hD hS hA (fun r u H locs hw hP hD hS => ?_)
          obtain ⟨rfl, rfl⟩ := hw
          have hP : va_P D vc (wT cs ad I AN AI AL) H := hP
          have hD : va_D A (wT cs ad I AN AI AL) := hD
          refine lv_iadd hx hb dX2_inBox_82 ?_
          refine lv_istore (lv' := [(4, .int (fd + (fitf (I 0) AI (iI y) (iI z) (I 1) 0 (-(nI F)) (nI F)))), (6, .int (iI z)), (5, .int (iI y)), (3, .int (nI M2)), (2, .int (nI M1)), (0, .ref (ad 0)), (1, .int (nI F))]) hx hb dX2_inBox_83 hl (by decide) rfl (fun ls hl => ?_)
          obtain ⟨x9, ex9⟩ : ∃ x9 : Int32, x9 = iI z + 1 := ⟨_, rfl⟩
          refine lv_iinc (v := x9) (lv' := [(6, .int x9), (4, .int (fd + (fitf (I 0) AI (iI y) (iI z) (I 1) 0 (-(nI F)) (nI F)))), (5, .int (iI y)), (3, .int (nI M2)), (2, .int (nI M1)), (0, .ref (ad 0)), (1, .int (nI F))]) hx hb dX2_inBox_85 hl (k := 1) rfl (by rw [ex9]; rfl) (by decide) rfl (fun ls hl => ?_)
          rw [iI_inc (by omega) (by omega)] at ex9
          subst ex9
          refine lv_goto (tgt := 65) hx hb dX2_inBox_88 (by decide) ?_
          exact ih (z + 1) _ H locs ls (by omega) (by omega) hP hD hS (lv_sub hl [0, 2, 1, 3, 4, 5, 6] rfl) kx
      have lpy : ∀ (Q : State → Prop) (n : Nat) (y : Int) (fd : Int32) (H : Heap) (locs : List Loc) (ls : Array Slot), y + n = (M1 : Int) + 1 → -12 ≤ y → va_P D vc (wT cs ad I AN AI AL) H → va_D A (wT cs ad I AN AI AL) → va_S A s.heap H locs → lv_has ls 7 [(5, .int (iI y)), (4, .int fd), (3, .int (nI M2)), (2, .int (nI M1)), (0, .ref (ad 0)), (1, .int (nI F))] → (∀ (H : Heap) (locs : List Loc) (ls : Array Slot), va_P D vc (wT cs ad I AN AI AL) H → va_D A (wT cs ad I AN AI AL) → va_S A s.heap H locs → lv_has ls 7 [(4, .int (by2 (I 0) (I 1) F AI n y fd)), (3, .int (nI M2)), (2, .int (nI M1)), (0, .ref (ad 0)), (1, .int (nI F))] → W p l e rmX2_inBox s m args below meth c H locs 0 0 Q (F0 m 97 ls [])) → W p l e rmX2_inBox s m args below meth c H locs 0 0 Q (F0 m 55 ls []) := by
        intro Q n
        induction n with
        | zero =>
          intro y fd H locs ls hn hlo hP hD hS hl kx
          refine lv_iload hx hb dX2_inBox_55 (lv_at hl 0 rfl) ?_
          refine lv_iload_n hx hb dX2_inBox_57 rfl (lv_at hl 3 rfl) ?_
          rw [iI_nI M1 (by omega)]
          refine lv_icmp_gt (tgt := 97) hx hb dX2_inBox_58 (by decide) (fun _ => ?_) (fun q => absurd ((iI_lt (by omega) (by omega) (by omega) (by omega)).mpr (by omega)) q)
          exact kx H locs ls hP hD hS (lv_sub hl [1, 2, 3, 4, 5] rfl)
        | succ n ih =>
          intro y fd H locs ls hn hlo hP hD hS hl kx
          refine lv_iload hx hb dX2_inBox_55 (lv_at hl 0 rfl) ?_
          refine lv_iload_n hx hb dX2_inBox_57 rfl (lv_at hl 3 rfl) ?_
          rw [iI_nI M1 (by omega)]
          refine lv_icmp_gt (tgt := 97) hx hb dX2_inBox_58 (by decide) (fun q => absurd ((iI_lt (by omega) (by omega) (by omega) (by omega)).mp q) (by omega)) (fun _ => ?_)
          refine lv_iload_n hx hb dX2_inBox_61 rfl (lv_at hl 2 rfl) ?_
          refine lv_ineg hx hb dX2_inBox_62 ?_
          rw [iI_neg M2 (by omega)]
          refine lv_istore (lv' := [(6, .int (iI (-(M2 : Int)))), (5, .int (iI y)), (4, .int fd), (3, .int (nI M2)), (2, .int (nI M1)), (0, .ref (ad 0)), (1, .int (nI F))]) hx hb dX2_inBox_63 hl (by decide) rfl (fun ls hl => ?_)
          refine lpz _ y (2 * M2 + 1) (-(M2 : Int)) fd _ _ ls (by omega) (by omega) hP hD hS (lv_sub hl [0, 1, 2, 3, 4, 5, 6] rfl) (fun H locs ls hP hD hS hl => ?_)
          obtain ⟨x9, ex9⟩ : ∃ x9 : Int32, x9 = iI y + 1 := ⟨_, rfl⟩
          refine lv_iinc (v := x9) (lv' := [(5, .int x9), (4, .int (bz2 (I 0) (I 1) F AI y (2 * M2 + 1) (-(M2 : Int)) fd)), (3, .int (nI M2)), (2, .int (nI M1)), (0, .ref (ad 0)), (1, .int (nI F))]) hx hb dX2_inBox_91 hl (k := 0) rfl (by rw [ex9]; rfl) (by decide) rfl (fun ls hl => ?_)
          rw [iI_inc (by omega) (by omega)] at ex9
          subst ex9
          refine lv_goto (tgt := 55) hx hb dX2_inBox_94 (by decide) ?_
          rw [by2, ← hM2] at kx
          refine ih (y + 1) _ H locs ls (by omega) (by omega) hP hD hS (lv_sub hl [0, 1, 2, 3, 4, 5] rfl) ?_
          exact kx
      refine s20 _ [] _ _ ls hP (lv_sub hl [0, 1] rfl) ?_
      refine lv_istore_n (lv' := [(2, .int (nI M1)), (0, .ref (ad 0)), (1, .int (nI F))]) hx hb dX2_inBox_33 rfl hl (by decide) rfl (fun ls hl => ?_)
      refine s34 _ [] _ _ ls hP (lv_sub hl [1, 2] rfl) ?_
      refine lv_istore_n (lv' := [(3, .int (nI M2)), (2, .int (nI M1)), (0, .ref (ad 0)), (1, .int (nI F))]) hx hb dX2_inBox_47 rfl hl (by decide) rfl (fun ls hl => ?_)
      refine lv_iconst (v := nI 0) hx hb dX2_inBox_48 (by decide) ?_
      refine lv_istore (lv' := [(4, .int (nI 0)), (3, .int (nI M2)), (2, .int (nI M1)), (0, .ref (ad 0)), (1, .int (nI F))]) hx hb dX2_inBox_49 hl (by decide) rfl (fun ls hl => ?_)
      refine lv_iload_n hx hb dX2_inBox_51 rfl (lv_at hl 2 rfl) ?_
      refine lv_ineg hx hb dX2_inBox_52 ?_
      rw [iI_neg M1 (by omega)]
      refine lv_istore (lv' := [(5, .int (iI (-(M1 : Int)))), (4, .int (nI 0)), (3, .int (nI M2)), (2, .int (nI M1)), (0, .ref (ad 0)), (1, .int (nI F))]) hx hb dX2_inBox_53 hl (by decide) rfl (fun ls hl => ?_)
      refine lpy _ (2 * M1 + 1) (-(M1 : Int)) (nI 0) _ _ ls (by omega) (by omega) hP hD hS (lv_sub hl [0, 1, 2, 3, 4, 5] rfl) (fun H locs ls hP hD hS hl => ?_)
      refine lv_iload hx hb dX2_inBox_97 (lv_at hl 0 rfl) ?_
      exact vx_ret (w_widen (k := 1) (n := 6) (Nat.zero_le _) (Nat.zero_le _) (g_iret hx hb hr hlocks (I, AN, AI, AL) (⟨hin, rfl, by unfold boxX; rw [← hM1]⟩) hK hP hD hS dX2_inBox_99))
    · exact x_throw (cls := xIAE) (text := "most isn't 0 .. 12") (is := 126) hx hb hlt (by rw [hml]; exact hl.1) hown hts hlocks htab hK hX (by decide) gw_379 gw_63 (by decide) xa_IAE xb_IAE xc_IAE dX2_inBox_10 dX2_inBox_13 dX2_inBox_14 dX2_inBox_16 dX2_inBox_19 (Nat.le_of_ble_eq_true rfl) (Nat.le_of_ble_eq_true rfl) (Nat.le_of_ble_eq_true rfl) (Nat.le_of_ble_eq_true rfl) (I, AN, AI, AL) (⟨decide_eq_false (fun z => h1 (i32_nlt.mp z.2)), rfl⟩) hP hD hS
