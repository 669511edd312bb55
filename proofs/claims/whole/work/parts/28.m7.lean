theorem up2_2 {α : Type} {f : Nat → Nat → α} {a b : Nat} {v w : α} : up2 (up2 f a b v) a b w = up2 f a b w := by
  funext x z
  by_cases h : x = a ∧ z = b
  · simp [up2, h]
  · simp [up2, h]
def nbr (AN : Nat → Nat → Nat) (AI : Nat → Int32) (r u : Nat) : Int64 := Int32.toInt64 (AI (4 * AN 3 r + u))
def crs (AN : Nat → Nat → Nat) (AI : Nat → Int32) (i j : Nat) : Int64 := nbr AN AI 0 i * nbr AN AI 1 j - nbr AN AI 0 j * nbr AN AI 1 i
/-- size and bases -/
def fbA (n rk : Nat) (AN : Nat → Nat → Nat) (AI : Nat → Int32) (AL : Nat → Nat → Int64) : Nat × (Nat → Nat → Int64) :=
  if rk = 0 then (n, fo (fun k X => memb k (if k = 0 then 1 else 0) (if k = 1 then 1 else 0) (if k = 2 then 1 else 0) X) n 0 AL)
  else if rk + 1 = n then
    if n = 2 then (1, memb 0 (nbr AN AI 0 1 / lnH (nbr AN AI 0 1) (-nbr AN AI 0 0) 0) (-nbr AN AI 0 0 / lnH (nbr AN AI 0 1) (-nbr AN AI 0 0) 0) (0 / lnH (nbr AN AI 0 1) (-nbr AN AI 0 0) 0) AL)
    else (1, memb 0 (crs AN AI 1 2 / lnH (crs AN AI 1 2) (crs AN AI 2 0) (crs AN AI 0 1)) (crs AN AI 2 0 / lnH (crs AN AI 1 2) (crs AN AI 2 0) (crs AN AI 0 1)) (crs AN AI 0 1 / lnH (crs AN AI 1 2) (crs AN AI 2 0) (crs AN AI 0 1)) AL)
  else if rk < n then (2, plnA 0 (nbr AN AI 0 0 / lnG (nbr AN AI 0 0) (nbr AN AI 0 1) (nbr AN AI 0 2)) (nbr AN AI 0 1 / lnG (nbr AN AI 0 0) (nbr AN AI 0 1) (nbr AN AI 0 2)) (nbr AN AI 0 2 / lnG (nbr AN AI 0 0) (nbr AN AI 0 1) (nbr AN AI 0 2)) AL)
  else (0, AL)
/-- what findBase needs so that it comes to its end -/
def okFb (n rk : Nat) (AN : Nat → Nat → Nat) (AI : Nat → Int32) (AL : Nat → Nat → Int64) : Prop :=
  (rk + 1 = n → ¬ rk = 0 → if n = 2 then okLn (nbr AN AI 0 1) (-nbr AN AI 0 0) 0 else okLn (crs AN AI 1 2) (crs AN AI 2 0) (crs AN AI 0 1)) ∧
  (¬ rk = 0 → ¬ rk + 1 = n → rk < n → okD (nbr AN AI 0 1) (nbr AN AI 0 2) ∧ okD (nbr AN AI 0 0) (dv64 (nbr AN AI 0 1) (nbr AN AI 0 2)) ∧ ¬ lnG (nbr AN AI 0 0) (nbr AN AI 0 1) (nbr AN AI 0 2) = 0 ∧ okPl (nbr AN AI 0 0 / lnG (nbr AN AI 0 0) (nbr AN AI 0 1) (nbr AN AI 0 2)) (nbr AN AI 0 1 / lnG (nbr AN AI 0 0) (nbr AN AI 0 1) (nbr AN AI 0 2)) (nbr AN AI 0 2 / lnG (nbr AN AI 0 0) (nbr AN AI 0 1) (nbr AN AI 0 2))) ∧
  ∀ k, k < (fbA n rk AN AI AL).1 → ∃ b, fnd (fun j => ¬ (fbA n rk AN AI AL).2 9 (3 * k + j) = 0) 3 0 = some b
/-- where a member begins -/
def bgF (X : Nat → Nat → Int64) (k : Nat) : Nat := (fnd (fun j => ¬ X 9 (3 * k + j) = 0) 3 0).getD 0
def bgA (sz : Nat) (X : Nat → Nat → Int64) (AN : Nat → Nat → Nat) : Nat → Nat → Nat := fo (fun k Y => up2 Y 10 k (bgF X k)) sz 0 AN
theorem fbA_le {n rk : Nat} {AN : Nat → Nat → Nat} {AI : Nat → Int32} {AL : Nat → Nat → Int64} (hn : n ≤ 3) : (fbA n rk AN AI AL).1 ≤ 3 := by
  unfold fbA
  split
  · exact hn
  · split
    · split
      · exact (by decide : 1 ≤ 3)
      · exact (by decide : 1 ≤ 3)
    · split
      · exact (by decide : 2 ≤ 3)
      · exact (by decide : 0 ≤ 3)

abbrev rmX3_findBase : Room := { frames := 3, cells := 0, slots := 0, locals := 68 }
set_option maxHeartbeats 4000000 in
set_option maxRecDepth 100000 in
theorem ctX3_findBase (l : Launch) (D : va_G) (cs : Nat → ClassId) (ad : Nat → Nat) (I : Nat → Nat) (G : Nat → Int64) (AN : Nat → Nat → Nat) (AI : Nat → Int32) (AL : Nat → Nat → Int64) (sz : Nat)  (h1 : I 1 ≤ 3) (h2 : I 2 ≤ 3) (hok : okA AN) (hfb : okFb (I 1) (lkF (I 1) (I 2) AI AN AL).1 (lkF (I 1) (I 2) AI AN AL).2.1 AI (lkF (I 1) (I 2) AI AN AL).2.2) : Met l yX3_findBase (Cond.code yX3_findBase cX3_findBase 3 none :: GW) rmX3_findBase (va_Pc [.ref (ad 0)] (gP D cs (wM cs ad I G AN AI AL) sz)) (va_Qv (fun u : MS => u = (up1 (up1 I 3 (lkF (I 1) (I 2) AI AN AL).1) 4 (fbA (I 1) (lkF (I 1) (I 2) AI AN AL).1 (lkF (I 1) (I 2) AI AN AL).2.1 AI (lkF (I 1) (I 2) AI AN AL).2.2).1, G, bgA (fbA (I 1) (lkF (I 1) (I 2) AI AN AL).1 (lkF (I 1) (I 2) AI AN AL).2.1 AI (lkF (I 1) (I 2) AI AN AL).2.2).1 (fbA (I 1) (lkF (I 1) (I 2) AI AN AL).1 (lkF (I 1) (I 2) AI AN AL).2.1 AI (lkF (I 1) (I 2) AI AN AL).2.2).2 (lkF (I 1) (I 2) AI AN AL).2.1, AI, (fbA (I 1) (lkF (I 1) (I 2) AI AN AL).1 (lkF (I 1) (I 2) AI AN AL).2.1 AI (lkF (I 1) (I 2) AI AN AL).2.2).2)) (gB D cs (va_A (wM cs ad I G AN AI AL) sz) (wMs cs ad)) (va_A (wM cs ad I G AN AI AL) sz)) 0 0 (va_A (wM cs ad I G AN AI AL) sz) := by
  refine Met.ofW (cc := cX3_findBase) (maxL := 3) (ret := none) (by decide) rfl ?_
  intro p e s m args below meth c s₁ B hml hv
  obtain ⟨rfl, hsz, hP, hK, hD0, hN⟩ := hv
  have hx := B.exec
  have hb := B.bytes
  have hr := B.returns
  have hts : ∀ w ∈ GW, w.before _ s = true := fun w h => atoms_spec (ws := Cond.code yX3_findBase cX3_findBase 3 none :: GW) B.pre w (List.mem_cons_of_mem _ h)
  have hown : s.vm.findClass RX3 = some m.cls := findClass_of_methodNamed B.named
  have hlocks := B.notSynchronized
  subst hsz
  have hD := hD0.self (sz := s.heap.size)
  generalize hAe : va_A (wM cs ad I G AN AI AL) s.heap.size = A at hD ⊢
  have hA : ∀ q : Nat, s.heap.size ≤ q → A q := fun q h => by rw [← hAe]; exact Or.inr h
  have hS : va_S A s.heap s.heap [] := va_S.rf
  have hl := lv_entry [.ref (ad 0)] (n := 3) (Nat.le_of_ble_eq_true rfl)
  rw [lg_entry_eq]
  generalize (lg_sl [.ref (ad 0)] ++ List.replicate (3 - (lg_sl [.ref (ad 0)]).length) Slot.unset).toArray = ls at hl ⊢
  have hl : lv_has ls 3 [(0, .ref (ad 0))] := hl
  generalize hargs : ([.ref (ad 0)] : List Value).toArray = args at *
  show W p l e rmX3_findBase s m args below meth c s.heap [] 0 0 _ (F0 m 0 ls [])
  refine lv_aload_n hx hb dX3_findBase_0 rfl (lv_at hl 0 rfl) ?_
  refine g_callv (va_runV (As := []) (rest := []) ⟨hx, hb, hml, hown, hts⟩ (ctX3_look l D cs ad I G AN AI AL _ h1 h2 hok) (cwV 0 hts (gi_V gw_616 gw_618 gw_30 gw_57 gw_619) rfl rfl rfl (by decide +kernel) ⟨Nat.le_of_ble_eq_true rfl, Nat.le_of_ble_eq_true rfl⟩) ⟨g_blind, va_recv hK hP (ci := 3) (q0 := 0) rfl (wm_at (by decide) rfl), g_pre hP hK hD hN⟩ rfl rfl hl.1 rfl (lv_room (Nat.le_of_ble_eq_true rfl)) dX3_findBase_1 ⟨Nat.zero_le _, Nat.zero_le _⟩) hD hS hA (fun u H locs hw hP hD hS => ?_)
  obtain rfl := hw
  have hP : va_P D vc (wM cs ad (up1 I 3 (lkF (I 1) (I 2) AI AN AL).1) G ((lkF (I 1) (I 2) AI AN AL).2.1) AI ((lkF (I 1) (I 2) AI AN AL).2.2)) H := hP
  have hD : va_D A (wM cs ad (up1 I 3 (lkF (I 1) (I 2) AI AN AL).1) G ((lkF (I 1) (I 2) AI AN AL).2.1) AI ((lkF (I 1) (I 2) AI AN AL).2.2)) := hD
  have hL := lk_ok (AI := AI) (AL := AL) h1 h2 hok
  have hL1 : (lkF (I 1) (I 2) AI AN AL).1 ≤ 3 := Nat.le_trans hL.2.1 h1
  have hL2 := hL.2.1
  have hL3 : okA (lkF (I 1) (I 2) AI AN AL).2.1 := hL.2.2
  obtain ⟨rk, AN1, AL1, hLe⟩ : ∃ rk AN1 AL1, (lkF (I 1) (I 2) AI AN AL) = (rk, AN1, AL1) := ⟨_, _, _, rfl⟩
  rw [hLe] at hP hD hL1 hL2 hL3 hfb ⊢
  have hP : va_P D vc (wM cs ad (up1 I 3 rk) G AN1 AI AL1) H := hP
  have hD : va_D A (wM cs ad (up1 I 3 rk) G AN1 AI AL1) := hD
  have hL1 : rk ≤ 3 := hL1
  have hL3 : okA AN1 := hL3
  have hL2 : rk ≤ I 1 := hL2
  have hfb : okFb (I 1) rk AN1 AI AL1 := hfb
  have l262 : ∀ (H : Heap) (locs : List Loc) (ls : Array Slot) (sz : Nat) (X : Nat → Nat → Int64), (sz, X) = fbA (I 1) rk AN1 AI AL1 → va_P D vc (wM cs ad (up1 (up1 I 3 rk) 4 sz) G AN1 AI X) H → va_D A (wM cs ad (up1 (up1 I 3 rk) 4 sz) G AN1 AI X) → va_S A s.heap H locs → lv_has ls 3 [(0, .ref (ad 0))] → W p l e rmX3_findBase s m args below meth c H locs 0 0 (MQ below (va_Qv (fun u : MS => u = (up1 (up1 I 3 rk) 4 (fbA (I 1) rk AN1 AI AL1).1, G, bgA (fbA (I 1) rk AN1 AI AL1).1 (fbA (I 1) rk AN1 AI AL1).2 AN1, AI, (fbA (I 1) rk AN1 AI AL1).2)) (gB D cs A (wMs cs ad)) A) args s 0 0 A) (F0 m 262 ls []) := by
    intro H locs ls sz X he hP hD hS hl
    have hsz3 : (fbA (I 1) rk AN1 AI AL1).1 ≤ 3 := fbA_le h1
    have hbe := hfb.2.2
    rw [← he] at hsz3 hbe ⊢
    have hsz3 : sz ≤ 3 := hsz3
    have hbe : ∀ k, k < sz → ∃ b, fnd (fun j => ¬ X 9 (3 * k + j) = 0) 3 0 = some b := hbe
    refine lv_iconst (v := nI 0) hx hb dX3_findBase_262 (by decide) ?_
    refine lv_istore_n (lv' := [(1, .int (nI 0)), (0, .ref (ad 0))]) hx hb dX3_findBase_263 rfl hl (by decide) rfl (fun ls hl => ?_)
    have lp264 : ∀ (Q : State → Prop) (n k9 : Nat) (Y : Nat → Nat → Nat) (H : Heap) (locs : List Loc) (ls : Array Slot), k9 + n = sz → va_P D vc (wM cs ad (up1 (up1 I 3 rk) 4 sz) G Y AI X) H → va_D A (wM cs ad (up1 (up1 I 3 rk) 4 sz) G Y AI X) → va_S A s.heap H locs → lv_has ls 3 [(1, .int (nI k9)), (0, .ref (ad 0))] → (∀ (H : Heap) (locs : List Loc) (ls : Array Slot), va_P D vc (wM cs ad (up1 (up1 I 3 rk) 4 sz) G (fo (fun k Y => up2 Y 10 k (bgF X k)) n k9 Y) AI X) H → va_D A (wM cs ad (up1 (up1 I 3 rk) 4 sz) G (fo (fun k Y => up2 Y 10 k (bgF X k)) n k9 Y) AI X) → va_S A s.heap H locs → lv_has ls 3 [(1, .int (nI sz)), (0, .ref (ad 0))] → W p l e rmX3_findBase s m args below meth c H locs 0 0 Q (F0 m 318 ls [])) → W p l e rmX3_findBase s m args below meth c H locs 0 0 Q (F0 m 264 ls []) := by
      intro Q n
      induction n with
      | zero =>
        intro k9 Y H locs ls hn hP hD hS hl kx
        have hi : k9 = sz := by omega
        refine lv_iload_n hx hb dX3_findBase_264 rfl (lv_at hl 0 rfl) ?_
        refine lv_aload_n hx hb dX3_findBase_265 rfl (lv_at hl 1 rfl) ?_
        refine b_get (own := RX3) (C := RX3) (T := TX3) (N := 23) (ci := 3) (v := .int (nI sz)) hx hb hts usX3 hown hK hP 0 (by decide) rfl rfl 15 (by decide) (hts _ gw_519) rfl dX3_findBase_266 ?_
        refine b_ge_t (tgt := 318) hx hb dX3_findBase_269 (by decide) (by omega) (by omega) ?_
        rw [hi] at hl
        exact kx H locs ls hP hD hS (lv_sub hl [0, 1] rfl)
      | succ n ih =>
        intro k9 Y H locs ls hn hP hD hS hl kx
        have hi : k9 < sz := by omega
        refine lv_iload_n hx hb dX3_findBase_264 rfl (lv_at hl 0 rfl) ?_
        refine lv_aload_n hx hb dX3_findBase_265 rfl (lv_at hl 1 rfl) ?_
        refine b_get (own := RX3) (C := RX3) (T := TX3) (N := 23) (ci := 3) (v := .int (nI sz)) hx hb hts usX3 hown hK hP 0 (by decide) rfl rfl 15 (by decide) (hts _ gw_519) rfl dX3_findBase_266 ?_
        refine b_ge_f (tgt := 318) hx hb dX3_findBase_269 (by decide) (by omega) (by omega) ?_
        refine lv_aload_n hx hb dX3_findBase_272 rfl (lv_at hl 1 rfl) ?_
        refine b_get (own := RX3) (C := RX3) (T := TX3) (N := 23) (ci := 3) (v := .ref (ad 10)) hx hb hts usX3 hown hK hP 0 (by decide) rfl rfl 17 (by decide) (hts _ gw_521) rfl dX3_findBase_273 ?_
        refine lv_iload_n hx hb dX3_findBase_276 rfl (lv_at hl 0 rfl) ?_
        refine lv_iconst (v := nI 0) hx hb dX3_findBase_277 (by decide) ?_
        refine b_iast hx hb hK hP hD hS 10 0 (by decide) rfl rfl (by omega) (by decide) dX3_findBase_278 sM_N10 (fun H locs hP hD hS => ?_)
        obtain ⟨b9, hb9⟩ := hbe k9 (by omega)
        have lp279 : ∀ (n j : Nat) (H : Heap) (locs : List Loc) (ls : Array Slot), j + n = 3 → fnd (fun j => ¬ X 9 (3 * k9 + j) = 0) n j = some b9 → va_P D vc (wM cs ad (up1 (up1 I 3 rk) 4 sz) G (up2 Y 10 k9 j) AI X) H → va_D A (wM cs ad (up1 (up1 I 3 rk) 4 sz) G (up2 Y 10 k9 j) AI X) → va_S A s.heap H locs → lv_has ls 3 [(1, .int (nI k9)), (0, .ref (ad 0))] → (∀ (H : Heap) (locs : List Loc) (ls : Array Slot), va_P D vc (wM cs ad (up1 (up1 I 3 rk) 4 sz) G (up2 Y 10 k9 b9) AI X) H → va_D A (wM cs ad (up1 (up1 I 3 rk) 4 sz) G (up2 Y 10 k9 b9) AI X) → va_S A s.heap H locs → lv_has ls 3 [(1, .int (nI k9)), (0, .ref (ad 0))] → W p l e rmX3_findBase s m args below meth c H locs 0 0 Q (F0 m 312 ls [])) → W p l e rmX3_findBase s m args below meth c H locs 0 0 Q (F0 m 279 ls []) := by
          intro n
          induction n with
          | zero => intro j H locs ls hn hf; exact absurd hf (by intro z; cases z)
          | succ n ih9 =>
            intro j H locs ls hn hf hP hD hS hl kx9
            refine lv_aload_n hx hb dX3_findBase_279 rfl (lv_at hl 1 rfl) ?_
            refine b_get (own := RX3) (C := RX3) (T := TX3) (N := 23) (ci := 3) (v := .ref (ad 9)) hx hb hts usX3 hown hK hP 0 (by decide) rfl rfl 16 (by decide) (hts _ gw_520) rfl dX3_findBase_280 ?_
            refine lv_iconst (v := nI 3) hx hb dX3_findBase_283 (by decide) ?_
            refine lv_iload_n hx hb dX3_findBase_284 rfl (lv_at hl 0 rfl) ?_
            refine b_muln hx hb dX3_findBase_285 ?_
            refine lv_aload_n hx hb dX3_findBase_286 rfl (lv_at hl 1 rfl) ?_
            refine b_get (own := RX3) (C := RX3) (T := TX3) (N := 23) (ci := 3) (v := .ref (ad 10)) hx hb hts usX3 hown hK hP 0 (by decide) rfl rfl 17 (by decide) (hts _ gw_521) rfl dX3_findBase_287 ?_
            refine lv_iload_n hx hb dX3_findBase_290 rfl (lv_at hl 0 rfl) ?_
            refine b_iald hx hb hK hP 10 0 (by decide) rfl rfl (by omega) (by decide) dX3_findBase_291 ?_
            have ej : up2 Y 10 k9 j 10 k9 = j := up2_s
            rw [ej]
            refine b_addn hx hb dX3_findBase_292 ?_
            refine b_lald hx hb hK hP 9 1 (by decide) rfl rfl (by omega) (by decide) dX3_findBase_293 ?_
            refine lv_lconst (v := 0) hx hb dX3_findBase_294 (by decide) ?_
            refine b_lcne (tgt := 312) hx hb dX3_findBase_295 dX3_findBase_296 (by decide) (fun h => ?_) (fun h => ?_)
            · rw [fnd_t (f := fun j => ¬ X 9 (3 * k9 + j) = 0) h] at hf
              cases hf
              exact kx9 H locs ls hP hD hS hl
            · rw [fnd_f (f := fun j => ¬ X 9 (3 * k9 + j) = 0) (fun q => q h)] at hf
              refine lv_aload_n hx hb dX3_findBase_299 rfl (lv_at hl 1 rfl) ?_
              refine b_get (own := RX3) (C := RX3) (T := TX3) (N := 23) (ci := 3) (v := .ref (ad 10)) hx hb hts usX3 hown hK hP 0 (by decide) rfl rfl 17 (by decide) (hts _ gw_521) rfl dX3_findBase_300 ?_
              refine lv_iload_n hx hb dX3_findBase_303 rfl (lv_at hl 0 rfl) ?_
              refine lv_dup2_11 hx hb dX3_findBase_304 rfl rfl ?_
              refine b_iald hx hb hK hP 10 0 (by decide) rfl rfl (by omega) (by decide) dX3_findBase_305 ?_
              rw [ej]
              refine lv_iconst (v := nI 1) hx hb dX3_findBase_306 (by decide) ?_
              refine b_addn hx hb dX3_findBase_307 ?_
              refine b_iast hx hb hK hP hD hS 10 0 (by decide) rfl rfl (by omega) (by decide) dX3_findBase_308 sM_N10 (fun H locs hP hD hS => ?_)
              rw [up2_2] at hP hD
              refine lv_goto (tgt := 279) hx hb dX3_findBase_309 (by decide) ?_
              exact ih9 (j + 1) H locs ls (by omega) hf hP hD hS hl kx9
        refine lp279 3 0 _ _ ls (by omega) hb9 hP hD hS hl (fun H locs ls hP hD hS hl => ?_)
        have eb : bgF X k9 = b9 := by unfold bgF; rw [hb9]; rfl
        rw [← eb] at hP hD
        refine b_iinc (lv' := [(1, .int (nI (k9 + 1))), (0, .ref (ad 0))]) hx hb dX3_findBase_312 hl (k := 0) rfl (by decide) rfl (fun ls hl => ?_)
        refine lv_goto (tgt := 264) hx hb dX3_findBase_315 (by decide) ?_
        exact ih (k9 + 1) _ H locs ls (by omega) hP hD hS (lv_sub hl [0, 1] rfl) kx
    refine lp264 _ (sz) 0 AN1 _ _ ls (by omega) hP hD hS (lv_sub hl [0, 1] rfl) (fun H locs ls hP hD hS hl => ?_)
    exact g_vret hx hb hr hlocks (up1 (up1 I 3 rk) 4 sz, G, fo (fun k Y => up2 Y 10 k (bgF X k)) (sz) 0 AN1, AI, X) (rfl) hK hP hD hS dX3_findBase_318
  refine lv_aload_n hx hb dX3_findBase_4 rfl (lv_at hl 0 rfl) ?_
  refine lv_iconst (v := nI 0) hx hb dX3_findBase_5 (by decide) ?_
  refine b_put (own := RX3) (C := RX3) (T := TX3) (N := 23) (ci := 3) (v := .int (nI 0)) hx hb hts usX3 tyX3 tyX3_ok nmX3 hown hK hP hD hS 0 (by decide) rfl rfl 15 (by decide) (hts _ gw_519) rfl rfl rfl (Nat.le_of_ble_eq_true rfl) dX3_findBase_6 sM_I4 (fun H locs hP hD hS => ?_)
  refine lv_aload_n hx hb dX3_findBase_9 rfl (lv_at hl 0 rfl) ?_
  refine b_get (own := RX3) (C := RX3) (T := TX3) (N := 23) (ci := 3) (v := .int (nI rk)) hx hb hts usX3 hown hK hP 0 (by decide) rfl rfl 4 (by decide) (hts _ gw_508) rfl dX3_findBase_10 ?_
  by_cases hr0 : rk = 0
  · refine lv_if_ne (tgt := 68) hx hb dX3_findBase_13 (by decide) (fun q => absurd (by rw [hr0]; rfl) q) (fun _ => ?_)
    refine lv_iconst (v := nI 0) hx hb dX3_findBase_16 (by decide) ?_
    refine lv_istore_n (lv' := [(1, .int (nI 0)), (0, .ref (ad 0))]) hx hb dX3_findBase_17 rfl hl (by decide) rfl (fun ls hl => ?_)
    have lp18 : ∀ (Q : State → Prop) (n k9 : Nat) (X : Nat → Nat → Int64) (H : Heap) (locs : List Loc) (ls : Array Slot), k9 + n = I 1 → va_P D vc (wM cs ad (up1 (up1 I 3 rk) 4 k9) G AN1 AI X) H → va_D A (wM cs ad (up1 (up1 I 3 rk) 4 k9) G AN1 AI X) → va_S A s.heap H locs → lv_has ls 3 [(1, .int (nI k9)), (0, .ref (ad 0))] → (∀ (H : Heap) (locs : List Loc) (ls : Array Slot), va_P D vc (wM cs ad (up1 (up1 I 3 rk) 4 (I 1)) G AN1 AI (fo (fun k X => memb k (if k = 0 then 1 else 0) (if k = 1 then 1 else 0) (if k = 2 then 1 else 0) X) n k9 X)) H → va_D A (wM cs ad (up1 (up1 I 3 rk) 4 (I 1)) G AN1 AI (fo (fun k X => memb k (if k = 0 then 1 else 0) (if k = 1 then 1 else 0) (if k = 2 then 1 else 0) X) n k9 X)) → va_S A s.heap H locs → lv_has ls 3 [(0, .ref (ad 0))] → W p l e rmX3_findBase s m args below meth c H locs 0 0 Q (F0 m 65 ls [])) → W p l e rmX3_findBase s m args below meth c H locs 0 0 Q (F0 m 18 ls []) := by
      intro Q n
      induction n with
      | zero =>
        intro k9 X H locs ls hn hP hD hS hl kx
        have hk : k9 = I 1 := by omega
        refine lv_iload_n hx hb dX3_findBase_18 rfl (lv_at hl 0 rfl) ?_
        refine lv_aload_n hx hb dX3_findBase_19 rfl (lv_at hl 1 rfl) ?_
        refine b_get (own := RX3) (C := RX3) (T := TX3) (N := 23) (ci := 3) (v := .int (nI (I 1))) hx hb hts usX3 hown hK hP 0 (by decide) rfl rfl 1 (by decide) (hts _ gw_505) rfl dX3_findBase_20 ?_
        refine b_ge_t (tgt := 65) hx hb dX3_findBase_23 (by decide) (by omega) (by omega) ?_
        rw [hk] at hP hD
        rw [hk] at kx
        exact kx H locs ls hP hD hS (lv_sub hl [1] rfl)
      | succ n ih =>
        intro k9 X H locs ls hn hP hD hS hl kx
        have hk3 : k9 = 0 ∨ k9 = 1 ∨ k9 = 2 := by omega
        refine lv_iload_n hx hb dX3_findBase_18 rfl (lv_at hl 0 rfl) ?_
        refine lv_aload_n hx hb dX3_findBase_19 rfl (lv_at hl 1 rfl) ?_
        refine b_get (own := RX3) (C := RX3) (T := TX3) (N := 23) (ci := 3) (v := .int (nI (I 1))) hx hb hts usX3 hown hK hP 0 (by decide) rfl rfl 1 (by decide) (hts _ gw_505) rfl dX3_findBase_20 ?_
        refine b_ge_f (tgt := 65) hx hb dX3_findBase_23 (by decide) (by omega) (by omega) ?_
        refine lv_aload_n hx hb dX3_findBase_26 rfl (lv_at hl 1 rfl) ?_
        refine lv_iload_n hx hb dX3_findBase_27 rfl (lv_at hl 0 rfl) ?_
        rcases hk3 with rfl | rfl | rfl
        · refine lv_if_ne (tgt := 35) hx hb dX3_findBase_28 (by decide) (fun q => absurd rfl q) (fun _ => ?_)
          refine lv_lconst (v := 1) hx hb dX3_findBase_31 (by decide) ?_
          refine lv_goto (tgt := 36) hx hb dX3_findBase_32 (by decide) ?_
          refine lv_iload_n hx hb dX3_findBase_36 rfl (lv_at hl 0 rfl) ?_
          refine lv_iconst (v := nI 1) hx hb dX3_findBase_37 (by decide) ?_
          refine b_ne_t (tgt := 45) hx hb dX3_findBase_38 (by decide) (by decide) (by omega) (by omega) ?_
          refine lv_lconst (v := 0) hx hb dX3_findBase_45 (by decide) ?_
          refine lv_iload_n hx hb dX3_findBase_46 rfl (lv_at hl 0 rfl) ?_
          refine lv_iconst (v := nI 2) hx hb dX3_findBase_47 (by decide) ?_
          refine b_ne_t (tgt := 55) hx hb dX3_findBase_48 (by decide) (by decide) (by omega) (by omega) ?_
          refine lv_lconst (v := 0) hx hb dX3_findBase_55 (by decide) ?_
          refine g_callv (va_runV (As := [.long 1, .long 0, .long 0]) (rest := []) ⟨hx, hb, hml, hown, hts⟩ (ctX3_member l D cs ad (up1 (up1 I 3 rk) 4 0) G AN1 AI X _ 1 0 0 (show 0 < 3 by decide)) (cwV 3 hts (gi_V gw_691 gw_693 gw_43 gw_57 gw_694) rfl rfl rfl (by decide +kernel) ⟨Nat.le_of_ble_eq_true rfl, Nat.le_of_ble_eq_true rfl⟩) ⟨g_blind, va_recv hK hP (ci := 3) (q0 := 0) rfl (wm_at (by decide) rfl), g_pre hP hK hD hN⟩ rfl rfl hl.1 rfl (lv_room (Nat.le_of_ble_eq_true rfl)) dX3_findBase_56 ⟨Nat.zero_le _, Nat.zero_le _⟩) hD hS hA (fun u H locs hw hP hD hS => ?_)
          obtain rfl := hw
          have hP : va_P D vc (wM cs ad (up1 (up1 (up1 I 3 rk) 4 0) 4 (0 + 1)) G AN1 AI (memb 0 1 0 0 X)) H := hP
          have hD : va_D A (wM cs ad (up1 (up1 (up1 I 3 rk) 4 0) 4 (0 + 1)) G AN1 AI (memb 0 1 0 0 X)) := hD
          rw [up1_1] at hP hD
          refine b_iinc (lv' := [(1, .int (nI (0 + 1))), (0, .ref (ad 0))]) hx hb dX3_findBase_59 hl (k := 0) rfl (by decide) rfl (fun ls hl => ?_)
          refine lv_goto (tgt := 18) hx hb dX3_findBase_62 (by decide) ?_
          exact ih (0 + 1) _ H locs ls (by omega) hP hD hS (lv_sub hl [0, 1] rfl) kx
        · refine lv_if_ne (tgt := 35) hx hb dX3_findBase_28 (by decide) (fun _ => ?_) (fun q => absurd q (by decide))
          refine lv_lconst (v := 0) hx hb dX3_findBase_35 (by decide) ?_
          refine lv_iload_n hx hb dX3_findBase_36 rfl (lv_at hl 0 rfl) ?_
          refine lv_iconst (v := nI 1) hx hb dX3_findBase_37 (by decide) ?_
          refine b_ne_f (tgt := 45) hx hb dX3_findBase_38 (by decide) (rfl)  ?_
          refine lv_lconst (v := 1) hx hb dX3_findBase_41 (by decide) ?_
          refine lv_goto (tgt := 46) hx hb dX3_findBase_42 (by decide) ?_
          refine lv_iload_n hx hb dX3_findBase_46 rfl (lv_at hl 0 rfl) ?_
          refine lv_iconst (v := nI 2) hx hb dX3_findBase_47 (by decide) ?_
          refine b_ne_t (tgt := 55) hx hb dX3_findBase_48 (by decide) (by decide) (by omega) (by omega) ?_
          refine lv_lconst (v := 0) hx hb dX3_findBase_55 (by decide) ?_
          refine g_callv (va_runV (As := [.long 0, .long 1, .long 0]) (rest := []) ⟨hx, hb, hml, hown, hts⟩ (ctX3_member l D cs ad (up1 (up1 I 3 rk) 4 1) G AN1 AI X _ 0 1 0 (show 1 < 3 by decide)) (cwV 3 hts (gi_V gw_691 gw_693 gw_43 gw_57 gw_694) rfl rfl rfl (by decide +kernel) ⟨Nat.le_of_ble_eq_true rfl, Nat.le_of_ble_eq_true rfl⟩) ⟨g_blind, va_recv hK hP (ci := 3) (q0 := 0) rfl (wm_at (by decide) rfl), g_pre hP hK hD hN⟩ rfl rfl hl.1 rfl (lv_room (Nat.le_of_ble_eq_true rfl)) dX3_findBase_56 ⟨Nat.zero_le _, Nat.zero_le _⟩) hD hS hA (fun u H locs hw hP hD hS => ?_)
          obtain rfl := hw
          have hP : va_P D vc (wM cs ad (up1 (up1 (up1 I 3 rk) 4 1) 4 (1 + 1)) G AN1 AI (memb 1 0 1 0 X)) H := hP
          have hD : va_D A (wM cs ad (up1 (up1 (up1 I 3 rk) 4 1) 4 (1 + 1)) G AN1 AI (memb 1 0 1 0 X)) := hD
          rw [up1_1] at hP hD
          refine b_iinc (lv' := [(1, .int (nI (1 + 1))), (0, .ref (ad 0))]) hx hb dX3_findBase_59 hl (k := 0) rfl (by decide) rfl (fun ls hl => ?_)
          refine lv_goto (tgt := 18) hx hb dX3_findBase_62 (by decide) ?_
          exact ih (1 + 1) _ H locs ls (by omega) hP hD hS (lv_sub hl [0, 1] rfl) kx
        · refine lv_if_ne (tgt := 35) hx hb dX3_findBase_28 (by decide) (fun _ => ?_) (fun q => absurd q (by decide))
          refine lv_lconst (v := 0) hx hb dX3_findBase_35 (by decide) ?_
          refine lv_iload_n hx hb dX3_findBase_36 rfl (lv_at hl 0 rfl) ?_
          refine lv_iconst (v := nI 1) hx hb dX3_findBase_37 (by decide) ?_
          refine b_ne_t (tgt := 45) hx hb dX3_findBase_38 (by decide) (by decide) (by omega) (by omega) ?_
          refine lv_lconst (v := 0) hx hb dX3_findBase_45 (by decide) ?_
          refine lv_iload_n hx hb dX3_findBase_46 rfl (lv_at hl 0 rfl) ?_
          refine lv_iconst (v := nI 2) hx hb dX3_findBase_47 (by decide) ?_
          refine b_ne_f (tgt := 55) hx hb dX3_findBase_48 (by decide) (rfl)  ?_
          refine lv_lconst (v := 1) hx hb dX3_findBase_51 (by decide) ?_
          refine lv_goto (tgt := 56) hx hb dX3_findBase_52 (by decide) ?_
          refine g_callv (va_runV (As := [.long 0, .long 0, .long 1]) (rest := []) ⟨hx, hb, hml, hown, hts⟩ (ctX3_member l D cs ad (up1 (up1 I 3 rk) 4 2) G AN1 AI X _ 0 0 1 (show 2 < 3 by decide)) (cwV 3 hts (gi_V gw_691 gw_693 gw_43 gw_57 gw_694) rfl rfl rfl (by decide +kernel) ⟨Nat.le_of_ble_eq_true rfl, Nat.le_of_ble_eq_true rfl⟩) ⟨g_blind, va_recv hK hP (ci := 3) (q0 := 0) rfl (wm_at (by decide) rfl), g_pre hP hK hD hN⟩ rfl rfl hl.1 rfl (lv_room (Nat.le_of_ble_eq_true rfl)) dX3_findBase_56 ⟨Nat.zero_le _, Nat.zero_le _⟩) hD hS hA (fun u H locs hw hP hD hS => ?_)
          obtain rfl := hw
          have hP : va_P D vc (wM cs ad (up1 (up1 (up1 I 3 rk) 4 2) 4 (2 + 1)) G AN1 AI (memb 2 0 0 1 X)) H := hP
          have hD : va_D A (wM cs ad (up1 (up1 (up1 I 3 rk) 4 2) 4 (2 + 1)) G AN1 AI (memb 2 0 0 1 X)) := hD
          rw [up1_1] at hP hD
          refine b_iinc (lv' := [(1, .int (nI (2 + 1))), (0, .ref (ad 0))]) hx hb dX3_findBase_59 hl (k := 0) rfl (by decide) rfl (fun ls hl => ?_)
          refine lv_goto (tgt := 18) hx hb dX3_findBase_62 (by decide) ?_
          exact ih (2 + 1) _ H locs ls (by omega) hP hD hS (lv_sub hl [0, 1] rfl) kx
    refine lp18 _ (I 1) 0 AL1 _ _ ls (by omega) hP hD hS (lv_sub hl [0, 1] rfl) (fun H locs ls hP hD hS hl => ?_)
    refine lv_goto (tgt := 262) hx hb dX3_findBase_65 (by decide) ?_
    exact l262 H locs ls _ _ (if_pos hr0).symm hP hD hS hl
  · refine lv_if_ne (tgt := 68) hx hb dX3_findBase_13 (by decide) (fun _ => ?_) (fun q => absurd q (nI_ne0 (by omega) (by omega)))
    refine lv_aload_n hx hb dX3_findBase_68 rfl (lv_at hl 0 rfl) ?_
    refine b_get (own := RX3) (C := RX3) (T := TX3) (N := 23) (ci := 3) (v := .int (nI rk)) hx hb hts usX3 hown hK hP 0 (by decide) rfl rfl 4 (by decide) (hts _ gw_508) rfl dX3_findBase_69 ?_
    refine lv_iconst (v := nI 1) hx hb dX3_findBase_72 (by decide) ?_
    refine b_addn hx hb dX3_findBase_73 ?_
    refine lv_aload_n hx hb dX3_findBase_74 rfl (lv_at hl 0 rfl) ?_
    refine b_get (own := RX3) (C := RX3) (T := TX3) (N := 23) (ci := 3) (v := .int (nI (I 1))) hx hb hts usX3 hown hK hP 0 (by decide) rfl rfl 1 (by decide) (hts _ gw_505) rfl dX3_findBase_75 ?_
    by_cases hrn : rk + 1 = I 1
    · have ho := hfb.1 hrn hr0
      refine b_ne_f (tgt := 198) hx hb dX3_findBase_78 (by decide) (hrn)  ?_
      refine lv_aload_n hx hb dX3_findBase_81 rfl (lv_at hl 0 rfl) ?_
      refine b_get (own := RX3) (C := RX3) (T := TX3) (N := 23) (ci := 3) (v := .int (nI (I 1))) hx hb hts usX3 hown hK hP 0 (by decide) rfl rfl 1 (by decide) (hts _ gw_505) rfl dX3_findBase_82 ?_
      refine lv_iconst (v := nI 2) hx hb dX3_findBase_85 (by decide) ?_
      by_cases hn2 : I 1 = 2
      · rw [if_pos hn2] at ho
        refine b_ne_f (tgt := 110) hx hb dX3_findBase_86 (by decide) (hn2)  ?_
        refine lv_aload_n hx hb dX3_findBase_89 rfl (lv_at hl 0 rfl) ?_
        refine lv_aload_n hx hb dX3_findBase_90 rfl (lv_at hl 0 rfl) ?_
        refine lv_iconst (v := nI 0) hx hb dX3_findBase_91 (by decide) ?_
        refine lv_iconst (v := nI 1) hx hb dX3_findBase_92 (by decide) ?_
        refine g_calll (va_runV (As := [.int (nI 0), .int (nI 1)]) (rest := [.ref (ad 0)]) ⟨hx, hb, hml, hown, hts⟩ (ctX3_number l D cs ad (up1 (up1 I 3 rk) 4 0) G AN1 AI AL1 _ 0 1 hL3 (by decide) (by decide)) (cwV 2 hts (gi_V gw_695 gw_697 gw_44 gw_57 gw_698) rfl rfl rfl (by decide +kernel) ⟨Nat.le_of_ble_eq_true rfl, Nat.le_of_ble_eq_true rfl⟩) ⟨g_blind, va_recv hK hP (ci := 3) (q0 := 0) rfl (wm_at (by decide) rfl), g_pre hP hK hD hN⟩ rfl rfl hl.1 rfl (lv_room (Nat.le_of_ble_eq_true rfl)) dX3_findBase_93 ⟨Nat.zero_le _, Nat.zero_le _⟩) hD hS hA (fun r u H locs hw hP hD hS => ?_)
        obtain ⟨rfl, rfl⟩ := hw
        have hP : va_P D vc (wM cs ad (up1 (up1 I 3 rk) 4 0) G AN1 AI AL1) H := hP
        have hD : va_D A (wM cs ad (up1 (up1 I 3 rk) 4 0) G AN1 AI AL1) := hD
        refine lv_aload_n hx hb dX3_findBase_96 rfl (lv_at hl 0 rfl) ?_
        refine lv_iconst (v := nI 0) hx hb dX3_findBase_97 (by decide) ?_
        refine lv_iconst (v := nI 0) hx hb dX3_findBase_98 (by decide) ?_
        refine g_calll (va_runV (As := [.int (nI 0), .int (nI 0)]) (rest := [.long (nbr AN1 AI 0 1), .ref (ad 0)]) ⟨hx, hb, hml, hown, hts⟩ (ctX3_number l D cs ad (up1 (up1 I 3 rk) 4 0) G AN1 AI AL1 _ 0 0 hL3 (by decide) (by decide)) (cwV 2 hts (gi_V gw_695 gw_697 gw_44 gw_57 gw_698) rfl rfl rfl (by decide +kernel) ⟨Nat.le_of_ble_eq_true rfl, Nat.le_of_ble_eq_true rfl⟩) ⟨g_blind, va_recv hK hP (ci := 3) (q0 := 0) rfl (wm_at (by decide) rfl), g_pre hP hK hD hN⟩ rfl rfl hl.1 rfl (lv_room (Nat.le_of_ble_eq_true rfl)) dX3_findBase_99 ⟨Nat.zero_le _, Nat.zero_le _⟩) hD hS hA (fun r u H locs hw hP hD hS => ?_)
        obtain ⟨rfl, rfl⟩ := hw
        have hP : va_P D vc (wM cs ad (up1 (up1 I 3 rk) 4 0) G AN1 AI AL1) H := hP
        have hD : va_D A (wM cs ad (up1 (up1 I 3 rk) 4 0) G AN1 AI AL1) := hD
        refine lv_lneg hx hb dX3_findBase_102 ?_
        refine lv_lconst (v := 0) hx hb dX3_findBase_103 (by decide) ?_
        refine g_callv (va_runV (As := [.long (nbr AN1 AI 0 1), .long (-(nbr AN1 AI 0 0)), .long 0]) (rest := []) ⟨hx, hb, hml, hown, hts⟩ (ctX3_lineOf l D cs ad (up1 (up1 I 3 rk) 4 0) G AN1 AI AL1 _ (nbr AN1 AI 0 1) (-(nbr AN1 AI 0 0)) 0 (show 0 < 3 by decide) ho) (cwV 3 hts (gi_V gw_699 gw_701 gw_45 gw_57 gw_702) rfl rfl rfl (by decide +kernel) ⟨Nat.le_of_ble_eq_true rfl, Nat.le_of_ble_eq_true rfl⟩) ⟨g_blind, va_recv hK hP (ci := 3) (q0 := 0) rfl (wm_at (by decide) rfl), g_pre hP hK hD hN⟩ rfl rfl hl.1 rfl (lv_room (Nat.le_of_ble_eq_true rfl)) dX3_findBase_104 ⟨Nat.zero_le _, Nat.zero_le _⟩) hD hS hA (fun u H locs hw hP hD hS => ?_)
        obtain rfl := hw
        have hP : va_P D vc (wM cs ad (up1 (up1 (up1 I 3 rk) 4 0) 4 (0 + 1)) G AN1 AI (memb 0 ((nbr AN1 AI 0 1) / lnH (nbr AN1 AI 0 1) (-(nbr AN1 AI 0 0)) 0) ((-(nbr AN1 AI 0 0)) / lnH (nbr AN1 AI 0 1) (-(nbr AN1 AI 0 0)) 0) (0 / lnH (nbr AN1 AI 0 1) (-(nbr AN1 AI 0 0)) 0) AL1)) H := hP
        have hD : va_D A (wM cs ad (up1 (up1 (up1 I 3 rk) 4 0) 4 (0 + 1)) G AN1 AI (memb 0 ((nbr AN1 AI 0 1) / lnH (nbr AN1 AI 0 1) (-(nbr AN1 AI 0 0)) 0) ((-(nbr AN1 AI 0 0)) / lnH (nbr AN1 AI 0 1) (-(nbr AN1 AI 0 0)) 0) (0 / lnH (nbr AN1 AI 0 1) (-(nbr AN1 AI 0 0)) 0) AL1)) := hD
        rw [up1_1] at hP hD
        refine lv_goto (tgt := 262) hx hb dX3_findBase_107 (by decide) ?_
        exact l262 H locs ls _ _ ((if_neg hr0).trans ((if_pos hrn).trans (if_pos hn2))).symm hP hD hS (lv_sub hl [0] rfl)
      · rw [if_neg hn2] at ho
        refine b_ne_t (tgt := 110) hx hb dX3_findBase_86 (by decide) (hn2) (by omega) (by omega) ?_
        refine lv_aload_n hx hb dX3_findBase_110 rfl (lv_at hl 0 rfl) ?_
        refine lv_aload_n hx hb dX3_findBase_111 rfl (lv_at hl 0 rfl) ?_
        refine lv_iconst (v := nI 0) hx hb dX3_findBase_112 (by decide) ?_
        refine lv_iconst (v := nI 1) hx hb dX3_findBase_113 (by decide) ?_
        refine g_calll (va_runV (As := [.int (nI 0), .int (nI 1)]) (rest := [.ref (ad 0)]) ⟨hx, hb, hml, hown, hts⟩ (ctX3_number l D cs ad (up1 (up1 I 3 rk) 4 0) G AN1 AI AL1 _ 0 1 hL3 (by decide) (by decide)) (cwV 2 hts (gi_V gw_695 gw_697 gw_44 gw_57 gw_698) rfl rfl rfl (by decide +kernel) ⟨Nat.le_of_ble_eq_true rfl, Nat.le_of_ble_eq_true rfl⟩) ⟨g_blind, va_recv hK hP (ci := 3) (q0 := 0) rfl (wm_at (by decide) rfl), g_pre hP hK hD hN⟩ rfl rfl hl.1 rfl (lv_room (Nat.le_of_ble_eq_true rfl)) dX3_findBase_114 ⟨Nat.zero_le _, Nat.zero_le _⟩) hD hS hA (fun r u H locs hw hP hD hS => ?_)
        obtain ⟨rfl, rfl⟩ := hw
        have hP : va_P D vc (wM cs ad (up1 (up1 I 3 rk) 4 0) G AN1 AI AL1) H := hP
        have hD : va_D A (wM cs ad (up1 (up1 I 3 rk) 4 0) G AN1 AI AL1) := hD
        refine lv_aload_n hx hb dX3_findBase_117 rfl (lv_at hl 0 rfl) ?_
        refine lv_iconst (v := nI 1) hx hb dX3_findBase_118 (by decide) ?_
        refine lv_iconst (v := nI 2) hx hb dX3_findBase_119 (by decide) ?_
        refine g_calll (va_runV (As := [.int (nI 1), .int (nI 2)]) (rest := [.long (nbr AN1 AI 0 1), .ref (ad 0)]) ⟨hx, hb, hml, hown, hts⟩ (ctX3_number l D cs ad (up1 (up1 I 3 rk) 4 0) G AN1 AI AL1 _ 1 2 hL3 (by decide) (by decide)) (cwV 2 hts (gi_V gw_695 gw_697 gw_44 gw_57 gw_698) rfl rfl rfl (by decide +kernel) ⟨Nat.le_of_ble_eq_true rfl, Nat.le_of_ble_eq_true rfl⟩) ⟨g_blind, va_recv hK hP (ci := 3) (q0 := 0) rfl (wm_at (by decide) rfl), g_pre hP hK hD hN⟩ rfl rfl hl.1 rfl (lv_room (Nat.le_of_ble_eq_true rfl)) dX3_findBase_120 ⟨Nat.zero_le _, Nat.zero_le _⟩) hD hS hA (fun r u H locs hw hP hD hS => ?_)
        obtain ⟨rfl, rfl⟩ := hw
        have hP : va_P D vc (wM cs ad (up1 (up1 I 3 rk) 4 0) G AN1 AI AL1) H := hP
        have hD : va_D A (wM cs ad (up1 (up1 I 3 rk) 4 0) G AN1 AI AL1) := hD
        refine lv_lmul hx hb dX3_findBase_123 ?_
        refine lv_aload_n hx hb dX3_findBase_124 rfl (lv_at hl 0 rfl) ?_
        refine lv_iconst (v := nI 0) hx hb dX3_findBase_125 (by decide) ?_
        refine lv_iconst (v := nI 2) hx hb dX3_findBase_126 (by decide) ?_
        refine g_calll (va_runV (As := [.int (nI 0), .int (nI 2)]) (rest := [.long ((nbr AN1 AI 0 1) * (nbr AN1 AI 1 2)), .ref (ad 0)]) ⟨hx, hb, hml, hown, hts⟩ (ctX3_number l D cs ad (up1 (up1 I 3 rk) 4 0) G AN1 AI AL1 _ 0 2 hL3 (by decide) (by decide)) (cwV 2 hts (gi_V gw_695 gw_697 gw_44 gw_57 gw_698) rfl rfl rfl (by decide +kernel) ⟨Nat.le_of_ble_eq_true rfl, Nat.le_of_ble_eq_true rfl⟩) ⟨g_blind, va_recv hK hP (ci := 3) (q0 := 0) rfl (wm_at (by decide) rfl), g_pre hP hK hD hN⟩ rfl rfl hl.1 rfl (lv_room (Nat.le_of_ble_eq_true rfl)) dX3_findBase_127 ⟨Nat.zero_le _, Nat.zero_le _⟩) hD hS hA (fun r u H locs hw hP hD hS => ?_)
        obtain ⟨rfl, rfl⟩ := hw
        have hP : va_P D vc (wM cs ad (up1 (up1 I 3 rk) 4 0) G AN1 AI AL1) H := hP
        have hD : va_D A (wM cs ad (up1 (up1 I 3 rk) 4 0) G AN1 AI AL1) := hD
        refine lv_aload_n hx hb dX3_findBase_130 rfl (lv_at hl 0 rfl) ?_
        refine lv_iconst (v := nI 1) hx hb dX3_findBase_131 (by decide) ?_
        refine lv_iconst (v := nI 1) hx hb dX3_findBase_132 (by decide) ?_
        refine g_calll (va_runV (As := [.int (nI 1), .int (nI 1)]) (rest := [.long (nbr AN1 AI 0 2), .long ((nbr AN1 AI 0 1) * (nbr AN1 AI 1 2)), .ref (ad 0)]) ⟨hx, hb, hml, hown, hts⟩ (ctX3_number l D cs ad (up1 (up1 I 3 rk) 4 0) G AN1 AI AL1 _ 1 1 hL3 (by decide) (by decide)) (cwV 2 hts (gi_V gw_695 gw_697 gw_44 gw_57 gw_698) rfl rfl rfl (by decide +kernel) ⟨Nat.le_of_ble_eq_true rfl, Nat.le_of_ble_eq_true rfl⟩) ⟨g_blind, va_recv hK hP (ci := 3) (q0 := 0) rfl (wm_at (by decide) rfl), g_pre hP hK hD hN⟩ rfl rfl hl.1 rfl (lv_room (Nat.le_of_ble_eq_true rfl)) dX3_findBase_133 ⟨Nat.zero_le _, Nat.zero_le _⟩) hD hS hA (fun r u H locs hw hP hD hS => ?_)
        obtain ⟨rfl, rfl⟩ := hw
        have hP : va_P D vc (wM cs ad (up1 (up1 I 3 rk) 4 0) G AN1 AI AL1) H := hP
        have hD : va_D A (wM cs ad (up1 (up1 I 3 rk) 4 0) G AN1 AI AL1) := hD
        refine lv_lmul hx hb dX3_findBase_136 ?_
        refine lv_lsub hx hb dX3_findBase_137 ?_
        refine lv_aload_n hx hb dX3_findBase_138 rfl (lv_at hl 0 rfl) ?_
        refine lv_iconst (v := nI 0) hx hb dX3_findBase_139 (by decide) ?_
        refine lv_iconst (v := nI 2) hx hb dX3_findBase_140 (by decide) ?_
        refine g_calll (va_runV (As := [.int (nI 0), .int (nI 2)]) (rest := [.long (((nbr AN1 AI 0 1) * (nbr AN1 AI 1 2)) - ((nbr AN1 AI 0 2) * (nbr AN1 AI 1 1))), .ref (ad 0)]) ⟨hx, hb, hml, hown, hts⟩ (ctX3_number l D cs ad (up1 (up1 I 3 rk) 4 0) G AN1 AI AL1 _ 0 2 hL3 (by decide) (by decide)) (cwV 2 hts (gi_V gw_695 gw_697 gw_44 gw_57 gw_698) rfl rfl rfl (by decide +kernel) ⟨Nat.le_of_ble_eq_true rfl, Nat.le_of_ble_eq_true rfl⟩) ⟨g_blind, va_recv hK hP (ci := 3) (q0 := 0) rfl (wm_at (by decide) rfl), g_pre hP hK hD hN⟩ rfl rfl hl.1 rfl (lv_room (Nat.le_of_ble_eq_true rfl)) dX3_findBase_141 ⟨Nat.zero_le _, Nat.zero_le _⟩) hD hS hA (fun r u H locs hw hP hD hS => ?_)
        obtain ⟨rfl, rfl⟩ := hw
        have hP : va_P D vc (wM cs ad (up1 (up1 I 3 rk) 4 0) G AN1 AI AL1) H := hP
        have hD : va_D A (wM cs ad (up1 (up1 I 3 rk) 4 0) G AN1 AI AL1) := hD
        refine lv_aload_n hx hb dX3_findBase_144 rfl (lv_at hl 0 rfl) ?_
        refine lv_iconst (v := nI 1) hx hb dX3_findBase_145 (by decide) ?_
        refine lv_iconst (v := nI 0) hx hb dX3_findBase_146 (by decide) ?_
        refine g_calll (va_runV (As := [.int (nI 1), .int (nI 0)]) (rest := [.long (nbr AN1 AI 0 2), .long (((nbr AN1 AI 0 1) * (nbr AN1 AI 1 2)) - ((nbr AN1 AI 0 2) * (nbr AN1 AI 1 1))), .ref (ad 0)]) ⟨hx, hb, hml, hown, hts⟩ (ctX3_number l D cs ad (up1 (up1 I 3 rk) 4 0) G AN1 AI AL1 _ 1 0 hL3 (by decide) (by decide)) (cwV 2 hts (gi_V gw_695 gw_697 gw_44 gw_57 gw_698) rfl rfl rfl (by decide +kernel) ⟨Nat.le_of_ble_eq_true rfl, Nat.le_of_ble_eq_true rfl⟩) ⟨g_blind, va_recv hK hP (ci := 3) (q0 := 0) rfl (wm_at (by decide) rfl), g_pre hP hK hD hN⟩ rfl rfl hl.1 rfl (lv_room (Nat.le_of_ble_eq_true rfl)) dX3_findBase_147 ⟨Nat.zero_le _, Nat.zero_le _⟩) hD hS hA (fun r u H locs hw hP hD hS => ?_)
        obtain ⟨rfl, rfl⟩ := hw
        have hP : va_P D vc (wM cs ad (up1 (up1 I 3 rk) 4 0) G AN1 AI AL1) H := hP
        have hD : va_D A (wM cs ad (up1 (up1 I 3 rk) 4 0) G AN1 AI AL1) := hD
        refine lv_lmul hx hb dX3_findBase_150 ?_
        refine lv_aload_n hx hb dX3_findBase_151 rfl (lv_at hl 0 rfl) ?_
        refine lv_iconst (v := nI 0) hx hb dX3_findBase_152 (by decide) ?_
        refine lv_iconst (v := nI 0) hx hb dX3_findBase_153 (by decide) ?_
        refine g_calll (va_runV (As := [.int (nI 0), .int (nI 0)]) (rest := [.long ((nbr AN1 AI 0 2) * (nbr AN1 AI 1 0)), .long (((nbr AN1 AI 0 1) * (nbr AN1 AI 1 2)) - ((nbr AN1 AI 0 2) * (nbr AN1 AI 1 1))), .ref (ad 0)]) ⟨hx, hb, hml, hown, hts⟩ (ctX3_number l D cs ad (up1 (up1 I 3 rk) 4 0) G AN1 AI AL1 _ 0 0 hL3 (by decide) (by decide)) (cwV 2 hts (gi_V gw_695 gw_697 gw_44 gw_57 gw_698) rfl rfl rfl (by decide +kernel) ⟨Nat.le_of_ble_eq_true rfl, Nat.le_of_ble_eq_true rfl⟩) ⟨g_blind, va_recv hK hP (ci := 3) (q0 := 0) rfl (wm_at (by decide) rfl), g_pre hP hK hD hN⟩ rfl rfl hl.1 rfl (lv_room (Nat.le_of_ble_eq_true rfl)) dX3_findBase_154 ⟨Nat.zero_le _, Nat.zero_le _⟩) hD hS hA (fun r u H locs hw hP hD hS => ?_)
        obtain ⟨rfl, rfl⟩ := hw
        have hP : va_P D vc (wM cs ad (up1 (up1 I 3 rk) 4 0) G AN1 AI AL1) H := hP
        have hD : va_D A (wM cs ad (up1 (up1 I 3 rk) 4 0) G AN1 AI AL1) := hD
        refine lv_aload_n hx hb dX3_findBase_157 rfl (lv_at hl 0 rfl) ?_
        refine lv_iconst (v := nI 1) hx hb dX3_findBase_158 (by decide) ?_
        refine lv_iconst (v := nI 2) hx hb dX3_findBase_159 (by decide) ?_
        refine g_calll (va_runV (As := [.int (nI 1), .int (nI 2)]) (rest := [.long (nbr AN1 AI 0 0), .long ((nbr AN1 AI 0 2) * (nbr AN1 AI 1 0)), .long (((nbr AN1 AI 0 1) * (nbr AN1 AI 1 2)) - ((nbr AN1 AI 0 2) * (nbr AN1 AI 1 1))), .ref (ad 0)]) ⟨hx, hb, hml, hown, hts⟩ (ctX3_number l D cs ad (up1 (up1 I 3 rk) 4 0) G AN1 AI AL1 _ 1 2 hL3 (by decide) (by decide)) (cwV 2 hts (gi_V gw_695 gw_697 gw_44 gw_57 gw_698) rfl rfl rfl (by decide +kernel) ⟨Nat.le_of_ble_eq_true rfl, Nat.le_of_ble_eq_true rfl⟩) ⟨g_blind, va_recv hK hP (ci := 3) (q0 := 0) rfl (wm_at (by decide) rfl), g_pre hP hK hD hN⟩ rfl rfl hl.1 rfl (lv_room (Nat.le_of_ble_eq_true rfl)) dX3_findBase_160 ⟨Nat.zero_le _, Nat.zero_le _⟩) hD hS hA (fun r u H locs hw hP hD hS => ?_)
        obtain ⟨rfl, rfl⟩ := hw
        have hP : va_P D vc (wM cs ad (up1 (up1 I 3 rk) 4 0) G AN1 AI AL1) H := hP
        have hD : va_D A (wM cs ad (up1 (up1 I 3 rk) 4 0) G AN1 AI AL1) := hD
        refine lv_lmul hx hb dX3_findBase_163 ?_
        refine lv_lsub hx hb dX3_findBase_164 ?_
        refine lv_aload_n hx hb dX3_findBase_165 rfl (lv_at hl 0 rfl) ?_
        refine lv_iconst (v := nI 0) hx hb dX3_findBase_166 (by decide) ?_
        refine lv_iconst (v := nI 0) hx hb dX3_findBase_167 (by decide) ?_
        refine g_calll (va_runV (As := [.int (nI 0), .int (nI 0)]) (rest := [.long (((nbr AN1 AI 0 2) * (nbr AN1 AI 1 0)) - ((nbr AN1 AI 0 0) * (nbr AN1 AI 1 2))), .long (((nbr AN1 AI 0 1) * (nbr AN1 AI 1 2)) - ((nbr AN1 AI 0 2) * (nbr AN1 AI 1 1))), .ref (ad 0)]) ⟨hx, hb, hml, hown, hts⟩ (ctX3_number l D cs ad (up1 (up1 I 3 rk) 4 0) G AN1 AI AL1 _ 0 0 hL3 (by decide) (by decide)) (cwV 2 hts (gi_V gw_695 gw_697 gw_44 gw_57 gw_698) rfl rfl rfl (by decide +kernel) ⟨Nat.le_of_ble_eq_true rfl, Nat.le_of_ble_eq_true rfl⟩) ⟨g_blind, va_recv hK hP (ci := 3) (q0 := 0) rfl (wm_at (by decide) rfl), g_pre hP hK hD hN⟩ rfl rfl hl.1 rfl (lv_room (Nat.le_of_ble_eq_true rfl)) dX3_findBase_168 ⟨Nat.zero_le _, Nat.zero_le _⟩) hD hS hA (fun r u H locs hw hP hD hS => ?_)
        obtain ⟨rfl, rfl⟩ := hw
        have hP : va_P D vc (wM cs ad (up1 (up1 I 3 rk) 4 0) G AN1 AI AL1) H := hP
        have hD : va_D A (wM cs ad (up1 (up1 I 3 rk) 4 0) G AN1 AI AL1) := hD
        refine lv_aload_n hx hb dX3_findBase_171 rfl (lv_at hl 0 rfl) ?_
        refine lv_iconst (v := nI 1) hx hb dX3_findBase_172 (by decide) ?_
        refine lv_iconst (v := nI 1) hx hb dX3_findBase_173 (by decide) ?_
        refine g_calll (va_runV (As := [.int (nI 1), .int (nI 1)]) (rest := [.long (nbr AN1 AI 0 0), .long (((nbr AN1 AI 0 2) * (nbr AN1 AI 1 0)) - ((nbr AN1 AI 0 0) * (nbr AN1 AI 1 2))), .long (((nbr AN1 AI 0 1) * (nbr AN1 AI 1 2)) - ((nbr AN1 AI 0 2) * (nbr AN1 AI 1 1))), .ref (ad 0)]) ⟨hx, hb, hml, hown, hts⟩ (ctX3_number l D cs ad (up1 (up1 I 3 rk) 4 0) G AN1 AI AL1 _ 1 1 hL3 (by decide) (by decide)) (cwV 2 hts (gi_V gw_695 gw_697 gw_44 gw_57 gw_698) rfl rfl rfl (by decide +kernel) ⟨Nat.le_of_ble_eq_true rfl, Nat.le_of_ble_eq_true rfl⟩) ⟨g_blind, va_recv hK hP (ci := 3) (q0 := 0) rfl (wm_at (by decide) rfl), g_pre hP hK hD hN⟩ rfl rfl hl.1 rfl (lv_room (Nat.le_of_ble_eq_true rfl)) dX3_findBase_174 ⟨Nat.zero_le _, Nat.zero_le _⟩) hD hS hA (fun r u H locs hw hP hD hS => ?_)
        obtain ⟨rfl, rfl⟩ := hw
        have hP : va_P D vc (wM cs ad (up1 (up1 I 3 rk) 4 0) G AN1 AI AL1) H := hP
        have hD : va_D A (wM cs ad (up1 (up1 I 3 rk) 4 0) G AN1 AI AL1) := hD
        refine lv_lmul hx hb dX3_findBase_177 ?_
        refine lv_aload_n hx hb dX3_findBase_178 rfl (lv_at hl 0 rfl) ?_
        refine lv_iconst (v := nI 0) hx hb dX3_findBase_179 (by decide) ?_
        refine lv_iconst (v := nI 1) hx hb dX3_findBase_180 (by decide) ?_
        refine g_calll (va_runV (As := [.int (nI 0), .int (nI 1)]) (rest := [.long ((nbr AN1 AI 0 0) * (nbr AN1 AI 1 1)), .long (((nbr AN1 AI 0 2) * (nbr AN1 AI 1 0)) - ((nbr AN1 AI 0 0) * (nbr AN1 AI 1 2))), .long (((nbr AN1 AI 0 1) * (nbr AN1 AI 1 2)) - ((nbr AN1 AI 0 2) * (nbr AN1 AI 1 1))), .ref (ad 0)]) ⟨hx, hb, hml, hown, hts⟩ (ctX3_number l D cs ad (up1 (up1 I 3 rk) 4 0) G AN1 AI AL1 _ 0 1 hL3 (by decide) (by decide)) (cwV 2 hts (gi_V gw_695 gw_697 gw_44 gw_57 gw_698) rfl rfl rfl (by decide +kernel) ⟨Nat.le_of_ble_eq_true rfl, Nat.le_of_ble_eq_true rfl⟩) ⟨g_blind, va_recv hK hP (ci := 3) (q0 := 0) rfl (wm_at (by decide) rfl), g_pre hP hK hD hN⟩ rfl rfl hl.1 rfl (lv_room (Nat.le_of_ble_eq_true rfl)) dX3_findBase_181 ⟨Nat.zero_le _, Nat.zero_le _⟩) hD hS hA (fun r u H locs hw hP hD hS => ?_)
        obtain ⟨rfl, rfl⟩ := hw
        have hP : va_P D vc (wM cs ad (up1 (up1 I 3 rk) 4 0) G AN1 AI AL1) H := hP
        have hD : va_D A (wM cs ad (up1 (up1 I 3 rk) 4 0) G AN1 AI AL1) := hD
        refine lv_aload_n hx hb dX3_findBase_184 rfl (lv_at hl 0 rfl) ?_
        refine lv_iconst (v := nI 1) hx hb dX3_findBase_185 (by decide) ?_
        refine lv_iconst (v := nI 0) hx hb dX3_findBase_186 (by decide) ?_
        refine g_calll (g_runW (As := [.int (nI 1), .int (nI 0)]) (rest := [.long (nbr AN1 AI 0 1), .long ((nbr AN1 AI 0 0) * (nbr AN1 AI 1 1)), .long (((nbr AN1 AI 0 2) * (nbr AN1 AI 1 0)) - ((nbr AN1 AI 0 0) * (nbr AN1 AI 1 2))), .long (((nbr AN1 AI 0 1) * (nbr AN1 AI 1 2)) - ((nbr AN1 AI 0 2) * (nbr AN1 AI 1 1))), .ref (ad 0)]) 9 ⟨hx, hb, hml, hown, hts⟩ (ctX3_number l D cs ad (up1 (up1 I 3 rk) 4 0) G AN1 AI AL1 _ 1 0 hL3 (by decide) (by decide)) rfl rfl (Nat.le_of_ble_eq_true rfl) (Nat.le_of_ble_eq_true rfl) gw_695 gw_697 gw_44 gw_57 gw_698 (by decide +kernel) ⟨g_blind, va_recv hK hP (ci := 3) (q0 := 0) rfl (wm_at (by decide) rfl), g_pre hP hK hD hN⟩ rfl rfl hl.1 rfl (lv_room_w (Nat.le_of_ble_eq_true rfl)) dX3_findBase_187 ⟨Nat.zero_le _, Nat.zero_le _⟩) hD hS hA (fun r u H locs hw hP hD hS => ?_)
        obtain ⟨rfl, rfl⟩ := hw
        have hP : va_P D vc (wM cs ad (up1 (up1 I 3 rk) 4 0) G AN1 AI AL1) H := hP
        have hD : va_D A (wM cs ad (up1 (up1 I 3 rk) 4 0) G AN1 AI AL1) := hD
        refine lv_lmul hx hb dX3_findBase_190 ?_
        refine lv_lsub hx hb dX3_findBase_191 ?_
        show W p l e rmX3_findBase s m args below meth c _ _ 0 0 _ (F0 m 192 ls [.long (crs AN1 AI 0 1), .long (crs AN1 AI 2 0), .long (crs AN1 AI 1 2), .ref (ad 0)])
        refine g_callv (va_runV (As := [.long (crs AN1 AI 1 2), .long (crs AN1 AI 2 0), .long (crs AN1 AI 0 1)]) (rest := []) ⟨hx, hb, hml, hown, hts⟩ (ctX3_lineOf l D cs ad (up1 (up1 I 3 rk) 4 0) G AN1 AI AL1 _ (crs AN1 AI 1 2) (crs AN1 AI 2 0) (crs AN1 AI 0 1) (show 0 < 3 by decide) ho) (cwV 3 hts (gi_V gw_699 gw_701 gw_45 gw_57 gw_702) rfl rfl rfl (by decide +kernel) ⟨Nat.le_of_ble_eq_true rfl, Nat.le_of_ble_eq_true rfl⟩) ⟨g_blind, va_recv hK hP (ci := 3) (q0 := 0) rfl (wm_at (by decide) rfl), g_pre hP hK hD hN⟩ rfl rfl hl.1 rfl (lv_room (Nat.le_of_ble_eq_true rfl)) dX3_findBase_192 ⟨Nat.zero_le _, Nat.zero_le _⟩) hD hS hA (fun u H locs hw hP hD hS => ?_)
        obtain rfl := hw
        have hP : va_P D vc (wM cs ad (up1 (up1 (up1 I 3 rk) 4 0) 4 (0 + 1)) G AN1 AI (memb 0 ((crs AN1 AI 1 2) / lnH (crs AN1 AI 1 2) (crs AN1 AI 2 0) (crs AN1 AI 0 1)) ((crs AN1 AI 2 0) / lnH (crs AN1 AI 1 2) (crs AN1 AI 2 0) (crs AN1 AI 0 1)) ((crs AN1 AI 0 1) / lnH (crs AN1 AI 1 2) (crs AN1 AI 2 0) (crs AN1 AI 0 1)) AL1)) H := hP
        have hD : va_D A (wM cs ad (up1 (up1 (up1 I 3 rk) 4 0) 4 (0 + 1)) G AN1 AI (memb 0 ((crs AN1 AI 1 2) / lnH (crs AN1 AI 1 2) (crs AN1 AI 2 0) (crs AN1 AI 0 1)) ((crs AN1 AI 2 0) / lnH (crs AN1 AI 1 2) (crs AN1 AI 2 0) (crs AN1 AI 0 1)) ((crs AN1 AI 0 1) / lnH (crs AN1 AI 1 2) (crs AN1 AI 2 0) (crs AN1 AI 0 1)) AL1)) := hD
        rw [up1_1] at hP hD
        refine lv_goto (tgt := 262) hx hb dX3_findBase_195 (by decide) ?_
        exact l262 H locs ls _ _ ((if_neg hr0).trans ((if_pos hrn).trans (if_neg hn2))).symm hP hD hS (lv_sub hl [0] rfl)
    · refine b_ne_t (tgt := 198) hx hb dX3_findBase_78 (by decide) (hrn) (by omega) (by omega) ?_
      refine lv_aload_n hx hb dX3_findBase_198 rfl (lv_at hl 0 rfl) ?_
      refine b_get (own := RX3) (C := RX3) (T := TX3) (N := 23) (ci := 3) (v := .int (nI rk)) hx hb hts usX3 hown hK hP 0 (by decide) rfl rfl 4 (by decide) (hts _ gw_508) rfl dX3_findBase_199 ?_
      refine lv_aload_n hx hb dX3_findBase_202 rfl (lv_at hl 0 rfl) ?_
      refine b_get (own := RX3) (C := RX3) (T := TX3) (N := 23) (ci := 3) (v := .int (nI (I 1))) hx hb hts usX3 hown hK hP 0 (by decide) rfl rfl 1 (by decide) (hts _ gw_505) rfl dX3_findBase_203 ?_
      by_cases hrl : rk < I 1
      · obtain ⟨o1, o2, o3, o4⟩ := hfb.2.1 hr0 hrn hrl
        refine b_ge_f (tgt := 262) hx hb dX3_findBase_206 (by decide) (hrl) (by omega) ?_
        refine lv_aload_n hx hb dX3_findBase_209 rfl (lv_at hl 0 rfl) ?_
        refine lv_iconst (v := nI 0) hx hb dX3_findBase_210 (by decide) ?_
        refine lv_iconst (v := nI 0) hx hb dX3_findBase_211 (by decide) ?_
        refine g_calll (va_runV (As := [.int (nI 0), .int (nI 0)]) (rest := []) ⟨hx, hb, hml, hown, hts⟩ (ctX3_number l D cs ad (up1 (up1 I 3 rk) 4 0) G AN1 AI AL1 _ 0 0 hL3 (by decide) (by decide)) (cwV 2 hts (gi_V gw_695 gw_697 gw_44 gw_57 gw_698) rfl rfl rfl (by decide +kernel) ⟨Nat.le_of_ble_eq_true rfl, Nat.le_of_ble_eq_true rfl⟩) ⟨g_blind, va_recv hK hP (ci := 3) (q0 := 0) rfl (wm_at (by decide) rfl), g_pre hP hK hD hN⟩ rfl rfl hl.1 rfl (lv_room (Nat.le_of_ble_eq_true rfl)) dX3_findBase_212 ⟨Nat.zero_le _, Nat.zero_le _⟩) hD hS hA (fun r u H locs hw hP hD hS => ?_)
        obtain ⟨rfl, rfl⟩ := hw
        have hP : va_P D vc (wM cs ad (up1 (up1 I 3 rk) 4 0) G AN1 AI AL1) H := hP
        have hD : va_D A (wM cs ad (up1 (up1 I 3 rk) 4 0) G AN1 AI AL1) := hD
        refine lv_aload_n hx hb dX3_findBase_215 rfl (lv_at hl 0 rfl) ?_
        refine lv_iconst (v := nI 0) hx hb dX3_findBase_216 (by decide) ?_
        refine lv_iconst (v := nI 1) hx hb dX3_findBase_217 (by decide) ?_
        refine g_calll (va_runV (As := [.int (nI 0), .int (nI 1)]) (rest := [.long (nbr AN1 AI 0 0)]) ⟨hx, hb, hml, hown, hts⟩ (ctX3_number l D cs ad (up1 (up1 I 3 rk) 4 0) G AN1 AI AL1 _ 0 1 hL3 (by decide) (by decide)) (cwV 2 hts (gi_V gw_695 gw_697 gw_44 gw_57 gw_698) rfl rfl rfl (by decide +kernel) ⟨Nat.le_of_ble_eq_true rfl, Nat.le_of_ble_eq_true rfl⟩) ⟨g_blind, va_recv hK hP (ci := 3) (q0 := 0) rfl (wm_at (by decide) rfl), g_pre hP hK hD hN⟩ rfl rfl hl.1 rfl (lv_room (Nat.le_of_ble_eq_true rfl)) dX3_findBase_218 ⟨Nat.zero_le _, Nat.zero_le _⟩) hD hS hA (fun r u H locs hw hP hD hS => ?_)
        obtain ⟨rfl, rfl⟩ := hw
        have hP : va_P D vc (wM cs ad (up1 (up1 I 3 rk) 4 0) G AN1 AI AL1) H := hP
        have hD : va_D A (wM cs ad (up1 (up1 I 3 rk) 4 0) G AN1 AI AL1) := hD
        refine lv_aload_n hx hb dX3_findBase_221 rfl (lv_at hl 0 rfl) ?_
        refine lv_iconst (v := nI 0) hx hb dX3_findBase_222 (by decide) ?_
        refine lv_iconst (v := nI 2) hx hb dX3_findBase_223 (by decide) ?_
        refine g_calll (va_runV (As := [.int (nI 0), .int (nI 2)]) (rest := [.long (nbr AN1 AI 0 1), .long (nbr AN1 AI 0 0)]) ⟨hx, hb, hml, hown, hts⟩ (ctX3_number l D cs ad (up1 (up1 I 3 rk) 4 0) G AN1 AI AL1 _ 0 2 hL3 (by decide) (by decide)) (cwV 2 hts (gi_V gw_695 gw_697 gw_44 gw_57 gw_698) rfl rfl rfl (by decide +kernel) ⟨Nat.le_of_ble_eq_true rfl, Nat.le_of_ble_eq_true rfl⟩) ⟨g_blind, va_recv hK hP (ci := 3) (q0 := 0) rfl (wm_at (by decide) rfl), g_pre hP hK hD hN⟩ rfl rfl hl.1 rfl (lv_room (Nat.le_of_ble_eq_true rfl)) dX3_findBase_224 ⟨Nat.zero_le _, Nat.zero_le _⟩) hD hS hA (fun r u H locs hw hP hD hS => ?_)
        obtain ⟨rfl, rfl⟩ := hw
        have hP : va_P D vc (wM cs ad (up1 (up1 I 3 rk) 4 0) G AN1 AI AL1) H := hP
        have hD : va_D A (wM cs ad (up1 (up1 I 3 rk) 4 0) G AN1 AI AL1) := hD
        refine g_calll (va_runS (As := [.long (nbr AN1 AI 0 1), .long (nbr AN1 AI 0 2)]) (rest := [.long (nbr AN1 AI 0 0)]) ⟨hx, hb, hml, hown, hts⟩ (ctX3_divisor l D cs ad (up1 (up1 I 3 rk) 4 0) G AN1 AI AL1 _ (nbr AN1 AI 0 1) (nbr AN1 AI 0 2) o1) (va_cwS 2 hts (gi_S gw_672 gw_673 gw_57 gw_674) rfl rfl rfl (by decide +kernel) ⟨Nat.le_of_ble_eq_true rfl, Nat.le_of_ble_eq_true rfl⟩) ⟨g_blind, g_pre hP hK hD hN⟩ rfl rfl hl.1 rfl (lv_room (Nat.le_of_ble_eq_true rfl)) dX3_findBase_227 ⟨Nat.zero_le _, Nat.zero_le _⟩) hD hS hA (fun r u H locs hw hP hD hS => ?_)
        obtain ⟨rfl, rfl⟩ := hw
        have hP : va_P D vc (wM cs ad (up1 (up1 I 3 rk) 4 0) G AN1 AI AL1) H := hP
        have hD : va_D A (wM cs ad (up1 (up1 I 3 rk) 4 0) G AN1 AI AL1) := hD
        refine g_calll (va_runS (As := [.long (nbr AN1 AI 0 0), .long (dv64 (nbr AN1 AI 0 1) (nbr AN1 AI 0 2))]) (rest := []) ⟨hx, hb, hml, hown, hts⟩ (ctX3_divisor l D cs ad (up1 (up1 I 3 rk) 4 0) G AN1 AI AL1 _ (nbr AN1 AI 0 0) (dv64 (nbr AN1 AI 0 1) (nbr AN1 AI 0 2)) o2) (va_cwS 2 hts (gi_S gw_672 gw_673 gw_57 gw_674) rfl rfl rfl (by decide +kernel) ⟨Nat.le_of_ble_eq_true rfl, Nat.le_of_ble_eq_true rfl⟩) ⟨g_blind, g_pre hP hK hD hN⟩ rfl rfl hl.1 rfl (lv_room (Nat.le_of_ble_eq_true rfl)) dX3_findBase_230 ⟨Nat.zero_le _, Nat.zero_le _⟩) hD hS hA (fun r u H locs hw hP hD hS => ?_)
        obtain ⟨rfl, rfl⟩ := hw
        have hP : va_P D vc (wM cs ad (up1 (up1 I 3 rk) 4 0) G AN1 AI AL1) H := hP
        have hD : va_D A (wM cs ad (up1 (up1 I 3 rk) 4 0) G AN1 AI AL1) := hD
        refine lv_lstore_n (lv' := [(1, .long (lnG (nbr AN1 AI 0 0) (nbr AN1 AI 0 1) (nbr AN1 AI 0 2))), (0, .ref (ad 0))]) hx hb dX3_findBase_233 rfl hl (by decide) rfl (fun ls hl => ?_)
        refine lv_aload_n hx hb dX3_findBase_234 rfl (lv_at hl 1 rfl) ?_
        refine lv_aload_n hx hb dX3_findBase_235 rfl (lv_at hl 1 rfl) ?_
        refine lv_iconst (v := nI 0) hx hb dX3_findBase_236 (by decide) ?_
        refine lv_iconst (v := nI 0) hx hb dX3_findBase_237 (by decide) ?_
        refine g_calll (va_runV (As := [.int (nI 0), .int (nI 0)]) (rest := [.ref (ad 0)]) ⟨hx, hb, hml, hown, hts⟩ (ctX3_number l D cs ad (up1 (up1 I 3 rk) 4 0) G AN1 AI AL1 _ 0 0 hL3 (by decide) (by decide)) (cwV 2 hts (gi_V gw_695 gw_697 gw_44 gw_57 gw_698) rfl rfl rfl (by decide +kernel) ⟨Nat.le_of_ble_eq_true rfl, Nat.le_of_ble_eq_true rfl⟩) ⟨g_blind, va_recv hK hP (ci := 3) (q0 := 0) rfl (wm_at (by decide) rfl), g_pre hP hK hD hN⟩ rfl rfl hl.1 rfl (lv_room (Nat.le_of_ble_eq_true rfl)) dX3_findBase_238 ⟨Nat.zero_le _, Nat.zero_le _⟩) hD hS hA (fun r u H locs hw hP hD hS => ?_)
        obtain ⟨rfl, rfl⟩ := hw
        have hP : va_P D vc (wM cs ad (up1 (up1 I 3 rk) 4 0) G AN1 AI AL1) H := hP
        have hD : va_D A (wM cs ad (up1 (up1 I 3 rk) 4 0) G AN1 AI AL1) := hD
        refine lv_lload_n hx hb dX3_findBase_241 rfl (lv_at hl 0 rfl) ?_
        refine lv_ldiv hx hb dX3_findBase_242 (o3) ?_
        refine lv_aload_n hx hb dX3_findBase_243 rfl (lv_at hl 1 rfl) ?_
        refine lv_iconst (v := nI 0) hx hb dX3_findBase_244 (by decide) ?_
        refine lv_iconst (v := nI 1) hx hb dX3_findBase_245 (by decide) ?_
        refine g_calll (va_runV (As := [.int (nI 0), .int (nI 1)]) (rest := [.long ((nbr AN1 AI 0 0) / (lnG (nbr AN1 AI 0 0) (nbr AN1 AI 0 1) (nbr AN1 AI 0 2))), .ref (ad 0)]) ⟨hx, hb, hml, hown, hts⟩ (ctX3_number l D cs ad (up1 (up1 I 3 rk) 4 0) G AN1 AI AL1 _ 0 1 hL3 (by decide) (by decide)) (cwV 2 hts (gi_V gw_695 gw_697 gw_44 gw_57 gw_698) rfl rfl rfl (by decide +kernel) ⟨Nat.le_of_ble_eq_true rfl, Nat.le_of_ble_eq_true rfl⟩) ⟨g_blind, va_recv hK hP (ci := 3) (q0 := 0) rfl (wm_at (by decide) rfl), g_pre hP hK hD hN⟩ rfl rfl hl.1 rfl (lv_room (Nat.le_of_ble_eq_true rfl)) dX3_findBase_246 ⟨Nat.zero_le _, Nat.zero_le _⟩) hD hS hA (fun r u H locs hw hP hD hS => ?_)
        obtain ⟨rfl, rfl⟩ := hw
        have hP : va_P D vc (wM cs ad (up1 (up1 I 3 rk) 4 0) G AN1 AI AL1) H := hP
        have hD : va_D A (wM cs ad (up1 (up1 I 3 rk) 4 0) G AN1 AI AL1) := hD
        refine lv_lload_n hx hb dX3_findBase_249 rfl (lv_at hl 0 rfl) ?_
        refine lv_ldiv hx hb dX3_findBase_250 (o3) ?_
        refine lv_aload_n hx hb dX3_findBase_251 rfl (lv_at hl 1 rfl) ?_
        refine lv_iconst (v := nI 0) hx hb dX3_findBase_252 (by decide) ?_
        refine lv_iconst (v := nI 2) hx hb dX3_findBase_253 (by decide) ?_
        refine g_calll (va_runV (As := [.int (nI 0), .int (nI 2)]) (rest := [.long ((nbr AN1 AI 0 1) / (lnG (nbr AN1 AI 0 0) (nbr AN1 AI 0 1) (nbr AN1 AI 0 2))), .long ((nbr AN1 AI 0 0) / (lnG (nbr AN1 AI 0 0) (nbr AN1 AI 0 1) (nbr AN1 AI 0 2))), .ref (ad 0)]) ⟨hx, hb, hml, hown, hts⟩ (ctX3_number l D cs ad (up1 (up1 I 3 rk) 4 0) G AN1 AI AL1 _ 0 2 hL3 (by decide) (by decide)) (cwV 2 hts (gi_V gw_695 gw_697 gw_44 gw_57 gw_698) rfl rfl rfl (by decide +kernel) ⟨Nat.le_of_ble_eq_true rfl, Nat.le_of_ble_eq_true rfl⟩) ⟨g_blind, va_recv hK hP (ci := 3) (q0 := 0) rfl (wm_at (by decide) rfl), g_pre hP hK hD hN⟩ rfl rfl hl.1 rfl (lv_room (Nat.le_of_ble_eq_true rfl)) dX3_findBase_254 ⟨Nat.zero_le _, Nat.zero_le _⟩) hD hS hA (fun r u H locs hw hP hD hS => ?_)
        obtain ⟨rfl, rfl⟩ := hw
        have hP : va_P D vc (wM cs ad (up1 (up1 I 3 rk) 4 0) G AN1 AI AL1) H := hP
        have hD : va_D A (wM cs ad (up1 (up1 I 3 rk) 4 0) G AN1 AI AL1) := hD
        refine lv_lload_n hx hb dX3_findBase_257 rfl (lv_at hl 0 rfl) ?_
        refine lv_ldiv hx hb dX3_findBase_258 (o3) ?_
        refine g_callv (va_runV (As := [.long ((nbr AN1 AI 0 0) / (lnG (nbr AN1 AI 0 0) (nbr AN1 AI 0 1) (nbr AN1 AI 0 2))), .long ((nbr AN1 AI 0 1) / (lnG (nbr AN1 AI 0 0) (nbr AN1 AI 0 1) (nbr AN1 AI 0 2))), .long ((nbr AN1 AI 0 2) / (lnG (nbr AN1 AI 0 0) (nbr AN1 AI 0 1) (nbr AN1 AI 0 2)))]) (rest := []) ⟨hx, hb, hml, hown, hts⟩ (ctX3_planeOf l D cs ad (up1 (up1 I 3 rk) 4 0) G AN1 AI AL1 _ ((nbr AN1 AI 0 0) / (lnG (nbr AN1 AI 0 0) (nbr AN1 AI 0 1) (nbr AN1 AI 0 2))) ((nbr AN1 AI 0 1) / (lnG (nbr AN1 AI 0 0) (nbr AN1 AI 0 1) (nbr AN1 AI 0 2))) ((nbr AN1 AI 0 2) / (lnG (nbr AN1 AI 0 0) (nbr AN1 AI 0 1) (nbr AN1 AI 0 2))) (show 0 < 2 by decide) o4) (cwV 3 hts (gi_V gw_703 gw_705 gw_46 gw_57 gw_706) rfl rfl rfl (by decide +kernel) ⟨Nat.le_of_ble_eq_true rfl, Nat.le_of_ble_eq_true rfl⟩) ⟨g_blind, va_recv hK hP (ci := 3) (q0 := 0) rfl (wm_at (by decide) rfl), g_pre hP hK hD hN⟩ rfl rfl hl.1 rfl (lv_room (Nat.le_of_ble_eq_true rfl)) dX3_findBase_259 ⟨Nat.zero_le _, Nat.zero_le _⟩) hD hS hA (fun u H locs hw hP hD hS => ?_)
        obtain rfl := hw
        have hP : va_P D vc (wM cs ad (up1 (up1 (up1 I 3 rk) 4 0) 4 (0 + 2)) G AN1 AI (plnA 0 ((nbr AN1 AI 0 0) / (lnG (nbr AN1 AI 0 0) (nbr AN1 AI 0 1) (nbr AN1 AI 0 2))) ((nbr AN1 AI 0 1) / (lnG (nbr AN1 AI 0 0) (nbr AN1 AI 0 1) (nbr AN1 AI 0 2))) ((nbr AN1 AI 0 2) / (lnG (nbr AN1 AI 0 0) (nbr AN1 AI 0 1) (nbr AN1 AI 0 2))) AL1)) H := hP
        have hD : va_D A (wM cs ad (up1 (up1 (up1 I 3 rk) 4 0) 4 (0 + 2)) G AN1 AI (plnA 0 ((nbr AN1 AI 0 0) / (lnG (nbr AN1 AI 0 0) (nbr AN1 AI 0 1) (nbr AN1 AI 0 2))) ((nbr AN1 AI 0 1) / (lnG (nbr AN1 AI 0 0) (nbr AN1 AI 0 1) (nbr AN1 AI 0 2))) ((nbr AN1 AI 0 2) / (lnG (nbr AN1 AI 0 0) (nbr AN1 AI 0 1) (nbr AN1 AI 0 2))) AL1)) := hD
        rw [up1_1] at hP hD
        exact l262 H locs ls _ _ ((if_neg hr0).trans ((if_neg hrn).trans (if_pos hrl))).symm hP hD hS (lv_sub hl [1] rfl)
      · refine b_ge_t (tgt := 262) hx hb dX3_findBase_206 (by decide) (by omega) (by omega) ?_
        exact l262 H locs ls 0 AL1 ((if_neg hr0).trans ((if_neg hrn).trans (if_neg hrl))).symm hP hD hS (lv_sub hl [0] rfl)
