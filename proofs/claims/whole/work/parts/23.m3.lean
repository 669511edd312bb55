/-- what stands keeps -/
theorem sr_keep {k st : Nat} {AI : Nat → Int32} {j : Nat} (hj : j ≠ 3) : ∀ (n g : Nat) (x : Nat × (Nat → Nat → Nat) × (Nat → Nat → Int64)), (fo (srow k st AI) n g x).2.1 j = x.2.1 j
  | 0, _, _ => rfl
  | n + 1, g, x => by
    rw [fo_s, sr_keep hj n]
    by_cases h : (st / 2 ^ g) % 2 = 0
    · rw [srow_0 h]
    · rw [srow_1 h]
      by_cases h3 : x.1 < 3
      · rw [if_pos h3]; exact up2_row hj
      · rw [if_neg h3]
theorem sr_lin {k st : Nat} {AI : Nat → Int32} : ∀ (n g : Nat) (x : Nat × (Nat → Nat → Nat) × (Nat → Nat → Int64)), g + n ≤ 3 → (∀ r, r < 3 → x.2.1 3 r < 3) → ∀ r, r < 3 → (fo (srow k st AI) n g x).2.1 3 r < 3
  | 0, _, _, _, h => h
  | n + 1, g, x, hg, hl => by
    rw [fo_s]
    refine sr_lin n (g + 1) _ (by omega) ?_
    by_cases h : (st / 2 ^ g) % 2 = 0
    · rw [srow_0 h]; exact hl
    · rw [srow_1 h]
      by_cases h3 : x.1 < 3
      · rw [if_pos h3]
        intro r hr
        show up2 x.2.1 3 x.1 g 3 r < 3
        by_cases hrx : r = x.1
        · rw [hrx, up2_s]; omega
        · rw [up2_n (fun z => hrx z.2)]; exact hl r hr
      · rw [if_neg h3]; exact hl
theorem sr_AL {k st : Nat} {AI : Nat → Int32} {j : Nat} (hj : j ≠ 5) : ∀ (n g : Nat) (x : Nat × (Nat → Nat → Nat) × (Nat → Nat → Int64)), (fo (srow k st AI) n g x).2.2 j = x.2.2 j
  | 0, _, _ => rfl
  | n + 1, g, x => by
    rw [fo_s, sr_AL hj n]
    by_cases h : (st / 2 ^ g) % 2 = 0
    · rw [srow_0 h]
    · rw [srow_1 h]
      show sq1 k x.1 g x.2.1 AI x.2.2 j = x.2.2 j
      unfold sq1
      by_cases hk : x.1 < k
      · rw [if_pos hk]
        have aux : ∀ (n c : Nat) (X : Nat → Nat → Int64), fo (fun c X => up2 X 5 (3 * x.1 + c) (Int32.toInt64 (AI (4 * g + x.2.1 2 c)))) n c X j = X j := by
          intro n
          induction n with
          | zero => intro c X; rfl
          | succ n ih => intro c X; rw [fo_s, ih]; exact up2_row hj
        exact aux k 0 x.2.2
      · rw [if_neg hk]
theorem st_keep {m k : Nat} {AI : Nat → Int32} {j : Nat} (hj : j ≠ 3) : ∀ (c st : Nat) (AN : Nat → Nat → Nat) (AL : Nat → Nat → Int64), (stnd m k AI c st AN AL).2.1 j = AN j
  | 0, _, _, _ => rfl
  | c + 1, st, AN, AL => by
    rw [stnd_s]
    split
    · exact sr_keep hj m 0 _
    · rw [st_keep hj c]; exact sr_keep hj m 0 _
theorem st_lin {m k : Nat} {AI : Nat → Int32} (hm : m ≤ 3) : ∀ (c st : Nat) (AN : Nat → Nat → Nat) (AL : Nat → Nat → Int64), (∀ r, r < 3 → AN 3 r < 3) → ∀ r, r < 3 → (stnd m k AI c st AN AL).2.1 3 r < 3
  | 0, _, _, _, h => h
  | c + 1, st, AN, AL, h => by
    rw [stnd_s]
    split
    · exact sr_lin m 0 _ (by omega) h
    · exact st_lin hm c _ _ _ (sr_lin m 0 _ (by omega) h)
theorem st_AL {m k : Nat} {AI : Nat → Int32} {j : Nat} (hj : j ≠ 5) : ∀ (c st : Nat) (AN : Nat → Nat → Nat) (AL : Nat → Nat → Int64), (stnd m k AI c st AN AL).2.2 j = AL j
  | 0, _, _, _ => rfl
  | c + 1, st, AN, AL => by
    rw [stnd_s]
    split
    · exact sr_AL hj m 0 _
    · rw [st_AL hj c]; exact sr_AL hj m 0 _
/-- the Model's arrays of places are in range -/
def okA (AN : Nat → Nat → Nat) : Prop := (∀ c, c < 3 → AN 2 c < 3) ∧ (∀ c, c < 3 → AN 3 c < 3) ∧ (∀ c, c < 3 → AN 4 c < 2) ∧ (∀ c, c < 3 → AN 10 c < 3)
theorem okA.std {m k : Nat} {AI : Nat → Int32} {AN : Nat → Nat → Nat} {AL : Nat → Nat → Int64} (hm : m ≤ 3) (h : okA AN) : okA (stdM m k AI AN AL).2.1 := by
  unfold stdM
  refine ⟨?_, st_lin hm _ _ _ _ h.2.1, ?_, ?_⟩
  · rw [st_keep (by decide)]; exact h.1
  · rw [st_keep (by decide)]; exact h.2.2.1
  · rw [st_keep (by decide)]; exact h.2.2.2
theorem okA.set2 {AN : Nat → Nat → Nat} {j v : Nat} (h : okA AN) (hv : v < 3) : okA (up2 AN 2 j v) := by
  refine ⟨fun c hc => ?_, fun c hc => ?_, fun c hc => ?_, fun c hc => ?_⟩
  · by_cases e : c = j
    · rw [e, up2_s]; exact hv
    · rw [up2_n (fun z => e z.2)]; exact h.1 c hc
  · exact h.2.1 c hc
  · exact h.2.2.1 c hc
  · exact h.2.2.2 c hc
theorem okA.set4 {AN : Nat → Nat → Nat} {j v : Nat} (h : okA AN) (hv : v < 2) : okA (up2 AN 4 j v) := by
  refine ⟨fun c hc => h.1 c hc, fun c hc => h.2.1 c hc, fun c hc => ?_, fun c hc => h.2.2.2 c hc⟩
  by_cases e : c = j
  · rw [e, up2_s]; exact hv
  · rw [up2_n (fun z => e z.2)]; exact h.2.2.1 c hc
theorem okA.set10 {AN : Nat → Nat → Nat} {j v : Nat} (h : okA AN) (hv : v < 3) : okA (up2 AN 10 j v) := by
  refine ⟨fun c hc => h.1 c hc, fun c hc => h.2.1 c hc, fun c hc => h.2.2.1 c hc, fun c hc => ?_⟩
  by_cases e : c = j
  · rw [e, up2_s]; exact hv
  · rw [up2_n (fun z => e z.2)]; exact h.2.2.2 c hc
/-- one column of look: rank, places, square -/
def lstep (m : Nat) (AI : Nat → Int32) (j : Nat) (x : Nat × (Nat → Nat → Nat) × (Nat → Nat → Int64)) : Nat × (Nat → Nat → Nat) × (Nat → Nat → Int64) :=
  if x.1 = m then (x.1, up2 (up2 x.2.1 2 x.1 j) 4 j 1, x.2.2)
  else if (stdM m (x.1 + 1) AI (up2 x.2.1 2 x.1 j) x.2.2).1 then (x.1 + 1, up2 (stdM m (x.1 + 1) AI (up2 x.2.1 2 x.1 j) x.2.2).2.1 4 j 0, (stdM m (x.1 + 1) AI (up2 x.2.1 2 x.1 j) x.2.2).2.2)
  else (x.1, up2 (stdM m (x.1 + 1) AI (up2 x.2.1 2 x.1 j) x.2.2).2.1 4 j 1, (stdM m (x.1 + 1) AI (up2 x.2.1 2 x.1 j) x.2.2).2.2)
def lkX (n m : Nat) (AI : Nat → Int32) (AN : Nat → Nat → Nat) (AL : Nat → Nat → Int64) : Nat × (Nat → Nat → Nat) × (Nat → Nat → Int64) := fo (lstep m AI) n 0 (0, AN, AL)
def lkF (n m : Nat) (AI : Nat → Int32) (AN : Nat → Nat → Nat) (AL : Nat → Nat → Int64) : Nat × (Nat → Nat → Nat) × (Nat → Nat → Int64) :=
  ((lkX n m AI AN AL).1, (stdM m (lkX n m AI AN AL).1 AI (lkX n m AI AN AL).2.1 (lkX n m AI AN AL).2.2).2.1, (stdM m (lkX n m AI AN AL).1 AI (lkX n m AI AN AL).2.1 (lkX n m AI AN AL).2.2).2.2)
theorem ls_ok {m : Nat} {AI : Nat → Int32} (hm : m ≤ 3) : ∀ (n j : Nat) (x : Nat × (Nat → Nat → Nat) × (Nat → Nat → Int64)), j + n ≤ 3 → x.1 ≤ m → x.1 ≤ j → okA x.2.1 → (fo (lstep m AI) n j x).1 ≤ m ∧ (fo (lstep m AI) n j x).1 ≤ j + n ∧ okA (fo (lstep m AI) n j x).2.1
  | 0, _, _, _, h1, h2, h3 => ⟨h1, h2, h3⟩
  | n + 1, j, x, hj, h1, h2, h3 => by
    rw [fo_s]
    have key : (lstep m AI j x).1 ≤ m ∧ (lstep m AI j x).1 ≤ j + 1 ∧ okA (lstep m AI j x).2.1 := by
      unfold lstep
      by_cases hx : x.1 = m
      · rw [if_pos hx]
        exact ⟨h1, by show x.1 ≤ j + 1; omega, (h3.set2 (by omega)).set4 (by decide)⟩
      · rw [if_neg hx]
        split
        · exact ⟨by show x.1 + 1 ≤ m; omega, by show x.1 + 1 ≤ j + 1; omega, (okA.std hm (h3.set2 (by omega))).set4 (by decide)⟩
        · exact ⟨h1, by show x.1 ≤ j + 1; omega, (okA.std hm (h3.set2 (by omega))).set4 (by decide)⟩
    have h9 := ls_ok (AI := AI) hm n (j + 1) _ (by omega) key.1 key.2.1 key.2.2
    exact ⟨h9.1, by have := h9.2.1; omega, h9.2.2⟩
theorem lk_ok {n m : Nat} {AI : Nat → Int32} {AN : Nat → Nat → Nat} {AL : Nat → Nat → Int64} (hn : n ≤ 3) (hm : m ≤ 3) (h : okA AN) : (lkF n m AI AN AL).1 ≤ m ∧ (lkF n m AI AN AL).1 ≤ n ∧ okA (lkF n m AI AN AL).2.1 := by
  have h9 := ls_ok (AI := AI) hm n 0 (0, AN, AL) (by omega) (Nat.zero_le _) (Nat.zero_le _) h
  refine ⟨h9.1, by have := h9.2.1; show (lkX n m AI AN AL).1 ≤ n; unfold lkX; omega, okA.std hm h9.2.2⟩

abbrev rmX3_look : Room := { frames := 2, cells := 0, slots := 0, locals := 47 }
set_option maxHeartbeats 4000000 in
set_option maxRecDepth 100000 in
theorem ctX3_look (l : Launch) (D : va_G) (cs : Nat → ClassId) (ad : Nat → Nat) (I : Nat → Nat) (G : Nat → Int64) (AN : Nat → Nat → Nat) (AI : Nat → Int32) (AL : Nat → Nat → Int64) (sz : Nat)  (h1 : I 1 ≤ 3) (h2 : I 2 ≤ 3) (hok : okA AN) : Met l yX3_look (Cond.code yX3_look cX3_look 2 none :: GW) rmX3_look (va_Pc [.ref (ad 0)] (gP D cs (wM cs ad I G AN AI AL) sz)) (va_Qv (fun u : MS => u = (up1 I 3 (lkF (I 1) (I 2) AI AN AL).1, G, (lkF (I 1) (I 2) AI AN AL).2.1, AI, (lkF (I 1) (I 2) AI AN AL).2.2)) (gB D cs (va_A (wM cs ad I G AN AI AL) sz) (wMs cs ad)) (va_A (wM cs ad I G AN AI AL) sz)) 0 0 (va_A (wM cs ad I G AN AI AL) sz) := by
  refine Met.ofW (cc := cX3_look) (maxL := 2) (ret := none) (by decide) rfl ?_
  intro p e s m args below meth c s₁ B hml hv
  obtain ⟨rfl, hsz, hP, hK, hD0, hN⟩ := hv
  have hx := B.exec
  have hb := B.bytes
  have hr := B.returns
  have hts : ∀ w ∈ GW, w.before _ s = true := fun w h => atoms_spec (ws := Cond.code yX3_look cX3_look 2 none :: GW) B.pre w (List.mem_cons_of_mem _ h)
  have hown : s.vm.findClass RX3 = some m.cls := findClass_of_methodNamed B.named
  have hlocks := B.notSynchronized
  subst hsz
  have hD := hD0.self (sz := s.heap.size)
  generalize hAe : va_A (wM cs ad I G AN AI AL) s.heap.size = A at hD ⊢
  have hA : ∀ q : Nat, s.heap.size ≤ q → A q := fun q h => by rw [← hAe]; exact Or.inr h
  have hS : va_S A s.heap s.heap [] := va_S.rf
  have hl := lv_entry [.ref (ad 0)] (n := 2) (Nat.le_of_ble_eq_true rfl)
  rw [lg_entry_eq]
  generalize (lg_sl [.ref (ad 0)] ++ List.replicate (2 - (lg_sl [.ref (ad 0)]).length) Slot.unset).toArray = ls at hl ⊢
  have hl : lv_has ls 2 [(0, .ref (ad 0))] := hl
  generalize hargs : ([.ref (ad 0)] : List Value).toArray = args at *
  show W p l e rmX3_look s m args below meth c s.heap [] 0 0 _ (F0 m 0 ls [])
  refine lv_aload_n hx hb dX3_look_0 rfl (lv_at hl 0 rfl) ?_
  refine lv_iconst (v := nI 0) hx hb dX3_look_1 (by decide) ?_
  refine b_put (own := RX3) (C := RX3) (T := TX3) (N := 23) (ci := 3) (v := .int (nI 0)) hx hb hts usX3 tyX3 tyX3_ok nmX3 hown hK hP hD hS 0 (by decide) rfl rfl 4 (by decide) (hts _ gw_508) rfl rfl rfl (Nat.le_of_ble_eq_true rfl) dX3_look_2 sM_I3 (fun H locs hP hD hS => ?_)
  refine lv_iconst (v := nI 0) hx hb dX3_look_5 (by decide) ?_
  refine lv_istore_n (lv' := [(1, .int (nI 0)), (0, .ref (ad 0))]) hx hb dX3_look_6 rfl hl (by decide) rfl (fun ls hl => ?_)
  have lp7 : ∀ (Q : State → Prop) (n j rk : Nat) (AN : Nat → Nat → Nat) (AL : Nat → Nat → Int64) (H : Heap) (locs : List Loc) (ls : Array Slot), j + n = I 1 → rk ≤ I 2 → rk ≤ j → okA AN → va_P D vc (wM cs ad (up1 I 3 rk) G AN AI AL) H → va_D A (wM cs ad (up1 I 3 rk) G AN AI AL) → va_S A s.heap H locs → lv_has ls 2 [(1, .int (nI j)), (0, .ref (ad 0))] → (∀ (H : Heap) (locs : List Loc) (ls : Array Slot) (rk' : Nat) (AN' : Nat → Nat → Nat) (AL' : Nat → Nat → Int64), (rk', AN', AL') = fo (lstep (I 2) AI) n j (rk, AN, AL) → va_P D vc (wM cs ad (up1 I 3 rk') G AN' AI AL') H → va_D A (wM cs ad (up1 I 3 rk') G AN' AI AL') → va_S A s.heap H locs → lv_has ls 2 [(0, .ref (ad 0))] → W p l e rmX3_look s m args below meth c H locs 0 0 Q (F0 m 85 ls [])) → W p l e rmX3_look s m args below meth c H locs 0 0 Q (F0 m 7 ls []) := by
    intro Q n
    induction n with
    | zero =>
      intro j rk AN AL H locs ls hn hrm hrj hok hP hD hS hl kx
      refine lv_iload_n hx hb dX3_look_7 rfl (lv_at hl 0 rfl) ?_
      refine lv_aload_n hx hb dX3_look_8 rfl (lv_at hl 1 rfl) ?_
      refine b_get (own := RX3) (C := RX3) (T := TX3) (N := 23) (ci := 3) (v := .int (nI (I 1))) hx hb hts usX3 hown hK hP 0 (by decide) rfl rfl 1 (by decide) (hts _ gw_505) rfl dX3_look_9 ?_
      refine b_ge_t (tgt := 85) hx hb dX3_look_12 (by decide) (by omega) (by omega) ?_
      exact kx H locs ls rk AN AL rfl hP hD hS (lv_sub hl [1] rfl)
    | succ n ih =>
      intro j rk AN AL H locs ls hn hrm hrj hok hP hD hS hl kx
      have hok1 : okA (up2 AN 2 rk j) := hok.set2 (by omega)
      refine lv_iload_n hx hb dX3_look_7 rfl (lv_at hl 0 rfl) ?_
      refine lv_aload_n hx hb dX3_look_8 rfl (lv_at hl 1 rfl) ?_
      refine b_get (own := RX3) (C := RX3) (T := TX3) (N := 23) (ci := 3) (v := .int (nI (I 1))) hx hb hts usX3 hown hK hP 0 (by decide) rfl rfl 1 (by decide) (hts _ gw_505) rfl dX3_look_9 ?_
      refine b_ge_f (tgt := 85) hx hb dX3_look_12 (by decide) (by omega) (by omega) ?_
      refine lv_aload_n hx hb dX3_look_15 rfl (lv_at hl 1 rfl) ?_
      refine b_get (own := RX3) (C := RX3) (T := TX3) (N := 23) (ci := 3) (v := .ref (ad 2)) hx hb hts usX3 hown hK hP 0 (by decide) rfl rfl 5 (by decide) (hts _ gw_509) rfl dX3_look_16 ?_
      refine lv_aload_n hx hb dX3_look_19 rfl (lv_at hl 1 rfl) ?_
      refine b_get (own := RX3) (C := RX3) (T := TX3) (N := 23) (ci := 3) (v := .int (nI rk)) hx hb hts usX3 hown hK hP 0 (by decide) rfl rfl 4 (by decide) (hts _ gw_508) rfl dX3_look_20 ?_
      refine lv_iload_n hx hb dX3_look_23 rfl (lv_at hl 0 rfl) ?_
      refine b_iast hx hb hK hP hD hS 2 0 (by decide) rfl rfl (by omega) (by decide) dX3_look_24 sM_N2 (fun H locs hP hD hS => ?_)
      refine lv_aload_n hx hb dX3_look_25 rfl (lv_at hl 1 rfl) ?_
      refine b_get (own := RX3) (C := RX3) (T := TX3) (N := 23) (ci := 3) (v := .ref (ad 4)) hx hb hts usX3 hown hK hP 0 (by decide) rfl rfl 7 (by decide) (hts _ gw_511) rfl dX3_look_26 ?_
      refine lv_iload_n hx hb dX3_look_29 rfl (lv_at hl 0 rfl) ?_
      refine lv_aload_n hx hb dX3_look_30 rfl (lv_at hl 1 rfl) ?_
      refine b_get (own := RX3) (C := RX3) (T := TX3) (N := 23) (ci := 3) (v := .int (nI rk)) hx hb hts usX3 hown hK hP 0 (by decide) rfl rfl 4 (by decide) (hts _ gw_508) rfl dX3_look_31 ?_
      refine lv_aload_n hx hb dX3_look_34 rfl (lv_at hl 1 rfl) ?_
      refine b_get (own := RX3) (C := RX3) (T := TX3) (N := 23) (ci := 3) (v := .int (nI (I 2))) hx hb hts usX3 hown hK hP 0 (by decide) rfl rfl 2 (by decide) (hts _ gw_506) rfl dX3_look_35 ?_
      by_cases hrk : rk = I 2
      · refine b_eq_t (tgt := 54) hx hb dX3_look_38 (by decide) (hrk)  ?_
        refine lv_iconst (v := nI 1) hx hb dX3_look_54 (by decide) ?_
        refine lv_goto (tgt := 59) hx hb dX3_look_55 (by decide) ?_
        have e1 : lstep (I 2) AI j (rk, AN, AL) = (rk, up2 (up2 AN 2 rk j) 4 j 1, AL) := if_pos hrk
        rw [fo_s, e1] at kx
        refine b_zast hx hb hK hP hD hS 4 2 (by decide) rfl rfl (by omega) (by omega) (by decide) dX3_look_59 sM_N4 (fun H locs hP hD hS => ?_)
        refine lv_aload_n hx hb dX3_look_60 rfl (lv_at hl 1 rfl) ?_
        refine b_get (own := RX3) (C := RX3) (T := TX3) (N := 23) (ci := 3) (v := .ref (ad 4)) hx hb hts usX3 hown hK hP 0 (by decide) rfl rfl 7 (by decide) (hts _ gw_511) rfl dX3_look_61 ?_
        refine lv_iload_n hx hb dX3_look_64 rfl (lv_at hl 0 rfl) ?_
        refine b_zald hx hb hK hP 4 2 (by decide) rfl rfl (by omega) (by decide) dX3_look_65 ?_
        refine lv_topi (fun y9 e9 => ?_)
        have e9 : y9 = nI 1 := by rw [e9, up2_s]
        subst e9
        refine lv_if_ne (tgt := 79) hx hb dX3_look_66 (by decide) (fun _ => ?_) (fun q => absurd q (by decide))
        refine b_iinc (lv' := [(1, .int (nI (j + 1))), (0, .ref (ad 0))]) hx hb dX3_look_79 hl (k := 0) rfl (by decide) rfl (fun ls hl => ?_)
        refine lv_goto (tgt := 7) hx hb dX3_look_82 (by decide) ?_
        exact ih (j + 1) rk _ _ H locs ls (by omega) (by omega) (by omega) (hok1.set4 (by decide)) hP hD hS (lv_sub hl [0, 1] rfl) kx
      · refine b_eq_f (tgt := 54) hx hb dX3_look_38 (by decide) (hrk) (by omega) (by omega) ?_
        refine lv_aload_n hx hb dX3_look_41 rfl (lv_at hl 1 rfl) ?_
        refine lv_aload_n hx hb dX3_look_42 rfl (lv_at hl 1 rfl) ?_
        refine b_get (own := RX3) (C := RX3) (T := TX3) (N := 23) (ci := 3) (v := .int (nI rk)) hx hb hts usX3 hown hK hP 0 (by decide) rfl rfl 4 (by decide) (hts _ gw_508) rfl dX3_look_43 ?_
        refine lv_iconst (v := nI 1) hx hb dX3_look_46 (by decide) ?_
        refine b_addn hx hb dX3_look_47 ?_
        refine g_calli (va_runV (As := [.int (nI (rk + 1))]) (rest := [.int (nI j), .ref (ad 4)]) ⟨hx, hb, hml, hown, hts⟩ (ctX3_stands l D cs ad (up1 I 3 rk) G (up2 AN 2 rk j) AI AL _ (rk + 1) (by omega) (show I 2 ≤ 3 from h2) hok1.1) (cwV 1 hts (gi_V gw_620 gw_622 gw_31 gw_57 gw_623) rfl rfl rfl (by decide +kernel) ⟨Nat.le_of_ble_eq_true rfl, Nat.le_of_ble_eq_true rfl⟩) ⟨g_blind, va_recv hK hP (ci := 3) (q0 := 0) rfl (wm_at (by decide) rfl), g_pre hP hK hD hN⟩ rfl rfl hl.1 rfl (lv_room (Nat.le_of_ble_eq_true rfl)) dX3_look_48 ⟨Nat.zero_le _, Nat.zero_le _⟩) hD hS hA (fun r u H locs hw hP hD hS => ?_)
        obtain ⟨rfl, hw2⟩ := hw
        have hP : va_P D vc (wM cs ad (up1 I 3 rk) G ((stdM (I 2) (rk + 1) AI (up2 AN 2 rk j) AL).2.1) AI ((stdM (I 2) (rk + 1) AI (up2 AN 2 rk j) AL).2.2)) H := hP
        have hD : va_D A (wM cs ad (up1 I 3 rk) G ((stdM (I 2) (rk + 1) AI (up2 AN 2 rk j) AL).2.1) AI ((stdM (I 2) (rk + 1) AI (up2 AN 2 rk j) AL).2.2)) := hD
        have hw2 : r = bz (stdM (I 2) (rk + 1) AI (up2 AN 2 rk j) AL).1 := hw2
        subst hw2
        have hok2 : okA (stdM (I 2) (rk + 1) AI (up2 AN 2 rk j) AL).2.1 := okA.std h2 hok1
        refine lv_if_ne (tgt := 58) hx hb dX3_look_51 (by decide) (fun h => ?_) (fun h => ?_)
        · refine lv_iconst (v := nI 0) hx hb dX3_look_58 (by decide) ?_
          have e1 : lstep (I 2) AI j (rk, AN, AL) = (rk + 1, up2 (stdM (I 2) (rk + 1) AI (up2 AN 2 rk j) AL).2.1 4 j 0, (stdM (I 2) (rk + 1) AI (up2 AN 2 rk j) AL).2.2) := (if_neg hrk).trans (if_pos (bz_t h))
          rw [fo_s, e1] at kx
          refine b_zast hx hb hK hP hD hS 4 2 (by decide) rfl rfl (by omega) (by omega) (by decide) dX3_look_59 sM_N4 (fun H locs hP hD hS => ?_)
          refine lv_aload_n hx hb dX3_look_60 rfl (lv_at hl 1 rfl) ?_
          refine b_get (own := RX3) (C := RX3) (T := TX3) (N := 23) (ci := 3) (v := .ref (ad 4)) hx hb hts usX3 hown hK hP 0 (by decide) rfl rfl 7 (by decide) (hts _ gw_511) rfl dX3_look_61 ?_
          refine lv_iload_n hx hb dX3_look_64 rfl (lv_at hl 0 rfl) ?_
          refine b_zald hx hb hK hP 4 2 (by decide) rfl rfl (by omega) (by decide) dX3_look_65 ?_
          refine lv_topi (fun y9 e9 => ?_)
          have e9 : y9 = nI 0 := by rw [e9, up2_s]
          subst e9
          refine lv_if_ne (tgt := 79) hx hb dX3_look_66 (by decide) (fun q => absurd rfl q) (fun _ => ?_)
          refine lv_aload_n hx hb dX3_look_69 rfl (lv_at hl 1 rfl) ?_
          refine lv_dup hx hb dX3_look_70 rfl ?_
          refine b_get (own := RX3) (C := RX3) (T := TX3) (N := 23) (ci := 3) (v := .int (nI rk)) hx hb hts usX3 hown hK hP 0 (by decide) rfl rfl 4 (by decide) (hts _ gw_508) rfl dX3_look_71 ?_
          refine lv_iconst (v := nI 1) hx hb dX3_look_74 (by decide) ?_
          refine b_addn hx hb dX3_look_75 ?_
          refine b_put (own := RX3) (C := RX3) (T := TX3) (N := 23) (ci := 3) (v := .int (nI (rk + 1))) hx hb hts usX3 tyX3 tyX3_ok nmX3 hown hK hP hD hS 0 (by decide) rfl rfl 4 (by decide) (hts _ gw_508) rfl rfl rfl (Nat.le_of_ble_eq_true rfl) dX3_look_76 sM_I3 (fun H locs hP hD hS => ?_)
          rw [up1_1] at hP hD
          refine b_iinc (lv' := [(1, .int (nI (j + 1))), (0, .ref (ad 0))]) hx hb dX3_look_79 hl (k := 0) rfl (by decide) rfl (fun ls hl => ?_)
          refine lv_goto (tgt := 7) hx hb dX3_look_82 (by decide) ?_
          exact ih (j + 1) (rk + 1) _ _ H locs ls (by omega) (by omega) (by omega) (hok2.set4 (by decide)) hP hD hS (lv_sub hl [0, 1] rfl) kx
        · refine lv_iconst (v := nI 1) hx hb dX3_look_54 (by decide) ?_
          refine lv_goto (tgt := 59) hx hb dX3_look_55 (by decide) ?_
          have e1 : lstep (I 2) AI j (rk, AN, AL) = (rk, up2 (stdM (I 2) (rk + 1) AI (up2 AN 2 rk j) AL).2.1 4 j 1, (stdM (I 2) (rk + 1) AI (up2 AN 2 rk j) AL).2.2) := (if_neg hrk).trans (if_neg (by rw [bz_1.mp h]; decide))
          rw [fo_s, e1] at kx
          refine b_zast hx hb hK hP hD hS 4 2 (by decide) rfl rfl (by omega) (by omega) (by decide) dX3_look_59 sM_N4 (fun H locs hP hD hS => ?_)
          refine lv_aload_n hx hb dX3_look_60 rfl (lv_at hl 1 rfl) ?_
          refine b_get (own := RX3) (C := RX3) (T := TX3) (N := 23) (ci := 3) (v := .ref (ad 4)) hx hb hts usX3 hown hK hP 0 (by decide) rfl rfl 7 (by decide) (hts _ gw_511) rfl dX3_look_61 ?_
          refine lv_iload_n hx hb dX3_look_64 rfl (lv_at hl 0 rfl) ?_
          refine b_zald hx hb hK hP 4 2 (by decide) rfl rfl (by omega) (by decide) dX3_look_65 ?_
          refine lv_topi (fun y9 e9 => ?_)
          have e9 : y9 = nI 1 := by rw [e9, up2_s]
          subst e9
          refine lv_if_ne (tgt := 79) hx hb dX3_look_66 (by decide) (fun _ => ?_) (fun q => absurd q (by decide))
          refine b_iinc (lv' := [(1, .int (nI (j + 1))), (0, .ref (ad 0))]) hx hb dX3_look_79 hl (k := 0) rfl (by decide) rfl (fun ls hl => ?_)
          refine lv_goto (tgt := 7) hx hb dX3_look_82 (by decide) ?_
          exact ih (j + 1) rk _ _ H locs ls (by omega) (by omega) (by omega) (hok2.set4 (by decide)) hP hD hS (lv_sub hl [0, 1] rfl) kx
  refine lp7 _ (I 1) 0 0 AN AL _ _ ls (by omega) (by omega) (by omega) hok hP hD hS (lv_sub hl [0, 1] rfl) (fun H locs ls rk' AN' AL' he hP hD hS hl => ?_)
  have h9 := ls_ok (AI := AI) h2 (I 1) 0 (0, AN, AL) (by omega) (Nat.zero_le _) (Nat.zero_le _) hok
  rw [← he] at h9
  have h91 : rk' ≤ I 2 := h9.1
  have h93 : okA AN' := h9.2.2
  refine lv_aload_n hx hb dX3_look_85 rfl (lv_at hl 0 rfl) ?_
  refine lv_aload_n hx hb dX3_look_86 rfl (lv_at hl 0 rfl) ?_
  refine b_get (own := RX3) (C := RX3) (T := TX3) (N := 23) (ci := 3) (v := .int (nI rk')) hx hb hts usX3 hown hK hP 0 (by decide) rfl rfl 4 (by decide) (hts _ gw_508) rfl dX3_look_87 ?_
  refine g_calli (va_runV (As := [.int (nI rk')]) (rest := []) ⟨hx, hb, hml, hown, hts⟩ (ctX3_stands l D cs ad (up1 I 3 rk') G AN' AI AL' _ rk' (by omega) (show I 2 ≤ 3 from h2) h93.1) (cwV 1 hts (gi_V gw_620 gw_622 gw_31 gw_57 gw_623) rfl rfl rfl (by decide +kernel) ⟨Nat.le_of_ble_eq_true rfl, Nat.le_of_ble_eq_true rfl⟩) ⟨g_blind, va_recv hK hP (ci := 3) (q0 := 0) rfl (wm_at (by decide) rfl), g_pre hP hK hD hN⟩ rfl rfl hl.1 rfl (lv_room (Nat.le_of_ble_eq_true rfl)) dX3_look_90 ⟨Nat.zero_le _, Nat.zero_le _⟩) hD hS hA (fun r u H locs hw hP hD hS => ?_)
  obtain ⟨rfl, hw2⟩ := hw
  have hP : va_P D vc (wM cs ad (up1 I 3 rk') G ((stdM (I 2) rk' AI AN' AL').2.1) AI ((stdM (I 2) rk' AI AN' AL').2.2)) H := hP
  have hD : va_D A (wM cs ad (up1 I 3 rk') G ((stdM (I 2) rk' AI AN' AL').2.1) AI ((stdM (I 2) rk' AI AN' AL').2.2)) := hD
  refine lv_pop hx hb dX3_look_93 rfl ?_
  exact g_vret hx hb hr hlocks (up1 I 3 rk', G, (stdM (I 2) rk' AI AN' AL').2.1, AI, (stdM (I 2) rk' AI AN' AL').2.2) (by unfold lkF lkX; rw [← he]) hK hP hD hS dX3_look_94

def ssA (k c : Nat) (AL : Nat → Nat → Int64) : Nat → Nat → Int64 := fo (fun r X => up2 (up2 X 8 r (X 5 (3 * r + c))) 5 (3 * r + c) ((up2 X 8 r (X 5 (3 * r + c))) 6 r)) k 0 AL
def ssB (k c : Nat) (AL : Nat → Nat → Int64) : Nat → Nat → Int64 := fo (fun r X => up2 X 5 (3 * r + c) (X 8 r)) k 0 AL
def ss1 (k c : Nat) (AL : Nat → Nat → Int64) : Nat → Nat → Int64 := ssB k c (up2 (ssA k c AL) 7 c (det k (ssA k c AL 5)))
def ssq (k : Nat) (AL : Nat → Nat → Int64) : Nat → Nat → Int64 := fo (fun c X => ss1 k c X) k 0 AL
def sqf (rk : Nat) (AN : Nat → Nat → Nat) (AI : Nat → Int32) (AL : Nat → Nat → Int64) : Nat → Nat → Int64 := fo (fun r X => fo (fun c Y => up2 Y 5 (3 * r + c) (Int32.toInt64 (AI (4 * AN 3 r + AN 2 c)))) rk 0 X) rk 0 AL

abbrev rmX3_solveSquare : Room := { frames := 1, cells := 0, slots := 0, locals := 22 }
set_option maxHeartbeats 4000000 in
set_option maxRecDepth 100000 in
theorem ctX3_solveSquare (l : Launch) (D : va_G) (cs : Nat → ClassId) (ad : Nat → Nat) (I : Nat → Nat) (G : Nat → Int64) (AN : Nat → Nat → Nat) (AI : Nat → Int32) (AL : Nat → Nat → Int64) (sz : Nat) (k : Nat) (hk : k ≤ 3) : Met l yX3_solveSquare (Cond.code yX3_solveSquare cX3_solveSquare 4 none :: GW) rmX3_solveSquare (va_Pc [.ref (ad 0), .int (nI k)] (gP D cs (wM cs ad I G AN AI AL) sz)) (va_Qv (fun u : MS => u = (I, up1 G 0 (det k (AL 5)), AN, AI, ssq k AL)) (gB D cs (va_A (wM cs ad I G AN AI AL) sz) (wMs cs ad)) (va_A (wM cs ad I G AN AI AL) sz)) 0 0 (va_A (wM cs ad I G AN AI AL) sz) := by
  refine Met.ofW (cc := cX3_solveSquare) (maxL := 4) (ret := none) (by decide) rfl ?_
  intro p e s m args below meth c s₁ B hml hv
  obtain ⟨rfl, hsz, hP, hK, hD0, hN⟩ := hv
  have hx := B.exec
  have hb := B.bytes
  have hr := B.returns
  have hts : ∀ w ∈ GW, w.before _ s = true := fun w h => atoms_spec (ws := Cond.code yX3_solveSquare cX3_solveSquare 4 none :: GW) B.pre w (List.mem_cons_of_mem _ h)
  have hown : s.vm.findClass RX3 = some m.cls := findClass_of_methodNamed B.named
  have hlocks := B.notSynchronized
  subst hsz
  have hD := hD0.self (sz := s.heap.size)
  generalize hAe : va_A (wM cs ad I G AN AI AL) s.heap.size = A at hD ⊢
  have hA : ∀ q : Nat, s.heap.size ≤ q → A q := fun q h => by rw [← hAe]; exact Or.inr h
  have hS : va_S A s.heap s.heap [] := va_S.rf
  have hl := lv_entry [.ref (ad 0), .int (nI k)] (n := 4) (Nat.le_of_ble_eq_true rfl)
  rw [lg_entry_eq]
  generalize (lg_sl [.ref (ad 0), .int (nI k)] ++ List.replicate (4 - (lg_sl [.ref (ad 0), .int (nI k)]).length) Slot.unset).toArray = ls at hl ⊢
  have hl : lv_has ls 4 [(0, .ref (ad 0)), (1, .int (nI k))] := hl
  generalize hargs : ([.ref (ad 0), .int (nI k)] : List Value).toArray = args at *
  show W p l e rmX3_solveSquare s m args below meth c s.heap [] 0 0 _ (F0 m 0 ls [])
  refine lv_aload_n hx hb dX3_solveSquare_0 rfl (lv_at hl 0 rfl) ?_
  refine lv_aload_n hx hb dX3_solveSquare_1 rfl (lv_at hl 0 rfl) ?_
  refine lv_iload_n hx hb dX3_solveSquare_2 rfl (lv_at hl 1 rfl) ?_
  refine g_calll (va_runV (As := [.int (nI k)]) (rest := [.ref (ad 0)]) ⟨hx, hb, hml, hown, hts⟩ (ctX3_determinant l D cs ad I G AN AI AL _ k hk) (cwV 1 hts (gi_V gw_624 gw_626 gw_32 gw_57 gw_627) rfl rfl rfl (by decide +kernel) ⟨Nat.le_of_ble_eq_true rfl, Nat.le_of_ble_eq_true rfl⟩) ⟨g_blind, va_recv hK hP (ci := 3) (q0 := 0) rfl (wm_at (by decide) rfl), g_pre hP hK hD hN⟩ rfl rfl hl.1 rfl (lv_room (Nat.le_of_ble_eq_true rfl)) dX3_solveSquare_3 ⟨Nat.zero_le _, Nat.zero_le _⟩) hD hS hA (fun r u H locs hw hP hD hS => ?_)
  obtain ⟨rfl, rfl⟩ := hw
  have hP : va_P D vc (wM cs ad I G AN AI AL) H := hP
  have hD : va_D A (wM cs ad I G AN AI AL) := hD
  refine b_put (own := RX3) (C := RX3) (T := TX3) (N := 23) (ci := 3) (v := .long (det k (AL 5))) hx hb hts usX3 tyX3 tyX3_ok nmX3 hown hK hP hD hS 0 (by decide) rfl rfl 11 (by decide) (hts _ gw_515) rfl rfl rfl (Nat.le_of_ble_eq_true rfl) dX3_solveSquare_6 sM_G0 (fun H locs hP hD hS => ?_)
  refine lv_iconst (v := nI 0) hx hb dX3_solveSquare_9 (by decide) ?_
  refine lv_istore_n (lv' := [(2, .int (nI 0)), (0, .ref (ad 0)), (1, .int (nI k))]) hx hb dX3_solveSquare_10 rfl hl (by decide) rfl (fun ls hl => ?_)
  have lp11 : ∀ (Q : State → Prop) (n c9 : Nat) (X : Nat → Nat → Int64) (H : Heap) (locs : List Loc) (ls : Array Slot), c9 + n = k → va_P D vc (wM cs ad I (up1 G 0 (det k (AL 5))) AN AI X) H → va_D A (wM cs ad I (up1 G 0 (det k (AL 5))) AN AI X) → va_S A s.heap H locs → lv_has ls 4 [(2, .int (nI c9)), (0, .ref (ad 0)), (1, .int (nI k))] → (∀ (H : Heap) (locs : List Loc) (ls : Array Slot), va_P D vc (wM cs ad I (up1 G 0 (det k (AL 5))) AN AI (fo (fun c X => ss1 k c X) n c9 X)) H → va_D A (wM cs ad I (up1 G 0 (det k (AL 5))) AN AI (fo (fun c X => ss1 k c X) n c9 X)) → va_S A s.heap H locs → lv_has ls 4 [(2, .int (nI k)), (0, .ref (ad 0)), (1, .int (nI k))] → W p l e rmX3_solveSquare s m args below meth c H locs 0 0 Q (F0 m 107 ls [])) → W p l e rmX3_solveSquare s m args below meth c H locs 0 0 Q (F0 m 11 ls []) := by
    intro Q n
    induction n with
    | zero =>
      intro c9 X H locs ls hn hP hD hS hl kx
      have hi : c9 = k := by omega
      refine lv_iload_n hx hb dX3_solveSquare_11 rfl (lv_at hl 0 rfl) ?_
      refine lv_iload_n hx hb dX3_solveSquare_12 rfl (lv_at hl 2 rfl) ?_
      refine b_ge_t (tgt := 107) hx hb dX3_solveSquare_13 (by decide) (by omega) (by omega) ?_
      rw [hi] at hl
      exact kx H locs ls hP hD hS (lv_sub hl [0, 1, 2] rfl)
    | succ n ih =>
      intro c9 X H locs ls hn hP hD hS hl kx
      have hi : c9 < k := by omega
      refine lv_iload_n hx hb dX3_solveSquare_11 rfl (lv_at hl 0 rfl) ?_
      refine lv_iload_n hx hb dX3_solveSquare_12 rfl (lv_at hl 2 rfl) ?_
      refine b_ge_f (tgt := 107) hx hb dX3_solveSquare_13 (by decide) (by omega) (by omega) ?_
      refine lv_iconst (v := nI 0) hx hb dX3_solveSquare_16 (by decide) ?_
      refine lv_istore_n (lv' := [(3, .int (nI 0)), (2, .int (nI c9)), (0, .ref (ad 0)), (1, .int (nI k))]) hx hb dX3_solveSquare_17 rfl hl (by decide) rfl (fun ls hl => ?_)
      have lp18 : ∀ (Q : State → Prop) (n r9 : Nat) (Y : Nat → Nat → Int64) (H : Heap) (locs : List Loc) (ls : Array Slot), r9 + n = k → va_P D vc (wM cs ad I (up1 G 0 (det k (AL 5))) AN AI Y) H → va_D A (wM cs ad I (up1 G 0 (det k (AL 5))) AN AI Y) → va_S A s.heap H locs → lv_has ls 4 [(3, .int (nI r9)), (2, .int (nI c9)), (0, .ref (ad 0)), (1, .int (nI k))] → (∀ (H : Heap) (locs : List Loc) (ls : Array Slot), va_P D vc (wM cs ad I (up1 G 0 (det k (AL 5))) AN AI (fo (fun r X => up2 (up2 X 8 r (X 5 (3 * r + c9))) 5 (3 * r + c9) ((up2 X 8 r (X 5 (3 * r + c9))) 6 r)) n r9 Y)) H → va_D A (wM cs ad I (up1 G 0 (det k (AL 5))) AN AI (fo (fun r X => up2 (up2 X 8 r (X 5 (3 * r + c9))) 5 (3 * r + c9) ((up2 X 8 r (X 5 (3 * r + c9))) 6 r)) n r9 Y)) → va_S A s.heap H locs → lv_has ls 4 [(3, .int (nI k)), (2, .int (nI c9)), (0, .ref (ad 0)), (1, .int (nI k))] → W p l e rmX3_solveSquare s m args below meth c H locs 0 0 Q (F0 m 61 ls [])) → W p l e rmX3_solveSquare s m args below meth c H locs 0 0 Q (F0 m 18 ls []) := by
        intro Q n
        induction n with
        | zero =>
          intro r9 Y H locs ls hn hP hD hS hl kx
          have hi : r9 = k := by omega
          refine lv_iload_n hx hb dX3_solveSquare_18 rfl (lv_at hl 0 rfl) ?_
          refine lv_iload_n hx hb dX3_solveSquare_19 rfl (lv_at hl 3 rfl) ?_
          refine b_ge_t (tgt := 61) hx hb dX3_solveSquare_20 (by decide) (by omega) (by omega) ?_
          rw [hi] at hl
          exact kx H locs ls hP hD hS (lv_sub hl [0, 1, 2, 3] rfl)
        | succ n ih =>
          intro r9 Y H locs ls hn hP hD hS hl kx
          have hi : r9 < k := by omega
          refine lv_iload_n hx hb dX3_solveSquare_18 rfl (lv_at hl 0 rfl) ?_
          refine lv_iload_n hx hb dX3_solveSquare_19 rfl (lv_at hl 3 rfl) ?_
          refine b_ge_f (tgt := 61) hx hb dX3_solveSquare_20 (by decide) (by omega) (by omega) ?_
          refine lv_aload_n hx hb dX3_solveSquare_23 rfl (lv_at hl 2 rfl) ?_
          refine b_get (own := RX3) (C := RX3) (T := TX3) (N := 23) (ci := 3) (v := .ref (ad 8)) hx hb hts usX3 hown hK hP 0 (by decide) rfl rfl 14 (by decide) (hts _ gw_518) rfl dX3_solveSquare_24 ?_
          refine lv_iload_n hx hb dX3_solveSquare_27 rfl (lv_at hl 0 rfl) ?_
          refine lv_aload_n hx hb dX3_solveSquare_28 rfl (lv_at hl 2 rfl) ?_
          refine b_get (own := RX3) (C := RX3) (T := TX3) (N := 23) (ci := 3) (v := .ref (ad 5)) hx hb hts usX3 hown hK hP 0 (by decide) rfl rfl 8 (by decide) (hts _ gw_512) rfl dX3_solveSquare_29 ?_
          refine lv_iconst (v := nI 3) hx hb dX3_solveSquare_32 (by decide) ?_
          refine lv_iload_n hx hb dX3_solveSquare_33 rfl (lv_at hl 0 rfl) ?_
          refine b_muln hx hb dX3_solveSquare_34 ?_
          refine lv_iload_n hx hb dX3_solveSquare_35 rfl (lv_at hl 1 rfl) ?_
          refine b_addn hx hb dX3_solveSquare_36 ?_
          refine b_lald hx hb hK hP 5 1 (by decide) rfl rfl (by omega) (by decide) dX3_solveSquare_37 ?_
          refine b_last hx hb hK hP hD hS 8 1 (by decide) rfl rfl (by omega) (by decide) dX3_solveSquare_38 sM_L8 (fun H locs hP hD hS => ?_)
          refine lv_aload_n hx hb dX3_solveSquare_39 rfl (lv_at hl 2 rfl) ?_
          refine b_get (own := RX3) (C := RX3) (T := TX3) (N := 23) (ci := 3) (v := .ref (ad 5)) hx hb hts usX3 hown hK hP 0 (by decide) rfl rfl 8 (by decide) (hts _ gw_512) rfl dX3_solveSquare_40 ?_
          refine lv_iconst (v := nI 3) hx hb dX3_solveSquare_43 (by decide) ?_
          refine lv_iload_n hx hb dX3_solveSquare_44 rfl (lv_at hl 0 rfl) ?_
          refine b_muln hx hb dX3_solveSquare_45 ?_
          refine lv_iload_n hx hb dX3_solveSquare_46 rfl (lv_at hl 1 rfl) ?_
          refine b_addn hx hb dX3_solveSquare_47 ?_
          refine lv_aload_n hx hb dX3_solveSquare_48 rfl (lv_at hl 2 rfl) ?_
          refine b_get (own := RX3) (C := RX3) (T := TX3) (N := 23) (ci := 3) (v := .ref (ad 6)) hx hb hts usX3 hown hK hP 0 (by decide) rfl rfl 9 (by decide) (hts _ gw_513) rfl dX3_solveSquare_49 ?_
          refine lv_iload_n hx hb dX3_solveSquare_52 rfl (lv_at hl 0 rfl) ?_
          refine b_lald hx hb hK hP 6 1 (by decide) rfl rfl (by omega) (by decide) dX3_solveSquare_53 ?_
          refine b_last hx hb hK hP hD hS 5 1 (by decide) rfl rfl (by omega) (by decide) dX3_solveSquare_54 sM_L5 (fun H locs hP hD hS => ?_)
          refine b_iinc (lv' := [(3, .int (nI (r9 + 1))), (2, .int (nI c9)), (0, .ref (ad 0)), (1, .int (nI k))]) hx hb dX3_solveSquare_55 hl (k := 0) rfl (by decide) rfl (fun ls hl => ?_)
          refine lv_goto (tgt := 18) hx hb dX3_solveSquare_58 (by decide) ?_
          exact ih (r9 + 1) _ H locs ls (by omega) hP hD hS (lv_sub hl [0, 1, 2, 3] rfl) kx
      refine lp18 _ (k) 0 X _ _ ls (by omega) hP hD hS (lv_sub hl [0, 1, 2, 3] rfl) (fun H locs ls hP hD hS hl => ?_)
      have hP : va_P D vc (wM cs ad I (up1 G 0 (det k (AL 5))) AN AI (ssA k c9 X)) H := hP
      have hD : va_D A (wM cs ad I (up1 G 0 (det k (AL 5))) AN AI (ssA k c9 X)) := hD
      refine lv_aload_n hx hb dX3_solveSquare_61 rfl (lv_at hl 2 rfl) ?_
      refine b_get (own := RX3) (C := RX3) (T := TX3) (N := 23) (ci := 3) (v := .ref (ad 7)) hx hb hts usX3 hown hK hP 0 (by decide) rfl rfl 10 (by decide) (hts _ gw_514) rfl dX3_solveSquare_62 ?_
      refine lv_iload_n hx hb dX3_solveSquare_65 rfl (lv_at hl 1 rfl) ?_
      refine lv_aload_n hx hb dX3_solveSquare_66 rfl (lv_at hl 2 rfl) ?_
      refine lv_iload_n hx hb dX3_solveSquare_67 rfl (lv_at hl 3 rfl) ?_
      refine g_calll (va_runV (As := [.int (nI k)]) (rest := [.int (nI c9), .ref (ad 7)]) ⟨hx, hb, hml, hown, hts⟩ (ctX3_determinant l D cs ad I (up1 G 0 (det k (AL 5))) AN AI (ssA k c9 X) _ k hk) (cwV 1 hts (gi_V gw_624 gw_626 gw_32 gw_57 gw_627) rfl rfl rfl (by decide +kernel) ⟨Nat.le_of_ble_eq_true rfl, Nat.le_of_ble_eq_true rfl⟩) ⟨g_blind, va_recv hK hP (ci := 3) (q0 := 0) rfl (wm_at (by decide) rfl), g_pre hP hK hD hN⟩ rfl rfl hl.1 rfl (lv_room (Nat.le_of_ble_eq_true rfl)) dX3_solveSquare_68 ⟨Nat.zero_le _, Nat.zero_le _⟩) hD hS hA (fun r u H locs hw hP hD hS => ?_)
      obtain ⟨rfl, rfl⟩ := hw
      have hP : va_P D vc (wM cs ad I (up1 G 0 (det k (AL 5))) AN AI (ssA k c9 X)) H := hP
      have hD : va_D A (wM cs ad I (up1 G 0 (det k (AL 5))) AN AI (ssA k c9 X)) := hD
      refine b_last hx hb hK hP hD hS 7 1 (by decide) rfl rfl (by omega) (by decide) dX3_solveSquare_71 sM_L7 (fun H locs hP hD hS => ?_)
      refine lv_iconst (v := nI 0) hx hb dX3_solveSquare_72 (by decide) ?_
      refine lv_istore_n (lv' := [(3, .int (nI 0)), (2, .int (nI c9)), (0, .ref (ad 0)), (1, .int (nI k))]) hx hb dX3_solveSquare_73 rfl hl (by decide) rfl (fun ls hl => ?_)
      have lp74 : ∀ (Q : State → Prop) (n r9 : Nat) (Y : Nat → Nat → Int64) (H : Heap) (locs : List Loc) (ls : Array Slot), r9 + n = k → va_P D vc (wM cs ad I (up1 G 0 (det k (AL 5))) AN AI Y) H → va_D A (wM cs ad I (up1 G 0 (det k (AL 5))) AN AI Y) → va_S A s.heap H locs → lv_has ls 4 [(3, .int (nI r9)), (2, .int (nI c9)), (0, .ref (ad 0)), (1, .int (nI k))] → (∀ (H : Heap) (locs : List Loc) (ls : Array Slot), va_P D vc (wM cs ad I (up1 G 0 (det k (AL 5))) AN AI (fo (fun r X => up2 X 5 (3 * r + c9) (X 8 r)) n r9 Y)) H → va_D A (wM cs ad I (up1 G 0 (det k (AL 5))) AN AI (fo (fun r X => up2 X 5 (3 * r + c9) (X 8 r)) n r9 Y)) → va_S A s.heap H locs → lv_has ls 4 [(3, .int (nI k)), (2, .int (nI c9)), (0, .ref (ad 0)), (1, .int (nI k))] → W p l e rmX3_solveSquare s m args below meth c H locs 0 0 Q (F0 m 101 ls [])) → W p l e rmX3_solveSquare s m args below meth c H locs 0 0 Q (F0 m 74 ls []) := by
        intro Q n
        induction n with
        | zero =>
          intro r9 Y H locs ls hn hP hD hS hl kx
          have hi : r9 = k := by omega
          refine lv_iload_n hx hb dX3_solveSquare_74 rfl (lv_at hl 0 rfl) ?_
          refine lv_iload_n hx hb dX3_solveSquare_75 rfl (lv_at hl 3 rfl) ?_
          refine b_ge_t (tgt := 101) hx hb dX3_solveSquare_76 (by decide) (by omega) (by omega) ?_
          rw [hi] at hl
          exact kx H locs ls hP hD hS (lv_sub hl [0, 1, 2, 3] rfl)
        | succ n ih =>
          intro r9 Y H locs ls hn hP hD hS hl kx
          have hi : r9 < k := by omega
          refine lv_iload_n hx hb dX3_solveSquare_74 rfl (lv_at hl 0 rfl) ?_
          refine lv_iload_n hx hb dX3_solveSquare_75 rfl (lv_at hl 3 rfl) ?_
          refine b_ge_f (tgt := 101) hx hb dX3_solveSquare_76 (by decide) (by omega) (by omega) ?_
          refine lv_aload_n hx hb dX3_solveSquare_79 rfl (lv_at hl 2 rfl) ?_
          refine b_get (own := RX3) (C := RX3) (T := TX3) (N := 23) (ci := 3) (v := .ref (ad 5)) hx hb hts usX3 hown hK hP 0 (by decide) rfl rfl 8 (by decide) (hts _ gw_512) rfl dX3_solveSquare_80 ?_
          refine lv_iconst (v := nI 3) hx hb dX3_solveSquare_83 (by decide) ?_
          refine lv_iload_n hx hb dX3_solveSquare_84 rfl (lv_at hl 0 rfl) ?_
          refine b_muln hx hb dX3_solveSquare_85 ?_
          refine lv_iload_n hx hb dX3_solveSquare_86 rfl (lv_at hl 1 rfl) ?_
          refine b_addn hx hb dX3_solveSquare_87 ?_
          refine lv_aload_n hx hb dX3_solveSquare_88 rfl (lv_at hl 2 rfl) ?_
          refine b_get (own := RX3) (C := RX3) (T := TX3) (N := 23) (ci := 3) (v := .ref (ad 8)) hx hb hts usX3 hown hK hP 0 (by decide) rfl rfl 14 (by decide) (hts _ gw_518) rfl dX3_solveSquare_89 ?_
          refine lv_iload_n hx hb dX3_solveSquare_92 rfl (lv_at hl 0 rfl) ?_
          refine b_lald hx hb hK hP 8 1 (by decide) rfl rfl (by omega) (by decide) dX3_solveSquare_93 ?_
          refine b_last hx hb hK hP hD hS 5 1 (by decide) rfl rfl (by omega) (by decide) dX3_solveSquare_94 sM_L5 (fun H locs hP hD hS => ?_)
          refine b_iinc (lv' := [(3, .int (nI (r9 + 1))), (2, .int (nI c9)), (0, .ref (ad 0)), (1, .int (nI k))]) hx hb dX3_solveSquare_95 hl (k := 0) rfl (by decide) rfl (fun ls hl => ?_)
          refine lv_goto (tgt := 74) hx hb dX3_solveSquare_98 (by decide) ?_
          exact ih (r9 + 1) _ H locs ls (by omega) hP hD hS (lv_sub hl [0, 1, 2, 3] rfl) kx
      refine lp74 _ (k) 0 (up2 (ssA k c9 X) 7 c9 (det k (ssA k c9 X 5))) _ _ ls (by omega) hP hD hS (lv_sub hl [0, 1, 2, 3] rfl) (fun H locs ls hP hD hS hl => ?_)
      refine b_iinc (lv' := [(2, .int (nI (c9 + 1))), (3, .int (nI k)), (0, .ref (ad 0)), (1, .int (nI k))]) hx hb dX3_solveSquare_101 hl (k := 1) rfl (by decide) rfl (fun ls hl => ?_)
      refine lv_goto (tgt := 11) hx hb dX3_solveSquare_104 (by decide) ?_
      exact ih (c9 + 1) _ H locs ls (by omega) hP hD hS (lv_sub hl [0, 2, 3] rfl) kx
  refine lp11 _ (k) 0 AL _ _ ls (by omega) hP hD hS (lv_sub hl [0, 1, 2] rfl) (fun H locs ls hP hD hS hl => ?_)
  exact g_vret hx hb hr hlocks (I, up1 G 0 (det k (AL 5)), AN, AI, fo (fun c X => ss1 k c X) (k) 0 AL) (rfl) hK hP hD hS dX3_solveSquare_107

abbrev rmX3_solve : Room := { frames := 2, cells := 0, slots := 0, locals := 45 }
set_option maxHeartbeats 4000000 in
set_option maxRecDepth 100000 in
theorem ctX3_solve (l : Launch) (D : va_G) (cs : Nat → ClassId) (ad : Nat → Nat) (I : Nat → Nat) (G : Nat → Int64) (AN : Nat → Nat → Nat) (AI : Nat → Int32) (AL : Nat → Nat → Int64) (sz : Nat)  (h3 : I 3 ≤ 3) (hok : okA AN) : Met l yX3_solve (Cond.code yX3_solve cX3_solve 3 none :: GW) rmX3_solve (va_Pc [.ref (ad 0)] (gP D cs (wM cs ad I G AN AI AL) sz)) (va_Qv (fun u : MS => u = (I, up1 G 0 (det (I 3) (sqf (I 3) AN AI AL 5)), AN, AI, ssq (I 3) (sqf (I 3) AN AI AL))) (gB D cs (va_A (wM cs ad I G AN AI AL) sz) (wMs cs ad)) (va_A (wM cs ad I G AN AI AL) sz)) 0 0 (va_A (wM cs ad I G AN AI AL) sz) := by
  refine Met.ofW (cc := cX3_solve) (maxL := 3) (ret := none) (by decide) rfl ?_
  intro p e s m args below meth c s₁ B hml hv
  obtain ⟨rfl, hsz, hP, hK, hD0, hN⟩ := hv
  have hx := B.exec
  have hb := B.bytes
  have hr := B.returns
  have hts : ∀ w ∈ GW, w.before _ s = true := fun w h => atoms_spec (ws := Cond.code yX3_solve cX3_solve 3 none :: GW) B.pre w (List.mem_cons_of_mem _ h)
  have hown : s.vm.findClass RX3 = some m.cls := findClass_of_methodNamed B.named
  have hlocks := B.notSynchronized
  subst hsz
  have hD := hD0.self (sz := s.heap.size)
  generalize hAe : va_A (wM cs ad I G AN AI AL) s.heap.size = A at hD ⊢
  have hA : ∀ q : Nat, s.heap.size ≤ q → A q := fun q h => by rw [← hAe]; exact Or.inr h
  have hS : va_S A s.heap s.heap [] := va_S.rf
  have hl := lv_entry [.ref (ad 0)] (n := 3) (Nat.le_of_ble_eq_true rfl)
  rw [lg_entry_eq]
  generalize (lg_sl [.ref (ad 0)] ++ List.replicate (3 - (lg_sl [.ref (ad 0)]).length) Slot.unset).toArray = ls at hl ⊢
  have hl : lv_has ls 3 [(0, .ref (ad 0))] := hl
  generalize hargs : ([.ref (ad 0)] : List Value).toArray = args at *
  show W p l e rmX3_solve s m args below meth c s.heap [] 0 0 _ (F0 m 0 ls [])
  refine lv_iconst (v := nI 0) hx hb dX3_solve_0 (by decide) ?_
  refine lv_istore_n (lv' := [(1, .int (nI 0)), (0, .ref (ad 0))]) hx hb dX3_solve_1 rfl hl (by decide) rfl (fun ls hl => ?_)
  have lp2 : ∀ (Q : State → Prop) (n r9 : Nat) (X : Nat → Nat → Int64) (H : Heap) (locs : List Loc) (ls : Array Slot), r9 + n = I 3 → va_P D vc (wM cs ad I G AN AI X) H → va_D A (wM cs ad I G AN AI X) → va_S A s.heap H locs → lv_has ls 3 [(1, .int (nI r9)), (0, .ref (ad 0))] → (∀ (H : Heap) (locs : List Loc) (ls : Array Slot), va_P D vc (wM cs ad I G AN AI (fo (fun r X => fo (fun c Y => up2 Y 5 (3 * r + c) (Int32.toInt64 (AI (4 * AN 3 r + AN 2 c)))) (I 3) 0 X) n r9 X)) H → va_D A (wM cs ad I G AN AI (fo (fun r X => fo (fun c Y => up2 Y 5 (3 * r + c) (Int32.toInt64 (AI (4 * AN 3 r + AN 2 c)))) (I 3) 0 X) n r9 X)) → va_S A s.heap H locs → lv_has ls 3 [(1, .int (nI (I 3))), (0, .ref (ad 0))] → W p l e rmX3_solve s m args below meth c H locs 0 0 Q (F0 m 63 ls [])) → W p l e rmX3_solve s m args below meth c H locs 0 0 Q (F0 m 2 ls []) := by
    intro Q n
    induction n with
    | zero =>
      intro r9 X H locs ls hn hP hD hS hl kx
      have hi : r9 = I 3 := by omega
      refine lv_iload_n hx hb dX3_solve_2 rfl (lv_at hl 0 rfl) ?_
      refine lv_aload_n hx hb dX3_solve_3 rfl (lv_at hl 1 rfl) ?_
      refine b_get (own := RX3) (C := RX3) (T := TX3) (N := 23) (ci := 3) (v := .int (nI (I 3))) hx hb hts usX3 hown hK hP 0 (by decide) rfl rfl 4 (by decide) (hts _ gw_508) rfl dX3_solve_4 ?_
      refine b_ge_t (tgt := 63) hx hb dX3_solve_7 (by decide) (by omega) (by omega) ?_
      rw [hi] at hl
      exact kx H locs ls hP hD hS (lv_sub hl [0, 1] rfl)
    | succ n ih =>
      intro r9 X H locs ls hn hP hD hS hl kx
      have hi : r9 < I 3 := by omega
      refine lv_iload_n hx hb dX3_solve_2 rfl (lv_at hl 0 rfl) ?_
      refine lv_aload_n hx hb dX3_solve_3 rfl (lv_at hl 1 rfl) ?_
      refine b_get (own := RX3) (C := RX3) (T := TX3) (N := 23) (ci := 3) (v := .int (nI (I 3))) hx hb hts usX3 hown hK hP 0 (by decide) rfl rfl 4 (by decide) (hts _ gw_508) rfl dX3_solve_4 ?_
      refine b_ge_f (tgt := 63) hx hb dX3_solve_7 (by decide) (by omega) (by omega) ?_
      refine lv_iconst (v := nI 0) hx hb dX3_solve_10 (by decide) ?_
      refine lv_istore_n (lv' := [(2, .int (nI 0)), (1, .int (nI r9)), (0, .ref (ad 0))]) hx hb dX3_solve_11 rfl hl (by decide) rfl (fun ls hl => ?_)
      have hl3 := hok.2.1 r9 (by omega)
      have lp12 : ∀ (Q : State → Prop) (n c9 : Nat) (Y : Nat → Nat → Int64) (H : Heap) (locs : List Loc) (ls : Array Slot), c9 + n = I 3 → va_P D vc (wM cs ad I G AN AI Y) H → va_D A (wM cs ad I G AN AI Y) → va_S A s.heap H locs → lv_has ls 3 [(2, .int (nI c9)), (1, .int (nI r9)), (0, .ref (ad 0))] → (∀ (H : Heap) (locs : List Loc) (ls : Array Slot), va_P D vc (wM cs ad I G AN AI (fo (fun c Y => up2 Y 5 (3 * r9 + c) (Int32.toInt64 (AI (4 * AN 3 r9 + AN 2 c)))) n c9 Y)) H → va_D A (wM cs ad I G AN AI (fo (fun c Y => up2 Y 5 (3 * r9 + c) (Int32.toInt64 (AI (4 * AN 3 r9 + AN 2 c)))) n c9 Y)) → va_S A s.heap H locs → lv_has ls 3 [(2, .int (nI (I 3))), (1, .int (nI r9)), (0, .ref (ad 0))] → W p l e rmX3_solve s m args below meth c H locs 0 0 Q (F0 m 57 ls [])) → W p l e rmX3_solve s m args below meth c H locs 0 0 Q (F0 m 12 ls []) := by
        intro Q n
        induction n with
        | zero =>
          intro c9 Y H locs ls hn hP hD hS hl kx
          have hi : c9 = I 3 := by omega
          refine lv_iload_n hx hb dX3_solve_12 rfl (lv_at hl 0 rfl) ?_
          refine lv_aload_n hx hb dX3_solve_13 rfl (lv_at hl 2 rfl) ?_
          refine b_get (own := RX3) (C := RX3) (T := TX3) (N := 23) (ci := 3) (v := .int (nI (I 3))) hx hb hts usX3 hown hK hP 0 (by decide) rfl rfl 4 (by decide) (hts _ gw_508) rfl dX3_solve_14 ?_
          refine b_ge_t (tgt := 57) hx hb dX3_solve_17 (by decide) (by omega) (by omega) ?_
          rw [hi] at hl
          exact kx H locs ls hP hD hS (lv_sub hl [0, 1, 2] rfl)
        | succ n ih =>
          intro c9 Y H locs ls hn hP hD hS hl kx
          have hi : c9 < I 3 := by omega
          refine lv_iload_n hx hb dX3_solve_12 rfl (lv_at hl 0 rfl) ?_
          refine lv_aload_n hx hb dX3_solve_13 rfl (lv_at hl 2 rfl) ?_
          refine b_get (own := RX3) (C := RX3) (T := TX3) (N := 23) (ci := 3) (v := .int (nI (I 3))) hx hb hts usX3 hown hK hP 0 (by decide) rfl rfl 4 (by decide) (hts _ gw_508) rfl dX3_solve_14 ?_
          refine b_ge_f (tgt := 57) hx hb dX3_solve_17 (by decide) (by omega) (by omega) ?_
          have hc3 := hok.1 c9 (by omega)
          refine lv_aload_n hx hb dX3_solve_20 rfl (lv_at hl 2 rfl) ?_
          refine b_get (own := RX3) (C := RX3) (T := TX3) (N := 23) (ci := 3) (v := .ref (ad 5)) hx hb hts usX3 hown hK hP 0 (by decide) rfl rfl 8 (by decide) (hts _ gw_512) rfl dX3_solve_21 ?_
          refine lv_iconst (v := nI 3) hx hb dX3_solve_24 (by decide) ?_
          refine lv_iload_n hx hb dX3_solve_25 rfl (lv_at hl 1 rfl) ?_
          refine b_muln hx hb dX3_solve_26 ?_
          refine lv_iload_n hx hb dX3_solve_27 rfl (lv_at hl 0 rfl) ?_
          refine b_addn hx hb dX3_solve_28 ?_
          refine lv_aload_n hx hb dX3_solve_29 rfl (lv_at hl 2 rfl) ?_
          refine b_get (own := RX3) (C := RX3) (T := TX3) (N := 23) (ci := 3) (v := .ref (ad 1)) hx hb hts usX3 hown hK hP 0 (by decide) rfl rfl 3 (by decide) (hts _ gw_507) rfl dX3_solve_30 ?_
          refine lv_iconst (v := nI 4) hx hb dX3_solve_33 (by decide) ?_
          refine lv_aload_n hx hb dX3_solve_34 rfl (lv_at hl 2 rfl) ?_
          refine b_get (own := RX3) (C := RX3) (T := TX3) (N := 23) (ci := 3) (v := .ref (ad 3)) hx hb hts usX3 hown hK hP 0 (by decide) rfl rfl 6 (by decide) (hts _ gw_510) rfl dX3_solve_35 ?_
          refine lv_iload_n hx hb dX3_solve_38 rfl (lv_at hl 1 rfl) ?_
          refine b_iald hx hb hK hP 3 0 (by decide) rfl rfl (by omega) (by decide) dX3_solve_39 ?_
          refine b_muln hx hb dX3_solve_40 ?_
          refine lv_aload_n hx hb dX3_solve_41 rfl (lv_at hl 2 rfl) ?_
          refine b_get (own := RX3) (C := RX3) (T := TX3) (N := 23) (ci := 3) (v := .ref (ad 2)) hx hb hts usX3 hown hK hP 0 (by decide) rfl rfl 5 (by decide) (hts _ gw_509) rfl dX3_solve_42 ?_
          refine lv_iload_n hx hb dX3_solve_45 rfl (lv_at hl 0 rfl) ?_
          refine b_iald hx hb hK hP 2 0 (by decide) rfl rfl (by omega) (by decide) dX3_solve_46 ?_
          refine b_addn hx hb dX3_solve_47 ?_
          refine b_iald hx hb hK hP 1 0 (by decide) rfl rfl (by omega) (by decide) dX3_solve_48 ?_
          refine lv_i2l (v := Int32.toInt64 (AI ((4 * (AN 3 r9)) + (AN 2 c9)))) hx hb dX3_solve_49 rfl ?_
          refine b_last hx hb hK hP hD hS 5 1 (by decide) rfl rfl (by omega) (by decide) dX3_solve_50 sM_L5 (fun H locs hP hD hS => ?_)
          refine b_iinc (lv' := [(2, .int (nI (c9 + 1))), (1, .int (nI r9)), (0, .ref (ad 0))]) hx hb dX3_solve_51 hl (k := 0) rfl (by decide) rfl (fun ls hl => ?_)
          refine lv_goto (tgt := 12) hx hb dX3_solve_54 (by decide) ?_
          exact ih (c9 + 1) _ H locs ls (by omega) hP hD hS (lv_sub hl [0, 1, 2] rfl) kx
      refine lp12 _ (I 3) 0 X _ _ ls (by omega) hP hD hS (lv_sub hl [0, 1, 2] rfl) (fun H locs ls hP hD hS hl => ?_)
      refine b_iinc (lv' := [(1, .int (nI (r9 + 1))), (2, .int (nI (I 3))), (0, .ref (ad 0))]) hx hb dX3_solve_57 hl (k := 1) rfl (by decide) rfl (fun ls hl => ?_)
      refine lv_goto (tgt := 2) hx hb dX3_solve_60 (by decide) ?_
      exact ih (r9 + 1) _ H locs ls (by omega) hP hD hS (lv_sub hl [0, 2] rfl) kx
  refine lp2 _ (I 3) 0 AL _ _ ls (by omega) hP hD hS (lv_sub hl [0, 1] rfl) (fun H locs ls hP hD hS hl => ?_)
  have hP : va_P D vc (wM cs ad I G AN AI (sqf (I 3) AN AI AL)) H := hP
  have hD : va_D A (wM cs ad I G AN AI (sqf (I 3) AN AI AL)) := hD
  refine lv_aload_n hx hb dX3_solve_63 rfl (lv_at hl 1 rfl) ?_
  refine lv_aload_n hx hb dX3_solve_64 rfl (lv_at hl 1 rfl) ?_
  refine b_get (own := RX3) (C := RX3) (T := TX3) (N := 23) (ci := 3) (v := .int (nI (I 3))) hx hb hts usX3 hown hK hP 0 (by decide) rfl rfl 4 (by decide) (hts _ gw_508) rfl dX3_solve_65 ?_
  refine g_callv (va_runV (As := [.int (nI (I 3))]) (rest := []) ⟨hx, hb, hml, hown, hts⟩ (ctX3_solveSquare l D cs ad I G AN AI (sqf (I 3) AN AI AL) _ (I 3) h3) (cwV 1 hts (gi_V gw_640 gw_642 gw_35 gw_57 gw_643) rfl rfl rfl (by decide +kernel) ⟨Nat.le_of_ble_eq_true rfl, Nat.le_of_ble_eq_true rfl⟩) ⟨g_blind, va_recv hK hP (ci := 3) (q0 := 0) rfl (wm_at (by decide) rfl), g_pre hP hK hD hN⟩ rfl rfl hl.1 rfl (lv_room (Nat.le_of_ble_eq_true rfl)) dX3_solve_68 ⟨Nat.zero_le _, Nat.zero_le _⟩) hD hS hA (fun u H locs hw hP hD hS => ?_)
  obtain rfl := hw
  have hP : va_P D vc (wM cs ad I (up1 G 0 (det (I 3) (sqf (I 3) AN AI AL 5))) AN AI (ssq (I 3) (sqf (I 3) AN AI AL))) H := hP
  have hD : va_D A (wM cs ad I (up1 G 0 (det (I 3) (sqf (I 3) AN AI AL 5))) AN AI (ssq (I 3) (sqf (I 3) AN AI AL))) := hD
  exact g_vret hx hb hr hlocks (I, up1 G 0 (det (I 3) (sqf (I 3) AN AI AL 5)), AN, AI, ssq (I 3) (sqf (I 3) AN AI AL)) (rfl) hK hP hD hS dX3_solve_71
