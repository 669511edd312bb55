theorem hb_two {u : TS} (hn : u.1 0 = 3) {b : Nat → Nat → Int} {β0 β1 : Nat} (h01 : β0 < β1) (h1 : β1 < 3) (p0 : 0 < b 0 β0) (p1 : 0 < b 1 β1) (z0 : ∀ j, j < β0 → b 0 j = 0) (z1 : ∀ j, j < β1 → b 1 j = 0) (hr : 0 ≤ b 0 β1 ∧ b 0 β1 < b 1 β1) (k0 : kA u (b 0)) (k1 : kA u (b 1)) (hd : ∀ y, kA u y → ∃ t s : Int, y 0 = b 0 0 * t + b 1 0 * s ∧ y 1 = b 0 1 * t + b 1 1 * s ∧ y 2 = b 0 2 * t + b 1 2 * s) : HB (u.1 0) 2 (fun k => if k = 0 then β0 else β1) b (kA u) := by
  have c2 : ∀ (P : Nat → Prop), P 0 → P 1 → ∀ k, k < 2 → P k := fun P a b k hk => by
    obtain rfl | rfl : k = 0 ∨ k = 1 := by omega
    · exact a
    · exact b
  refine ⟨c2 _ (by show β0 < _; omega) (by show β1 < _; omega), fun r t hrt ht => ?_, c2 _ p0 p1, c2 _ z0 z1, fun a k hak hk => ?_, c2 _ k0 k1, fun y hy => ?_⟩
  · obtain rfl : r = 0 := by omega
    obtain rfl : t = 1 := by omega
    exact h01
  · obtain rfl : a = 0 := by omega
    obtain rfl : k = 1 := by omega
    exact hr
  · obtain ⟨t, s, e0, e1, e2⟩ := hd y hy
    refine ⟨fun k => if k = 0 then t else s, fun j hj => ?_⟩
    have : dt (fun k => b k j) (fun k => if k = 0 then t else s) 2 0 = b 0 j * t + b 1 j * s := by simp [dt]
    rw [this]
    obtain rfl | rfl | rfl : j = 0 ∨ j = 1 ∨ j = 2 := by omega
    · exact e0
    · exact e1
    · exact e2
set_option maxRecDepth 100000 in
theorem res_all : ∀ a : Fin 19, ∀ p : Fin 19, ∀ q : Fin 19, (Int.gcd ((p.val : Int) - 9) ((q.val : Int) - 9) == 1 && decide (q.val ≠ 9)) = true → (List.range ((q.val : Int) - 9).natAbs).any (fun y => ((a.val : Int) - 9 + ((p.val : Int) - 9) * (y : Int)) % ((q.val : Int) - 9) == 0) = true := by decide +kernel
theorem res_int {a p q : Int} (ha : a.natAbs ≤ 9) (hp : p.natAbs ≤ 9) (hq : q.natAbs ≤ 9) (h0 : q ≠ 0) (hg : Int.gcd p q = 1) : ∃ y : Nat, y < q.natAbs ∧ q ∣ (-a - p * y) := by
  have h := res_all ⟨(a + 9).toNat, by omega⟩ ⟨(p + 9).toNat, by omega⟩ ⟨(q + 9).toNat, by omega⟩
  have ea : (((a + 9).toNat : Nat) : Int) - 9 = a := by omega
  have ep : (((p + 9).toNat : Nat) : Int) - 9 = p := by omega
  have eq' : (((q + 9).toNat : Nat) : Int) - 9 = q := by omega
  dsimp only at h
  rw [ea, ep, eq'] at h
  have h := h (by
    rw [hg]
    have : (q + 9).toNat ≠ 9 := by omega
    simp [this])
  rw [List.any_eq_true] at h
  obtain ⟨y, hy1, hy2⟩ := h
  rw [List.mem_range] at hy1
  have hy3 : (a + p * (y : Int)) % q = 0 := by simpa using hy2
  have hy4 := Int.dvd_of_emod_eq_zero hy3
  refine ⟨y, hy1, ?_⟩
  rw [show -a - p * (y : Int) = -(a + p * y) by omega]
  exact Int.dvd_neg.mpr hy4
theorem pY_run {a p q : Int64} (ha : a.toInt.natAbs ≤ 9) (hp : p.toInt.natAbs ≤ 9) (h0 : q.toInt ≠ 0) : ∀ (n : Nat) (y : Int64) (Y k : Nat), y.toInt = Y → Y + n ≤ 1000 → k ≤ n → q.toInt ∣ (-a.toInt - p.toInt * ((Y + k : Nat) : Int)) → (∀ i, i < k → ¬ q.toInt ∣ (-a.toInt - p.toInt * ((Y + i : Nat) : Int))) → (pY a p q n y).toInt = ((Y + k : Nat) : Int) ∧ pYT a p q n y := by
  have hq0 : ¬ q = 0 := fun h => h0 (by rw [h]; rfl)
  have ev : ∀ (y : Int64) (Y : Nat), y.toInt = Y → Y ≤ 1000 → ((-a - p * y).toInt = -a.toInt - p.toInt * Y ∧ (((-a - p * y) - (-a - p * y) / q * q = 0) ↔ q.toInt ∣ (-a.toInt - p.toInt * Y))) := by
    intro y Y hy hY
    have m0 := ab_mul (a := p.toInt) (b := (Y : Int)) (A := 9) (B := 1000) (by omega) (by omega) (by omega) (by omega)
    have e1 : (p * y).toInt = p.toInt * Y := by rw [t_mul (by rw [hy]; omega) (by rw [hy]; omega), hy]
    have e2 : (-a).toInt = -a.toInt := t_neg (by omega)
    have e3 : (-a - p * y).toInt = -a.toInt - p.toInt * Y := by rw [t_sub (by rw [e1, e2]; omega) (by rw [e1, e2]; omega), e1, e2]
    refine ⟨e3, ?_⟩
    have ed : ((-a - p * y) / q).toInt = (-a.toInt - p.toInt * Y).tdiv q.toInt := by rw [t_div (by rw [e3]; omega), e3]
    have hab : ((-a.toInt - p.toInt * Y).tdiv q.toInt * q.toInt).natAbs ≤ (-a.toInt - p.toInt * Y).natAbs := by
      rw [Int.natAbs_mul, Int.natAbs_tdiv]; exact Nat.div_mul_le_self _ _
    have em : ((-a - p * y) / q * q).toInt = (-a.toInt - p.toInt * Y).tdiv q.toInt * q.toInt := by
      rw [t_mul (by rw [ed]; omega) (by rw [ed]; omega), ed]
    rw [i64_sub0, ← Int64.toInt_inj, em, e3]
    constructor
    · intro h
      exact ⟨(-a.toInt - p.toInt * Y).tdiv q.toInt, h.trans (Int.mul_comm _ _)⟩
    · intro h
      rw [tdiv_dvd h, Int.ediv_mul_cancel h]
  intro n
  induction n with
  | zero =>
    intro y Y k hy hY hk h1 h2
    obtain rfl : k = 0 := by omega
    refine ⟨hy, fun h => h.2 ((ev y Y hy (by omega)).2.mpr h1)⟩
  | succ n ih =>
    intro y Y k hy hY hk h1 h2
    have e := (ev y Y hy (by omega)).2
    by_cases hz : k = 0
    · subst hz
      have hc : ¬ (¬ q = 0 ∧ ¬ (-a - p * y) - (-a - p * y) / q * q = 0) := fun h => h.2 (e.mpr h1)
      unfold pY pYT
      rw [if_neg hc]
      exact ⟨hy, fun h => absurd h hc⟩
    · have hc : ¬ q = 0 ∧ ¬ (-a - p * y) - (-a - p * y) / q * q = 0 := ⟨hq0, fun h => h2 0 (by omega) (e.mp h)⟩
      unfold pY pYT
      rw [if_pos hc]
      have hy1 : (y + 1).toInt = ((Y + 1 : Nat) : Int) := by rw [t_add (by rw [o64]; omega) (by rw [o64]; omega), o64, hy]; omega
      have := ih (y + 1) (Y + 1) (k - 1) hy1 (by omega) (by omega) (by rw [show Y + 1 + (k - 1) = Y + k by omega]; exact h1) (fun i hi => by rw [show Y + 1 + i = Y + (i + 1) by omega]; exact h2 (i + 1) (by omega))
      rw [show Y + 1 + (k - 1) = Y + k by omega] at this
      exact ⟨this.1, fun _ => this.2⟩
theorem plane {u : TS} {v : MS} (hI : Inv u v) (hn3 : u.1 0 = 3) {a b c : Int64} (ha : a.toInt.natAbs ≤ 9) (hb : b.toInt.natAbs ≤ 9) (hc : c.toInt.natAbs ≤ 9) (hP : Prm3 a.toInt b.toInt c.toInt) (h0 : ¬ (a.toInt = 0 ∧ b.toInt = 0 ∧ c.toInt = 0)) (hK : ∀ y, kA u y ↔ a.toInt * y 0 + b.toInt * y 1 + c.toInt * y 2 = 0) (AL : Nat → Nat → Int64) : okPl a b c ∧ ∃ β, FB u 2 β (plnA 0 a b c AL) := by
  have hn := hI.1.2.1
  have fin : ∀ (X : Nat → Nat → Int64) (f0 f1 f2 s0 s1 s2 : Int) (β0 β1 : Nat), (X 9 (3 * 0 + 0)).toInt = f0 → (X 9 (3 * 0 + 1)).toInt = f1 → (X 9 (3 * 0 + 2)).toInt = f2 → (X 9 (3 * 1 + 0)).toInt = s0 → (X 9 (3 * 1 + 1)).toInt = s1 → (X 9 (3 * 1 + 2)).toInt = s2 → HB (u.1 0) 2 (fun k => if k = 0 then β0 else β1) (fun k j => (X 9 (3 * k + j)).toInt) (kA u) → f0.natAbs ≤ 162 → f1.natAbs ≤ 162 → f2.natAbs ≤ 162 → s0.natAbs ≤ 162 → s1.natAbs ≤ 162 → s2.natAbs ≤ 162 → FB u 2 (fun k => if k = 0 then β0 else β1) X := by
    intro X f0 f1 f2 s0 s1 s2 β0 β1 e0 e1 e2 e3 e4 e5 h q0 q1 q2 q3 q4 q5
    refine ⟨by omega, h, fb_lead hn h, fun k hk j hj => ?_⟩
    obtain rfl | rfl : k = 0 ∨ k = 1 := by omega
    · obtain rfl | rfl | rfl : j = 0 ∨ j = 1 ∨ j = 2 := by omega
      · rw [e0]; exact q0
      · rw [e1]; exact q1
      · rw [e2]; exact q2
    · obtain rfl | rfl | rfl : j = 0 ∨ j = 1 ∨ j = 2 := by omega
      · rw [e3]; exact q3
      · rw [e4]; exact q4
      · rw [e5]; exact q5
  by_cases hbc : b = 0 ∧ c = 0
  · refine ⟨fun h => absurd hbc h, ?_⟩
    unfold plnA
    rw [if_pos hbc]
    have hb0 : b.toInt = 0 := by rw [hbc.1]; rfl
    have hc0 : c.toInt = 0 := by rw [hbc.2]; rfl
    have ha0 : a.toInt ≠ 0 := fun h => h0 ⟨h, hb0, hc0⟩
    obtain ⟨c0, c1, c2, c3⟩ := memb_at 0 0 1 0 AL
    obtain ⟨d0, d1, d2, d3⟩ := memb_at (0 + 1) 0 0 1 (memb 0 0 1 0 AL)
    obtain ⟨X, hX⟩ : ∃ X, X = memb (0 + 1) 0 0 1 (memb 0 0 1 0 AL) := ⟨_, rfl⟩
    rw [← hX] at d0 d1 d2 d3 ⊢
    have e0 : (X 9 (3 * 0 + 0)).toInt = 0 := by rw [d3 9 _ (.inr (by omega)), c0]; rfl
    have e1 : (X 9 (3 * 0 + 1)).toInt = 1 := by rw [d3 9 _ (.inr (by omega)), c1]; rfl
    have e2 : (X 9 (3 * 0 + 2)).toInt = 0 := by rw [d3 9 _ (.inr (by omega)), c2]; rfl
    have e3 : (X 9 (3 * 1 + 0)).toInt = 0 := by rw [show 3 * 1 + 0 = 3 * (0 + 1) + 0 by omega, d0]; rfl
    have e4 : (X 9 (3 * 1 + 1)).toInt = 0 := by rw [show 3 * 1 + 1 = 3 * (0 + 1) + 1 by omega, d1]; rfl
    have e5 : (X 9 (3 * 1 + 2)).toInt = 1 := by rw [show 3 * 1 + 2 = 3 * (0 + 1) + 2 by omega, d2]; rfl
    refine ⟨_, fin X _ _ _ _ _ _ 1 2 e0 e1 e2 e3 e4 e5 ?_ (by decide) (by decide) (by decide) (by decide) (by decide) (by decide)⟩
    refine hb_two hn3 (by omega) (by omega) (by rw [e1]; omega) (by rw [e5]; omega) (lt1 e0) (lt2 e3 e4) (by rw [e2, e5]; omega) ((hK _).mpr ?_) ((hK _).mpr ?_) (fun y hy => ?_)
    · rw [e0, e1, e2, hb0]; omega
    · rw [e3, e4, e5, hc0]; omega
    · have hy := (hK y).mp hy
      rw [hb0, hc0] at hy
      have y0 : y 0 = 0 := by
        rcases Int.mul_eq_zero.mp (show a.toInt * y 0 = 0 by omega) with q | q
        · exact absurd q ha0
        · exact q
      exact ⟨y 1, y 2, by rw [e0, e3, y0]; omega, by rw [e1, e4]; omega, by rw [e2, e5]; omega⟩
  · have hbc' : ¬ (b.toInt = 0 ∧ c.toInt = 0) := fun h => hbc ⟨Int64.toInt_inj.mp (h.1.trans z64.symm), Int64.toInt_inj.mp (h.2.trans z64.symm)⟩
    have eG := dv_gcd (x := b) (y := c) (by omega) (by omega)
    have oG := okD_all (x := b) (y := c) (by omega) (by omega)
    obtain ⟨G, hG⟩ : ∃ G : Int, G = (dv64 b c).toInt := ⟨_, rfl⟩
    have hGpos : 0 < G := by
      rw [hG, eG]
      have : Int.gcd b.toInt c.toInt ≠ 0 := fun h => hbc' (Int.gcd_eq_zero_iff.mp h)
      omega
    have dB : (dv64 b c).toInt ∣ b.toInt := by rw [eG]; exact Int.gcd_dvd_left ..
    have dC : (dv64 b c).toInt ∣ c.toInt := by rw [eG]; exact Int.gcd_dvd_right ..
    have eb : b.toInt = G * (pP b c).toInt := by rw [hG]; exact ex_div (by omega) dB
    have ec : c.toInt = G * (pQ b c).toInt := by rw [hG]; exact ex_div (by omega) dC
    have hPb := abs_div eb (by omega) hb
    have hQb := abs_div ec (by omega) hc
    have hGb : G.natAbs ≤ 9 := by
      by_cases h : b.toInt = 0
      · have hc1 : c.toInt ≠ 0 := fun h' => hbc' ⟨h, h'⟩
        exact abs_div (h := (pQ b c).toInt) (by rw [ec, Int.mul_comm]) (fun h' => hc1 (by rw [ec, h', Int.mul_zero])) hc
      · exact abs_div (h := (pP b c).toInt) (by rw [eb, Int.mul_comm]) (fun h' => h (by rw [eb, h', Int.mul_zero])) hb
    have hcop : Int.gcd (pP b c).toInt (pQ b c).toInt = 1 := by
      have h1 : G = (Int.gcd (G * (pP b c).toInt) (G * (pQ b c).toInt) : Int) := by rw [← eb, ← ec, hG, eG]
      rw [Int.gcd_mul_left] at h1
      have h2 : G.natAbs * 1 = G.natAbs * Int.gcd (pP b c).toInt (pQ b c).toInt := by omega
      exact (Nat.eq_of_mul_eq_mul_left (by omega) h2).symm
    have hGy : ∀ y : Nat → Int, kA u y → ∃ t, y 0 = G * t ∧ a.toInt * t + (pP b c).toInt * y 1 + (pQ b c).toInt * y 2 = 0 := by
      intro y hy
      have hy := (hK y).mp hy
      obtain ⟨t, ht⟩ := hP G (y 0) ⟨-((pP b c).toInt * y 1 + (pQ b c).toInt * y 2), by rw [eb, ec] at hy; grind⟩ ⟨y 0 * (pP b c).toInt, by rw [eb]; grind⟩ ⟨y 0 * (pQ b c).toInt, by rw [ec]; grind⟩
      refine ⟨t, ht, ?_⟩
      have : G * (a.toInt * t + (pP b c).toInt * y 1 + (pQ b c).toInt * y 2) = 0 := by rw [eb, ec, ht] at hy; grind
      rcases Int.mul_eq_zero.mp this with q | q
      · omega
      · exact q
    by_cases hQ0 : pQ b c = 0
    · have hQ0' : (pQ b c).toInt = 0 := by rw [hQ0]; rfl
      have hPu : (pP b c).toInt = 1 ∨ (pP b c).toInt = -1 := by
        rw [hQ0', Int.gcd_zero_right] at hcop
        omega
      have hP0 : (pP b c).toInt ≠ 0 := by omega
      have na : (-a).toInt = -a.toInt := t_neg (by omega)
      have eY : (pY0 a b c).toInt * (pP b c).toInt = -a.toInt := by
        unfold pY0
        rw [if_pos hQ0]
        have hdv : (pP b c).toInt ∣ (-a).toInt := by
          rw [na]
          rcases hPu with h | h
          · rw [h]; exact Int.one_dvd _
          · rw [h]; exact ⟨a.toInt, by omega⟩
        have := ex_div (x := -a) (h := pP b c) (by rw [na]; omega) hdv
        rw [na] at this
        rw [Int.mul_comm]; exact this.symm
      have eYf : pYf a b c = pY0 a b c := by
        unfold pYf
        rw [show (20 : Nat) = 19 + 1 from rfl]
        unfold pY
        rw [if_neg (fun h => h.1 hQ0)]
      refine ⟨fun _ => ⟨oG, fun h => by rw [h, z64] at hG; omega, fun _ h => hP0 (by rw [h]; rfl), ?_⟩, ?_⟩
      · rw [show (20 : Nat) = 19 + 1 from rfl]
        unfold pYT
        exact fun h => absurd hQ0 h.1
      · unfold plnA
        rw [if_neg hbc, if_pos hQ0]
        unfold pl1
        rw [if_pos hQ0, eYf]
        obtain ⟨c0, c1, c2, c3⟩ := memb_at 0 (dv64 b c) (pY0 a b c) 0 AL
        obtain ⟨d0, d1, d2, d3⟩ := memb_at (0 + 1) 0 0 1 (memb 0 (dv64 b c) (pY0 a b c) 0 AL)
        obtain ⟨X, hX⟩ : ∃ X, X = memb (0 + 1) 0 0 1 (memb 0 (dv64 b c) (pY0 a b c) 0 AL) := ⟨_, rfl⟩
        rw [← hX] at d0 d1 d2 d3 ⊢
        have e0 : (X 9 (3 * 0 + 0)).toInt = G := by rw [d3 9 _ (.inr (by omega)), c0, hG]
        have e1 : (X 9 (3 * 0 + 1)).toInt = (pY0 a b c).toInt := by rw [d3 9 _ (.inr (by omega)), c1]
        have e2 : (X 9 (3 * 0 + 2)).toInt = 0 := by rw [d3 9 _ (.inr (by omega)), c2]; rfl
        have e3 : (X 9 (3 * 1 + 0)).toInt = 0 := by rw [show 3 * 1 + 0 = 3 * (0 + 1) + 0 by omega, d0]; rfl
        have e4 : (X 9 (3 * 1 + 1)).toInt = 0 := by rw [show 3 * 1 + 1 = 3 * (0 + 1) + 1 by omega, d1]; rfl
        have e5 : (X 9 (3 * 1 + 2)).toInt = 1 := by rw [show 3 * 1 + 2 = 3 * (0 + 1) + 2 by omega, d2]; rfl
        refine ⟨_, fin X _ _ _ _ _ _ 0 2 e0 e1 e2 e3 e4 e5 ?_ (by omega) ?_ (by decide) (by decide) (by decide) (by decide)⟩
        · refine hb_two hn3 (by omega) (by omega) (by rw [e0]; omega) (by rw [e5]; omega) (fun j hj => absurd hj (by omega)) (lt2 e3 e4) (by rw [e2, e5]; omega) ((hK _).mpr ?_) ((hK _).mpr ?_) (fun y hy => ?_)
          · rw [e0, e1, e2, eb]
            have : G * ((pY0 a b c).toInt * (pP b c).toInt) = G * -a.toInt := by rw [eY]
            grind
          · rw [e3, e4, e5, ec, hQ0']; omega
          · obtain ⟨t, ht, h2⟩ := hGy y hy
            refine ⟨t, y 2, by rw [e0, e3, ht]; omega, ?_, by rw [e2, e5]; omega⟩
            rw [e1, e4, hQ0'] at *
            have : (pP b c).toInt * y 1 = (pP b c).toInt * ((pY0 a b c).toInt * t + 0 * y 2) := by grind
            exact Int.eq_of_mul_eq_mul_left hP0 this
        · rcases hPu with h | h
          · rw [h] at eY; omega
          · rw [h] at eY; omega
    · have hQ0' : (pQ b c).toInt ≠ 0 := fun h => hQ0 (Int64.toInt_inj.mp (h.trans z64.symm))
      have eY0 : pY0 a b c = 0 := by unfold pY0; rw [if_neg hQ0]
      obtain ⟨y0, hy0, hy1⟩ := res_int ha hPb hQb hQ0' hcop
      obtain ⟨k, hk1, hk2, hk3⟩ : ∃ k : Nat, k < (pQ b c).toInt.natAbs ∧ (pQ b c).toInt ∣ (-a.toInt - (pP b c).toInt * (k : Int)) ∧ ∀ i : Nat, i < k → ¬ (pQ b c).toInt ∣ (-a.toInt - (pP b c).toInt * (i : Int)) := by
        cases hf : fnd (fun k : Nat => (pQ b c).toInt ∣ (-a.toInt - (pP b c).toInt * (k : Int))) (pQ b c).toInt.natAbs 0 with
        | none => exact absurd hy1 (fnd_none hf y0 (Nat.zero_le _) (by omega))
        | some k =>
          obtain ⟨_, g2, g3, g4⟩ := fnd_some hf
          exact ⟨k, by omega, g3, fun i hi => g4 i (Nat.zero_le _) hi⟩
      obtain ⟨eY, oY⟩ := pY_run (a := a) (p := pP b c) (q := pQ b c) ha hPb hQ0' 20 (pY0 a b c) 0 k (by rw [eY0]; rfl) (by omega) (by omega) (by rw [Nat.zero_add]; exact hk2) (fun i hi => by rw [Nat.zero_add]; exact hk3 i hi)
      rw [Nat.zero_add] at eY
      refine ⟨fun _ => ⟨oG, fun h => by rw [h, z64] at hG; omega, fun h => absurd h hQ0, oY⟩, ?_⟩
      unfold plnA
      rw [if_neg hbc, if_neg hQ0]
      unfold pl1
      rw [if_neg hQ0]
      obtain ⟨Y, hY⟩ : ∃ Y, Y = pYf a b c := ⟨_, rfl⟩
      have eY : Y.toInt = (k : Int) := by rw [hY]; exact eY
      rw [← hY]
      have hkb : (k : Int) ≤ 8 := by omega
      have m0 := ab_mul (a := (pP b c).toInt) (b := (k : Int)) (A := 9) (B := 8) (by omega) (by omega) (by omega) (by omega)
      have m1 : (pP b c * Y).toInt = (pP b c).toInt * k := by rw [t_mul (by rw [eY]; omega) (by rw [eY]; omega), eY]
      have na : (-a).toInt = -a.toInt := t_neg (by omega)
      have m2 : (-a - pP b c * Y).toInt = -a.toInt - (pP b c).toInt * k := by rw [t_sub (by rw [na, m1]; omega) (by rw [na, m1]; omega), na, m1]
      have eZ := ex_div (x := -a - pP b c * Y) (h := pQ b c) (by rw [m2]; omega) (by rw [m2]; exact hk2)
      rw [m2] at eZ
      obtain ⟨Z, hZ⟩ : ∃ Z, Z = (-a - pP b c * Y) / pQ b c := ⟨_, rfl⟩
      rw [← hZ] at eZ ⊢
      have hZb : Z.toInt.natAbs ≤ 162 := abs_div eZ hQ0' (by omega)
      have eM : (pM b c).toInt = (pQ b c).toInt.natAbs := by
        unfold pM
        by_cases h : pQ b c < 0
        · rw [if_pos h, t_neg (by omega)]
          rw [i64l, z64] at h; omega
        · rw [if_neg h]
          rw [i64l, z64] at h; omega
      have eW : ((if pQ b c < 0 then pP b c else -pP b c) : Int64).toInt = if (pQ b c).toInt < 0 then (pP b c).toInt else -(pP b c).toInt := by
        by_cases h : pQ b c < 0
        · rw [if_pos h]; rw [i64l, z64] at h; rw [if_pos h]
        · rw [if_neg h]; rw [i64l, z64] at h; rw [if_neg h, t_neg (by omega)]
      obtain ⟨c0, c1, c2, c3⟩ := memb_at 0 (dv64 b c) Y Z AL
      obtain ⟨d0, d1, d2, d3⟩ := memb_at (0 + 1) 0 (pM b c) (if pQ b c < 0 then pP b c else -pP b c) (memb 0 (dv64 b c) Y Z AL)
      obtain ⟨X, hX⟩ : ∃ X, X = memb (0 + 1) 0 (pM b c) (if pQ b c < 0 then pP b c else -pP b c) (memb 0 (dv64 b c) Y Z AL) := ⟨_, rfl⟩
      rw [← hX] at d0 d1 d2 d3 ⊢
      have e0 : (X 9 (3 * 0 + 0)).toInt = G := by rw [d3 9 _ (.inr (by omega)), c0, hG]
      have e1 : (X 9 (3 * 0 + 1)).toInt = (k : Int) := by rw [d3 9 _ (.inr (by omega)), c1, eY]
      have e2 : (X 9 (3 * 0 + 2)).toInt = Z.toInt := by rw [d3 9 _ (.inr (by omega)), c2]
      have e3 : (X 9 (3 * 1 + 0)).toInt = 0 := by rw [show 3 * 1 + 0 = 3 * (0 + 1) + 0 by omega, d0]; rfl
      have e4 : (X 9 (3 * 1 + 1)).toInt = (pQ b c).toInt.natAbs := by rw [show 3 * 1 + 1 = 3 * (0 + 1) + 1 by omega, d1, eM]
      have e5 : (X 9 (3 * 1 + 2)).toInt = if (pQ b c).toInt < 0 then (pP b c).toInt else -(pP b c).toInt := by rw [show 3 * 1 + 2 = 3 * (0 + 1) + 2 by omega, d2, eW]
      refine ⟨_, fin X _ _ _ _ _ _ 0 1 e0 e1 e2 e3 e4 e5 ?_ (by omega) (by omega) hZb (by decide) (by omega) ?_⟩
      · refine hb_two hn3 (by omega) (by omega) (by rw [e0]; omega) (by rw [e4]; omega) (fun j hj => absurd hj (by omega)) (lt1 e3) (by rw [e1, e4]; omega) ((hK _).mpr ?_) ((hK _).mpr ?_) (fun y hy => ?_)
        · rw [e0, e1, e2, eb, ec]
          grind
        · rw [e3, e4, e5, eb, ec]
          by_cases h : (pQ b c).toInt < 0
          · rw [if_pos h, show (((pQ b c).toInt.natAbs : Nat) : Int) = -(pQ b c).toInt by omega]; grind
          · rw [if_neg h, show (((pQ b c).toInt.natAbs : Nat) : Int) = (pQ b c).toInt by omega]; grind
        · obtain ⟨t, ht, h2⟩ := hGy y hy
          have h3 : (pP b c).toInt * (y 1 - k * t) + (pQ b c).toInt * (y 2 - Z.toInt * t) = 0 := by grind
          obtain ⟨s, hs⟩ := dvd_cop (d := (pQ b c).toInt) (c := (pP b c).toInt) (b := y 1 - k * t) ⟨-(y 2 - Z.toInt * t), by grind⟩ (by rw [Int.gcd_comm]; exact hcop)
          have h4 : (pQ b c).toInt * (y 2 - Z.toInt * t) = (pQ b c).toInt * (-(pP b c).toInt * s) := by rw [hs] at h3; grind
          have h5 := Int.eq_of_mul_eq_mul_left hQ0' h4
          by_cases h : (pQ b c).toInt < 0
          · refine ⟨t, -s, by rw [e0, e3, ht]; omega, ?_, ?_⟩
            · rw [e1, e4, show (((pQ b c).toInt.natAbs : Nat) : Int) = -(pQ b c).toInt by omega]; grind
            · rw [e2, e5, if_pos h]; grind
          · refine ⟨t, s, by rw [e0, e3, ht]; omega, ?_, ?_⟩
            · rw [e1, e4, show (((pQ b c).toInt.natAbs : Nat) : Int) = (pQ b c).toInt by omega]; grind
            · rw [e2, e5, if_neg h]; grind
      · by_cases h : (pQ b c).toInt < 0
        · rw [if_pos h]; omega
        · rw [if_neg h]; omega
theorem fb_1 {u : TS} {v : MS} (hI : Inv u v) (hn3 : u.1 0 = 3) (hd : (E9 u).1 = 1) (AL : Nat → Nat → Int64) : (okD (nbr (lk9 v).2.1 v.2.2.2.1 0 1) (nbr (lk9 v).2.1 v.2.2.2.1 0 2) ∧ okD (nbr (lk9 v).2.1 v.2.2.2.1 0 0) (dv64 (nbr (lk9 v).2.1 v.2.2.2.1 0 1) (nbr (lk9 v).2.1 v.2.2.2.1 0 2)) ∧ ¬ lnG (nbr (lk9 v).2.1 v.2.2.2.1 0 0) (nbr (lk9 v).2.1 v.2.2.2.1 0 1) (nbr (lk9 v).2.1 v.2.2.2.1 0 2) = 0 ∧ okPl (nbr (lk9 v).2.1 v.2.2.2.1 0 0 / lnG (nbr (lk9 v).2.1 v.2.2.2.1 0 0) (nbr (lk9 v).2.1 v.2.2.2.1 0 1) (nbr (lk9 v).2.1 v.2.2.2.1 0 2)) (nbr (lk9 v).2.1 v.2.2.2.1 0 1 / lnG (nbr (lk9 v).2.1 v.2.2.2.1 0 0) (nbr (lk9 v).2.1 v.2.2.2.1 0 1) (nbr (lk9 v).2.1 v.2.2.2.1 0 2)) (nbr (lk9 v).2.1 v.2.2.2.1 0 2 / lnG (nbr (lk9 v).2.1 v.2.2.2.1 0 0) (nbr (lk9 v).2.1 v.2.2.2.1 0 1) (nbr (lk9 v).2.1 v.2.2.2.1 0 2))) ∧ ∃ β, FB u 2 β (plnA 0 (nbr (lk9 v).2.1 v.2.2.2.1 0 0 / lnG (nbr (lk9 v).2.1 v.2.2.2.1 0 0) (nbr (lk9 v).2.1 v.2.2.2.1 0 1) (nbr (lk9 v).2.1 v.2.2.2.1 0 2)) (nbr (lk9 v).2.1 v.2.2.2.1 0 1 / lnG (nbr (lk9 v).2.1 v.2.2.2.1 0 0) (nbr (lk9 v).2.1 v.2.2.2.1 0 1) (nbr (lk9 v).2.1 v.2.2.2.1 0 2)) (nbr (lk9 v).2.1 v.2.2.2.1 0 2 / lnG (nbr (lk9 v).2.1 v.2.2.2.1 0 0) (nbr (lk9 v).2.1 v.2.2.2.1 0 1) (nbr (lk9 v).2.1 v.2.2.2.1 0 2)) AL) := by
  obtain ⟨g1, g2, g3, g4, ⟨g5, g6⟩, g7, g8⟩ := lk_pack hI
  obtain ⟨h1, _⟩ := eq_pack hI
  obtain ⟨p0, l0, u0⟩ := nbr_int hI (r := 0) (c := 0) (by omega) (by omega)
  obtain ⟨p1, l1, u1⟩ := nbr_int hI (r := 0) (c := 1) (by omega) (by omega)
  obtain ⟨p2, l2, u2⟩ := nbr_int hI (r := 0) (c := 2) (by omega) (by omega)
  obtain ⟨x, hx⟩ : ∃ x, x = nbr (lk9 v).2.1 v.2.2.2.1 0 0 := ⟨_, rfl⟩
  obtain ⟨y, hy⟩ : ∃ y, y = nbr (lk9 v).2.1 v.2.2.2.1 0 1 := ⟨_, rfl⟩
  obtain ⟨z, hz⟩ : ∃ z, z = nbr (lk9 v).2.1 v.2.2.2.1 0 2 := ⟨_, rfl⟩
  rw [← hx] at p0 ⊢
  rw [← hy] at p1 ⊢
  rw [← hz] at p2 ⊢
  have hne : ¬ (x.toInt = 0 ∧ y.toInt = 0 ∧ z.toInt = 0) := by
    rintro ⟨q1, q2, q3⟩
    rw [p0] at q1
    rw [p1] at q2
    rw [p2] at q3
    refine g6 ?_
    rw [hd, dz_1]
    have := h1.2.2.1 0 (by omega)
    obtain e | e | e : (E9 u).2.1 5 0 = 0 ∨ (E9 u).2.1 5 0 = 1 ∨ (E9 u).2.1 5 0 = 2 := by omega
    · rw [e]; exact q1
    · rw [e]; exact q2
    · rw [e]; exact q3
  obtain ⟨eg, o1, o2⟩ := lnG_int (x := x) (y := y) (z := z) (by omega) (by omega) (by omega)
  have hp := g3_pos hne
  obtain ⟨d1, d2, d3⟩ := g3_dvd (x := x.toInt) (y := y.toInt) (z := z.toInt)
  rw [← eg] at hp d1 d2 d3
  have ex := ex_div (x := x) (by omega) d1
  have ey := ex_div (x := y) (by omega) d2
  have ez := ex_div (x := z) (by omega) d3
  have hP := gcd_p3 (.inl eg) (by omega) ex ey ez
  have hK : ∀ w : Nat → Int, kA u w ↔ (x / lnG x y z).toInt * w 0 + (y / lnG x y z).toInt * w 1 + (z / lnG x y z).toInt * w 2 = 0 := fun w => by
    rw [ka_iff hI, hd, hn3]
    have key : dt (aU u (lR v 0)) w 3 0 = (lnG x y z).toInt * ((x / lnG x y z).toInt * w 0 + (y / lnG x y z).toInt * w 1 + (z / lnG x y z).toInt * w 2) := by
      simp only [dt, Nat.zero_add, Nat.reduceAdd]
      rw [← p0, ← p1, ← p2]
      grind
    constructor
    · intro h
      have := h 0 (by omega)
      rw [key] at this
      rcases Int.mul_eq_zero.mp this with q | q
      · omega
      · exact q
    · intro h r hr
      obtain rfl : r = 0 := by omega
      rw [key, h, Int.mul_zero]
  have hpl := plane hI hn3 (a := x / lnG x y z) (b := y / lnG x y z) (c := z / lnG x y z) (abs_div ex (by omega) (by omega)) (abs_div ey (by omega) (by omega)) (abs_div ez (by omega) (by omega)) hP (fun ⟨q1, q2, q3⟩ => hne ⟨by rw [ex, q1, Int.mul_zero], by rw [ey, q2, Int.mul_zero], by rw [ez, q3, Int.mul_zero]⟩) hK AL
  exact ⟨⟨o1, o2, fun h => by rw [h, z64] at hp; omega, hpl.1⟩, hpl.2⟩
