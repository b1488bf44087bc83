/-! ===== ticks ===== -/
def evk (f : Nat → Int32) (k : Nat) : Nat → Int32 := fun x => if x = 7 then f 7 + oN k else f x
def PI (j k : Nat) (a : KS) (b : MS) : Prop := RTs a b ∧ RDx (evk (Khi a 13) k) (Mhi b 120) j a b ∧ RGs a b ∧ RPs a b ∧ RBs a b
theorem mode0x {j : Nat} {a : KS} {b : MS} {ev mev : Nat → Int32} (h : RDx ev mev j a b) : RDx ev mev j (sKhi a 10 6 0) (sMhi b 100 10 0) := by
  have n01 : ¬ (0 : Int32) = 1 := by decide
  obtain ⟨⟨s, c, e1, e2, e3, e4, e5, e6, e7, e8, e9⟩, d2, dr⟩ := h
  exact ⟨⟨s, c, e1, e2, e3, e4, e5, e6, e7, fun z => absurd rfl z, fun z => absurd z n01⟩, ⟨rfl, Or.inl rfl⟩, dr⟩
theorem pass_C {j k : Nat} {a : KS} {b : MS} (h : PI j k a b) (c : Int32) : ∃ (d : Int32) (a' : KS) (b' : MS), f_X2_passTick_56 a c = some (c + d, a') ∧ (∀ c4 v1 v2 v3, f_X9_ticksPass_79 c4 b v1 v2 v3 = c4 b' v1 (v2 + d) (v3 + 1)) ∧ PI j k a' b' ∧ Mhi b' 100 0 = Mhi b 100 0 ∧ Khi a' 10 10 = Khi a 10 10 := by
  have hI := h
  obtain ⟨hT, hD, hG, hP, hX⟩ := h
  have hh := home_eq hT hD
  obtain ⟨g0, ev0, r1, r2, r3, r4, r5, r6, r7, r8, r9, r10, r11, r12⟩ := goHome_eq hT hD hG hP hX
  obtain ⟨dA, dB, dC, dD, ⟨q, q1, q2, q3⟩, dF, dG, dH, ⟨-, ⟨se1, -⟩, -⟩, dJ⟩ := hD
  have b1 : inb 1 3 = true := by decide
  have c1 : (1 : Int32).toNatClampNeg = 1 := rfl
  have kK : f_X2_setting a 1 = some (Khi a 12 1) := rfl
  have eid : Khi a 10 10 = Mhi b 100 16 := q2.trans q3.symm
  by_cases g : Khi a 10 10 = Khi a 12 1
  · have g' : Mhi b 100 16 = Mhi b 119 1 := by rw [← eid, ← se1]; exact g
    rcases hh with ⟨m1, m2, -⟩ | ⟨m1, m2, -⟩
    · refine ⟨0, a, b, ?_, fun c4 v1 v2 v3 => ?_, hI, rfl, rfl⟩
      · unfold f_X2_passTick_56
        rw [kK, bs, if_neg (fun z => z g), m1, bs, if_pos n10, Int32.add_zero]
      · unfold f_X9_ticksPass_79 f_X9_ticksPass_106
        rw [gd_t b1, c1, if_neg (fun z => z g'), m2, bs, if_pos n10, Int32.add_zero]
    · refine ⟨1, g0, ev0, ?_, fun c4 v1 v2 v3 => ?_, ⟨r3, ?_, r5, r6, r7⟩, r10, r12⟩
      · unfold f_X2_passTick_56
        rw [kK, bs, if_neg (fun z => z g), m1, bs, if_neg nn00, r1, bs]
      · unfold f_X9_ticksPass_79 f_X9_ticksPass_106
        rw [gd_t b1, c1, if_neg (fun z => z g'), m2, bs, if_neg nn00, r2, bs]
      · rw [r8, r9]; exact r4
  · have g' : ¬ Mhi b 100 16 = Mhi b 119 1 := by rw [← eid, ← se1]; exact g
    refine ⟨0, a, b, ?_, fun c4 v1 v2 v3 => ?_, hI, rfl, rfl⟩
    · unfold f_X2_passTick_56
      rw [kK, bs, if_pos g, Int32.add_zero]
    · unfold f_X9_ticksPass_79 f_X9_ticksPass_106
      rw [gd_t b1, c1, if_pos g', Int32.add_zero]
theorem pass_B {j k : Nat} {a : KS} {b : MS} (h : PI j k a b) : ∃ (d : Int32) (a' : KS) (b' : MS), f_X2_passTick_29 a 0 = some (d, a') ∧ (∀ c4 b0 v1 v2 v3 s1 s2, sMhi b0 100 17 (s1 - s2) = b → f_X9_ticksPass_47 c4 b0 v1 v2 v3 s1 s2 = c4 b' v1 (v2 + d) (v3 + 1)) ∧ PI j k a' b' ∧ Mhi b' 100 0 = Mhi b 100 0 ∧ Khi a' 10 10 = Khi a 10 10 := by
  have hI := h
  obtain ⟨hT, hD, hG, hP, hX⟩ := h
  have hM : PI j k (sKhi a 10 6 0) (sMhi b 100 10 0) := ⟨hT, mode0x hD, hG, hP, hX⟩
  obtain ⟨dA, ⟨dm, -⟩, dC, dD, ⟨q, q1, q2, q3⟩, dF, dG, dH, ⟨⟨se0, -⟩, -⟩, dJ⟩ := hD
  have b1 : inb 0 3 = true := by decide
  have c1 : (0 : Int32).toNatClampNeg = 0 := rfl
  have kK : f_X2_setting a 0 = some (Khi a 12 0) := rfl
  have eid : Khi a 10 10 = Mhi b 100 16 := q2.trans q3.symm
  obtain ⟨d, a', b', r1, r2, r3, r4, r5⟩ := pass_C hI 0
  obtain ⟨e, a2, b2, s1, s2, s3, s4, s5⟩ := pass_C hM (0 + 1)
  by_cases g : Khi a 10 10 = Khi a 12 0
  · have g' : Mhi b 100 16 = Mhi b 119 0 := by rw [← eid, ← se0]; exact g
    by_cases m : Khi a 10 6 = 0
    · have m' : Mhi b 100 10 = 0 := by rw [← dm]; exact m
      refine ⟨0 + d, a', b', ?_, fun c4 b0 v1 v2 v3 x1 x2 hb => ?_, r3, r4, r5⟩
      · unfold f_X2_passTick_29
        rw [kK, bs, if_neg (fun z => z g), if_pos m, r1]
      · unfold f_X9_ticksPass_47
        rw [hb, gd_t b1, c1, if_neg (fun z => z g'), if_pos m', r2, Int32.zero_add]
    · have m' : ¬ Mhi b 100 10 = 0 := by rw [← dm]; exact m
      refine ⟨0 + 1 + e, a2, b2, ?_, fun c4 b0 v1 v2 v3 x1 x2 hb => ?_, s3, s4, s5⟩
      · unfold f_X2_passTick_29
        rw [kK, bs, if_neg (fun z => z g), if_neg m, s1]
      · unfold f_X9_ticksPass_47
        rw [hb, gd_t b1, c1, if_neg (fun z => z g'), if_neg m', s2, Int32.zero_add, Int32.add_assoc]
  · have g' : ¬ Mhi b 100 16 = Mhi b 119 0 := by rw [← eid, ← se0]; exact g
    refine ⟨0 + d, a', b', ?_, fun c4 b0 v1 v2 v3 x1 x2 hb => ?_, r3, r4, r5⟩
    · unfold f_X2_passTick_29
      rw [kK, bs, if_pos g, r1]
    · unfold f_X9_ticksPass_47
      rw [hb, gd_t b1, c1, if_pos g', r2, Int32.zero_add]
theorem pass_S {j k B : Nat} {a : KS} {b : MS} (hB : B + 1 ≤ 2000 * j) (h : PI j k a b) (hq : ∃ q, q ≤ B ∧ Khi a 10 10 = oN q) : ∃ (d : Int32) (a' : KS) (b' : MS), f_X2_passTick a = some (d, a') ∧ (∀ c4 v1 v2 v3, ¬ v1 ≤ v3 → f_X9_ticksPass_4 c4 b v1 v2 v3 = c4 b' v1 (v2 + d) (v3 + 1)) ∧ PI j (k + 1) a' b' ∧ (∃ q, q ≤ B + 1 ∧ Khi a' 10 10 = oN q) ∧ Mhi b' 100 0 = Mhi b 100 0 := by
  obtain ⟨hT, ⟨dA, dB, dC, dD, ⟨q, q1, q2, q3⟩, ⟨w, w1, w2, w3⟩, dG, dH, dI, dJ⟩, hG, hP, hX⟩ := h
  obtain ⟨q', x1, x2⟩ := hq
  have i1 : Khi a 10 10 + 1 = oN (q' + 1) := by rw [x2, oN_succ]
  have i2 : Mhi b 100 16 + 1 = oN (q' + 1) := by rw [q3, ← q2, x2, oN_succ]
  have b7 : inb 7 8 = true := by decide
  have c7 : (7 : Int32).toNatClampNeg = 7 := rfl
  have evs : ∀ x, x < 8 → evk (Khi a 13) (k + 1) x = Mhi (sMhi b 120 7 (Mhi b 120 7 + 1)) 120 x := by
    intro x hx
    rw [Mhi_s, ← dJ x hx]
    unfold evk
    by_cases g : x = 7
    · subst g
      rw [if_pos rfl, if_pos rfl, ← dJ 7 (by decide)]
      show _ = Khi a 13 7 + oN k + 1
      rw [Int32.add_assoc, oN_succ]
    · rw [if_neg g, if_neg g, if_neg g]
  by_cases g : oN w ≤ 0
  · have hI : PI j (k + 1) (sKhi a 10 10 (oN (q' + 1))) (sMhi (sMhi (sMhi b 100 16 (oN (q' + 1))) 120 7 (Mhi b 120 7 + 1)) 100 17 (oN w - 0)) :=
      ⟨hT, ⟨dA, dB, dC, dD, ⟨q' + 1, by omega, rfl, rfl⟩, ⟨w, w1, w2, Int32.sub_zero _⟩, dG, dH, dI, evs⟩, hG, hP, hX⟩
    obtain ⟨d, a', b', r1, r2, r3, r4, r5⟩ := pass_B hI
    refine ⟨d, a', b', ?_, fun c4 v1 v2 v3 hv => ?_, r3, ⟨q' + 1, by omega, r5⟩, r4⟩
    · unfold f_X2_passTick
      rw [i1, show Khi (sKhi a 10 10 (oN (q' + 1))) 10 11 = Khi a 10 11 from rfl, w2, if_pos g]
      exact r1
    · unfold f_X9_ticksPass_4
      rw [if_neg hv, gd_t b7, gd_t b7, i2, c7, show Mhi (sMhi (sMhi b 100 16 (oN (q' + 1))) 120 7 (Mhi (sMhi b 100 16 (oN (q' + 1))) 120 7 + 1)) 100 17 = Mhi b 100 17 from rfl, w3, if_pos g]
      exact r2 c4 _ v1 v2 v3 _ _ rfl
  · have hw : 1 ≤ w := by
      rcases Nat.eq_zero_or_pos w with z | z
      · subst z; exact absurd (Int32.le_refl 0) g
      · exact z
    have hI : PI j (k + 1) (sKhi (sKhi a 10 10 (oN (q' + 1))) 10 11 (oN w - 1)) (sMhi (sMhi (sMhi b 100 16 (oN (q' + 1))) 120 7 (Mhi b 120 7 + 1)) 100 17 (oN w - 1)) :=
      ⟨hT, ⟨dA, dB, dC, dD, ⟨q' + 1, by omega, rfl, rfl⟩, ⟨w - 1, by omega, oN_pred hw, oN_pred hw⟩, dG, dH, dI, evs⟩, hG, hP, hX⟩
    obtain ⟨d, a', b', r1, r2, r3, r4, r5⟩ := pass_B hI
    refine ⟨d, a', b', ?_, fun c4 v1 v2 v3 hv => ?_, r3, ⟨q' + 1, by omega, r5⟩, r4⟩
    · unfold f_X2_passTick
      rw [i1, show Khi (sKhi a 10 10 (oN (q' + 1))) 10 11 = Khi a 10 11 from rfl, w2, if_neg g]
      exact r1
    · unfold f_X9_ticksPass_4
      rw [if_neg hv, gd_t b7, gd_t b7, i2, c7, show Mhi (sMhi (sMhi b 100 16 (oN (q' + 1))) 120 7 (Mhi (sMhi b 100 16 (oN (q' + 1))) 120 7 + 1)) 100 17 = Mhi b 100 17 from rfl, w3, if_neg g]
      exact r2 c4 _ v1 v2 v3 _ _ rfl
theorem pass_l {j n : Nat} (hn : n ≤ 99) : ∀ (fuel k B : Nat) (a : KS) (b : MS) (v2 : Int32), k ≤ n → n - k < fuel → B + (n - k) ≤ 2000 * j → PI j k a b → (∃ q, q ≤ B ∧ Khi a 10 10 = oN q) → ∃ (r : Int32) (a' : KS) (b' : MS), l_X2_passTicks_4 fuel a (oN n) v2 (oN k) = some (r, a') ∧ l_X9_ticksPass_4 fuel b (oN n) v2 (oN k) = some (r, b') ∧ Rel j a' b' ∧ (∃ q, q ≤ B + (n - k) ∧ Khi a' 10 10 = oN q) ∧ Mhi b' 100 0 = Mhi b 100 0 := by
  intro fuel
  induction fuel with
  | zero => intro k B a b v2 h1 h2; omega
  | succ f ih =>
    intro k B a b v2 hk hf hB h hq
    have e1 : l_X2_passTicks_4 (f + 1) a (oN n) v2 (oN k) = f_X2_passTicks_4 (l_X2_passTicks_4 f) a (oN n) v2 (oN k) := rfl
    have e2 : l_X9_ticksPass_4 (f + 1) b (oN n) v2 (oN k) = f_X9_ticksPass_4 (l_X9_ticksPass_4 f) b (oN n) v2 (oN k) := rfl
    rw [e1, e2]
    unfold f_X2_passTicks_4
    by_cases g : n ≤ k
    · have ek : k = n := by omega
      subst ek
      have b6 : inb 6 8 = true := by decide
      have c6 : (6 : Int32).toNatClampNeg = 6 := rfl
      obtain ⟨hT, ⟨dA, dB, dC, dD, dE, dF, dG, dH, dI, dJ⟩, hG, hP, hX⟩ := h
      refine ⟨v2, sKhi (sKhi a 13 7 (Khi a 13 7 + oN k)) 13 6 (Khi a 13 6 + v2), sMhi b 120 6 (Mhi b 120 6 + v2), ?_, ?_, ⟨hT, ⟨dA, dB, dC, dD, dE, dF, dG, dH, dI, fun x hx => ?_⟩, hG, hP, hX⟩, ?_, rfl⟩
      · rw [if_pos (Int32.le_refl _), show (7 : Int32) = oN 7 from rfl, count_in _ (by decide), bs, show (6 : Int32) = oN 6 from rfl, count_in _ (by decide), bs]
        rfl
      · unfold f_X9_ticksPass_4
        rw [if_pos (Int32.le_refl _), gd_t b6, gd_t b6, c6]
      · show Khi (sKhi (sKhi a 13 7 (Khi a 13 7 + oN k)) 13 6 (Khi a 13 6 + v2)) 13 x = _
        have e := dJ x hx
        have e' := dJ 6 (by decide)
        rw [Khi_s, Khi_s, Mhi_s]
        by_cases g6 : x = 6
        · rw [if_pos g6, if_pos g6, ← e']; rfl
        · rw [if_neg g6, if_neg g6, ← e]
          unfold evk
          by_cases g7 : x = 7
          · rw [if_pos g7]
          · rw [if_neg g7]
      · obtain ⟨q, z1, z2⟩ := hq
        exact ⟨q, by omega, z2⟩
    · have gg : ¬ oN n ≤ oN k := by rw [oN_le (by omega) (by omega)]; exact g
      obtain ⟨d, a1, b1, r1, r2, r3, r4, r5⟩ := pass_S (B := B) (by omega) h hq
      obtain ⟨r, a', b', s1, s2, s3, ⟨q, s4, s4'⟩, s5⟩ := ih (k + 1) (B + 1) a1 b1 (v2 + d) (by omega) (by omega) (by omega) r3 r4
      refine ⟨r, a', b', ?_, ?_, s3, ⟨q, by omega, s4'⟩, s5.trans r5⟩
      · rw [if_neg gg, r1, bs, lt_e, oN_succ]
        exact s1
      · rw [r2 _ _ _ _ gg, oN_succ]
        exact s2
theorem passes_eq {j n B : Nat} (hn : n ≤ 99) (hB : B + n ≤ 2000 * j) {a : KS} {b : MS} (h : Rel j a b) (hq : ∃ q, q ≤ B ∧ Khi a 10 10 = oN q) : ∃ (r : Int32) (a' : KS) (b' : MS), f_X2_passTicks a (oN n) = some (r, a') ∧ f_X9_ticksPass b (oN n) = some (r, b') ∧ Mhi b' 100 0 = Mhi b 100 0 ∧ Rel j a' b' ∧ (∃ q, q ≤ B + n ∧ Khi a' 10 10 = oN q) := by
  obtain ⟨hT, ⟨dA, dB, dC, dD, dE, dF, dG, dH, dI, dJ⟩, hr⟩ := h
  have h0 : PI j 0 a b := by
    refine ⟨hT, ⟨dA, dB, dC, dD, dE, dF, dG, dH, dI, fun x hx => ?_⟩, hr⟩
    rw [← dJ x hx]
    unfold evk
    by_cases g : x = 7
    · rw [if_pos g, g]; exact Int32.add_zero _
    · rw [if_neg g]
  obtain ⟨r, a', b', r1, r2, r3, ⟨q, q1, q2⟩, r5⟩ := pass_l hn FU 0 B a b 0 (Nat.zero_le _) (by rw [FU_e]; omega) (by omega) h0 hq
  exact ⟨r, a', b', r1, r2, r5, r3, ⟨q, by omega, q2⟩⟩
theorem s_12 : S_12 Rel := by
  intro j a b v1 v2 v3 v4 hj h
  have z1 : (1 : Int32) = oN 1 := rfl
  have z2 : (99 : Int32) = oN 99 := rfl
  by_cases g1 : v1 < 1
  · refine ⟨(1, a), (0, sMhi b 100 0 1), 1, ?_, ?_, rfl, rfl, fun q => absurd q n10, h.nx 1⟩
    · unfold f_L_tick f_X8_tick f_X8_tick_11
      rw [if_pos g1]; rfl
    · unfold f_X9_tick f_X9_tick_16
      rw [in_f (Or.inl g1)]; rfl
  · by_cases g2 : 99 < v1
    · refine ⟨(1, a), (0, sMhi b 100 0 1), 1, ?_, ?_, rfl, rfl, fun q => absurd q n10, h.nx 1⟩
      · unfold f_L_tick f_X8_tick f_X8_tick_11
        rw [if_neg g1, if_neg (Int32.not_le.mpr g2)]; rfl
      · unfold f_X9_tick f_X9_tick_16
        rw [in_f (Or.inr g2)]; rfl
    · obtain ⟨n, n1, n2, rfl⟩ := rng2 (lo := 1) (hi := 99) (by decide) (by decide) g1 g2
      have hI : ∃ q, q ≤ 2000 * j ∧ Khi a 10 10 = oN q := by
        obtain ⟨q, q1, q2, -⟩ := h.2.1.2.2.2.2.1
        exact ⟨q, q1, q2⟩
      obtain ⟨r, a', b', r1, r2, r3, r4, -⟩ := passes_eq (j := j + 1) (B := 2000 * j) n2 (by omega) ((h.thr 0).up) hI
      refine ⟨(0, sKou a' 0 r.toInt64), (r, b'), Mhi b' 100 0, ?_, ?_, rfl, ?_, fun _ => rfl, r4.kou 0 _⟩
      · unfold f_L_tick f_X8_tick
        rw [if_neg g1, if_pos (Int32.not_lt.mp g2), r1]; rfl
      · unfold f_X9_tick f_X9_tick_16
        rw [in_t g1 g2, bs, if_neg n10, holds_0, bs, if_neg n10, r2]; rfl
      · exact r3
