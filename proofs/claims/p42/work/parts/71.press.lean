/-! ===== a press, case by case ===== -/
def pA (a : KS) : KS := sKhi (sKhi a 10 10 0) 13 1 (Khi a 13 1 + 1)
theorem press_h (a : KS) : f_X2_pressKnob a = (f_X2_chosenItem a).bind (fun z6 => ocs z6 ((f_X2_goBack (pA a)).bind (fun z12 => some (z12.1, z12.2))) (fun i10 => if ¬ (Khi a 10 6) = 1 then (if ¬ (Khi a 10 6) = 2 then (gd (decide (i10 < Kn a)) ((f_X4_closed (pA a) i10).bind (fun z20 => if z20 = 0 then ((f_X2_use (pA a) (some i10)).bind (fun z24 => some (z24.1, z24.2))) else ((f_X2_beginCode (pA a)).bind (fun z30 => some (z30.1, z30.2)))))) else ((f_X2_endDigit (pA a) (some i10)).bind (fun z36 => some (z36.1, z36.2)))) else ((f_X2_endEdit (pA a) (some i10)).bind (fun z41 => some (z41.1, z41.2))))) := by
  rw [presses_K, show f_X2_count (sKhi a 10 10 0) 1 1 = some (pA a) from count_in (e := 1) _ (by decide) 1, bs]
  rfl
theorem keep_K {j : Nat} {a : KS} {b : MS} (h : Rel j a b) {i : Nat} {x : Int32} (hi : i < Kn a) : ∃ (q : Nat) (z : KS), q < 8 ∧ f_X3_keep a (some i) x = some z ∧ Khi z 3 2 = oN (q + 1) ∧ (Khi a 3 2 = oN q ∨ (q = 7 ∧ Khi a 3 2 = oN 8)) ∧ Klg z q = some i ∧ Khi z 5 q = x ∧ (∀ p, p ≠ 3 → p ≠ 5 → Khi z p = Khi a p) ∧ z.2.1 = a.2.1 ∧ z.2.2.1 = a.2.2.1 ∧ z.2.2.2.1 = a.2.2.2.1 ∧ z.2.2.2.2.1 = a.2.2.2.2.1 ∧ z.2.2.2.2.2.2 = a.2.2.2.2.2.2 := by
  obtain ⟨q, q1, q2, q3⟩ := log_c h
  have lg : ∀ (a : KS) (q : Nat), Khi (lgA a q i x) 3 2 = oN (q + 1) ∧ Klg (lgA a q i x) q = some i ∧ Khi (lgA a q i x) 5 q = x ∧ (∀ p, p ≠ 3 → p ≠ 5 → Khi (lgA a q i x) p = Khi a p) := by
    intro a q
    refine ⟨rfl, ?_, ?_, fun p p3 p5 => ?_⟩
    · show (if q = q then some i else Klg a q) = some i
      rw [if_pos rfl]
    · show Khi (sKhi (sKlg a q (some i)) 5 q x) 5 q = x
      exact Khi_se
    · funext k
      unfold lgA
      rw [Khi_np (fun z => p3 z.symm), Khi_np (fun z => p5 z.symm)]; rfl
  unfold f_X3_keep
  by_cases g : q = 8
  · subst g
    have e0 : f_X3_removeOldest a = some (sKhi (shL a 1) 3 2 (oN 7)) := by
      have e1 := shift_K FU a 1 (by decide) (by decide) (by rw [FU_e]; decide) (fun m m1 m2 => by
        obtain ⟨i, x1, x2, -⟩ := q3 m m2
        exact ⟨i, x1, x2⟩)
      show l_X3_removeOldest_2 FU a (oN 1) = _
      rw [e1]
      unfold f_X3_removeLatest
      rw [show Khi (shL a 1) 3 2 = Khi a 3 2 from rfl, q2, if_neg (by decide)]
      rfl
    rw [q2, if_neg (show ¬ oN 8 < 8 by decide), e0, bs, put_K (q := 7) (by decide) (show i < Kn (sKhi (shL a 1) 3 2 (oN 7)) from hi) rfl]
    obtain ⟨l1, l2, l3, l4⟩ := lg (sKhi (shL a 1) 3 2 (oN 7)) 7
    refine ⟨7, _, by decide, rfl, l1, Or.inr ⟨rfl, rfl⟩, l2, l3, fun p p3 p5 => ?_, rfl, rfl, rfl, rfl, rfl⟩
    rw [l4 p p3 p5]
    funext k
    rw [Khi_np (fun z => p3 z.symm)]
    show (if p = 5 ∧ 1 ≤ k + 1 ∧ k < 7 then _ else Khi a p k) = _
    rw [if_neg (fun z => p5 z.1)]
  · have q8 : q < 8 := by omega
    rw [if_pos (show Khi a 3 2 < 8 by rw [q2]; exact (oN_lt (y := 8) (by omega) (by decide)).mpr q8), put_K q8 hi q2]
    obtain ⟨l1, l2, l3, l4⟩ := lg a q
    exact ⟨q, _, q8, rfl, l1, Or.inl q2, l2, l3, l4, rfl, rfl, rfl, rfl, rfl⟩
/-- what comes of a press that ends no edit -/
def PN (a : KS) (r : Int32) (a' : KS) : Prop := (∀ i, Kit a' i 10 = Kit a i 10) ∧ Khi a' 13 2 = Khi a 13 2 ∧ Khi a' 3 2 = Khi a 3 2 ∧ (∃ k : Nat, k ≤ 9 ∧ r = oN k) ∧ (r = 5 → Khi a 10 11 ≤ 0 ∧ Khi a' 10 6 = 2) ∧ (r = 3 → Khi a' 10 6 = 1 ∧ ∃ i, i < Kn a' ∧ f_X2_chosenItem a' = some (some i) ∧ ¬ Kit a' i 1 = 0 ∧ Khi a' 10 8 = Kit a' i 10) ∧ (r = 7 → ∃ i, i < Kn a' ∧ f_X2_chosenItem a' = some (some i) ∧ Kit a' i 12 = 1)
/-- .. that ends an edit, with another value -/
def PE (a : KS) (r : Int32) (a' : KS) : Prop := r = 4 ∧ ∃ i q : Nat, i < Kn a ∧ q < 8 ∧ f_X2_chosenItem a' = some (some i) ∧ ¬ Kit a i 1 = 0 ∧ Khi a' 13 2 = Khi a 13 2 + 1 ∧ Khi a' 3 2 = oN (q + 1) ∧ (Khi a 3 2 = oN q ∨ (q = 7 ∧ Khi a 3 2 = oN 8)) ∧ Klg a' q = some i ∧ Khi a' 5 q = Kit a i 10 ∧ Khi a' 10 6 = 0 ∧ (∀ k m, m ≠ 10 → Kit a' k m = Kit a k m) ∧ (∀ k, k ≠ i → Kit a' k 10 = Kit a k 10) ∧ ¬ (¬ Kit a i 11 = -1 ∧ Kit a i 12 = 0)
theorem chos_same {a a' : KS} (h1 : Ksh a' = Ksh a) (h2 : Kn a' = Kn a) (h3 : Khi a' 10 7 = Khi a 10 7) (h4 : ∀ i, Kit a' i 9 = Kit a i 9) (h5 : Kch a' = Kch a) : f_X2_chosenItem a' = f_X2_chosenItem a := by
  unfold f_X2_chosenItem f_X4_childAt
  rw [h1, h2, h3, h5]
  simp only [h4]
set_option maxHeartbeats 2000000 in
theorem press_all {B : Nat} {a : KS} (h : LI B a) : ∃ (r : Int32) (a' : KS), f_X2_pressKnob a = some (r, a') ∧ LI 0 a' ∧ Kn a' = Kn a ∧ (∀ i m, m ≠ 10 → m ≠ 12 → Kit a' i m = Kit a i m) ∧ (PN a r a' ∨ PE a r a') := by
  obtain ⟨⟨b, hb⟩, -, eo⟩ := h
  have n01 : ¬ (0 : Int32) = 1 := by decide
  have n02 : ¬ (0 : Int32) = 2 := by decide
  have n21 : ¬ (2 : Int32) = 1 := by decide
  have ra : Rel 500 (pA a) _ := bump (idle0 500 hb) (e := 1) (by decide) 1
  obtain ⟨r, a', b', hpr, -, -, hrel⟩ := presses_eq 500 hb
  obtain ⟨s, c, d1, d2, d3, d4, hcase⟩ := chos_c hb
  suffices H : Khi a' 10 10 = 0 ∧ EO a' ∧ Kn a' = Kn a ∧ (∀ i m, m ≠ 10 → m ≠ 12 → Kit a' i m = Kit a i m) ∧ (PN a r a' ∨ PE a r a') by
    exact ⟨r, a', hpr, ⟨⟨b', hrel⟩, ⟨0, Nat.le_refl _, H.1⟩, H.2.1⟩, H.2.2⟩
  rcases hcase with ⟨i, i1, i2, i3, i4, i5, i6, i7, i8⟩ | ⟨m0, e1, e2, hc⟩
  · rw [press_h, i7, bs, ocs_s] at hpr
    rcases mode_c hb with m | m | m
    · rw [if_pos (show ¬ Khi a 10 6 = 1 by rw [m]; exact n01), if_pos (show ¬ Khi a 10 6 = 2 by rw [m]; exact n02), gd_d i2, closed_in (a := pA a) i2, bs] at hpr
      by_cases k : ¬ Kit a i 11 = -1 ∧ Kit a i 12 = 0
      · rw [if_pos (show ¬ Kit (pA a) i 11 = -1 ∧ Kit (pA a) i 12 = 0 from k), if_neg n10] at hpr
        unfold f_X2_beginCode at hpr
        by_cases g : Khi a 10 11 ≤ 0
        · rw [if_pos (show Khi (pA a) 10 11 ≤ 0 from g), zero_K, bs] at hpr
          obtain ⟨rfl, rfl⟩ := Prod.mk.inj (Option.some.inj hpr)
          exact ⟨rfl, EO.m (show ¬ (2 : Int32) = 1 from n21), rfl, fun _ _ _ _ => rfl, Or.inl ⟨fun _ => rfl, rfl, rfl, ⟨5, by decide, rfl⟩, fun _ => ⟨g, rfl⟩, fun z => absurd (show (5 : Int32) = 3 from z) (by decide), fun z => absurd (show (5 : Int32) = 7 from z) (by decide)⟩⟩
        · rw [if_neg (show ¬ Khi (pA a) 10 11 ≤ 0 from g), bs] at hpr
          obtain ⟨rfl, rfl⟩ := Prod.mk.inj (Option.some.inj hpr)
          exact ⟨rfl, EO.m (show ¬ Khi a 10 6 = 1 by rw [m]; exact n01), rfl, fun _ _ _ _ => rfl, Or.inl ⟨fun _ => rfl, rfl, rfl, ⟨9, by decide, rfl⟩, fun z => absurd (show (9 : Int32) = 5 from z) (by decide), fun z => absurd (show (9 : Int32) = 3 from z) (by decide), fun z => absurd (show (9 : Int32) = 7 from z) (by decide)⟩⟩
      · rw [if_neg (show ¬ (¬ Kit (pA a) i 11 = -1 ∧ Kit (pA a) i 12 = 0) from k), if_pos rfl] at hpr
        unfold f_X2_use at hpr
        rw [odr_s (show i < Kn (pA a) from i2)] at hpr
        by_cases kd : Kit a i 1 = 0
        · rw [if_neg (show ¬ ¬ Kit (pA a) i 1 = 0 from fun z => z kd), bs] at hpr
          obtain ⟨rfl, rfl⟩ := Prod.mk.inj (Option.some.inj hpr)
          exact ⟨rfl, EO.m (show ¬ Khi a 10 6 = 1 by rw [m]; exact n01), rfl, fun _ _ _ _ => rfl, Or.inl ⟨fun _ => rfl, rfl, rfl, ⟨2, by decide, rfl⟩, fun z => absurd (show (2 : Int32) = 5 from z) (by decide), fun z => absurd (show (2 : Int32) = 3 from z) (by decide), fun z => absurd (show (2 : Int32) = 7 from z) (by decide)⟩⟩
        · rw [if_pos (show ¬ Kit (pA a) i 1 = 0 from kd), bs] at hpr
          obtain ⟨rfl, rfl⟩ := Prod.mk.inj (Option.some.inj hpr)
          refine ⟨rfl, fun _ x hx => ?_, rfl, fun _ _ _ _ => rfl, Or.inl ⟨fun _ => rfl, rfl, rfl, ⟨3, by decide, rfl⟩, fun z => absurd (show (3 : Int32) = 5 from z) (by decide), fun _ => ⟨rfl, i, i2, i7, kd, rfl⟩, fun z => absurd (show (3 : Int32) = 7 from z) (by decide)⟩⟩
          have hx : f_X2_chosenItem a = some (some x) := hx
          obtain rfl : i = x := Option.some.inj (Option.some.inj (i7.symm.trans hx))
          exact k
    · rw [if_neg (show ¬ ¬ Khi a 10 6 = 1 from fun z => z m)] at hpr
      unfold f_X2_endEdit at hpr
      rw [odr_s (show i < Kn (sKhi (pA a) 10 6 0) from i2)] at hpr
      by_cases g : Kit a i 10 = Khi a 10 8
      · rw [if_pos (show Kit (sKhi (pA a) 10 6 0) i 10 = Khi (sKhi (pA a) 10 6 0) 10 8 from g), bs] at hpr
        obtain ⟨rfl, rfl⟩ := Prod.mk.inj (Option.some.inj hpr)
        exact ⟨rfl, EO.m (show ¬ (0 : Int32) = 1 from n01), rfl, fun _ _ _ _ => rfl, Or.inl ⟨fun _ => rfl, rfl, rfl, ⟨4, by decide, rfl⟩, fun z => absurd (show (4 : Int32) = 5 from z) (by decide), fun z => absurd (show (4 : Int32) = 3 from z) (by decide), fun z => absurd (show (4 : Int32) = 7 from z) (by decide)⟩⟩
      · rw [if_neg (show ¬ Kit (sKhi (pA a) 10 6 0) i 10 = Khi (sKhi (pA a) 10 6 0) 10 8 from g)] at hpr
        obtain ⟨q, z, q1, q2, q3, q4, q5, q6, q7, q8, q9, q10, q11, q12⟩ := keep_K (mode0 ra) (i := i) (x := Kit a i 10) i2
        have hz : i < Kn z := by show i < z.2.2.2.2.2.2.2.1; rw [q12]; exact i2
        rw [show f_X3_keep (sKhi (pA a) 10 6 0) (some i) (Kit (sKhi (pA a) 10 6 0) i 10) = some z from q2, bs, gd_d hz, show (2 : Int32) = oN 2 from rfl, count_in _ (by decide), bs, bs] at hpr
        obtain ⟨rfl, rfl⟩ := Prod.mk.inj (Option.some.inj hpr)
        have e10 : Khi z 10 = Khi (sKhi (pA a) 10 6 0) 10 := q7 10 (by decide) (by decide)
        have e13 : Khi z 13 = Khi (sKhi (pA a) 10 6 0) 13 := q7 13 (by decide) (by decide)
        have eit : Kit z = Kit a := q8
        have h10 : ∀ (v w : Int32) (k : Nat), Khi (sKhi (sKit z i 10 v) 13 2 w) 10 k = Khi z 10 k := fun v w k => rfl
        refine ⟨?_, EO.m ?_, ?_, fun k m hm _ => ?_, Or.inr ⟨rfl, i, q, i2, q1, ?_, (i8 m).1, ?_, q3, q4, q5, q6, ?_, fun k m hm => ?_, fun k hk => ?_, eo m i i7⟩⟩
        · rw [h10, e10]; rfl
        · rw [h10, e10]; exact n01
        · show z.2.2.2.2.2.2.2.1 = _; rw [q12]; rfl
        · show Kit (sKit z i 10 _) k m = _; rw [Kit_n hm, eit]
        · rw [← i7]
          refine chos_same ?_ ?_ ?_ (fun k => ?_) ?_
          · show z.2.2.2.2.2.2.1 = _; rw [q12]; rfl
          · show z.2.2.2.2.2.2.2.1 = _; rw [q12]; rfl
          · rw [h10, e10]; rfl
          · show Kit (sKit z i 10 _) k 9 = _; rw [Kit_n (by decide), eit]
          · show z.2.2.2.1 = _; rw [q10]; rfl
        · show Khi (sKhi (sKit z i 10 _) 13 2 _) 13 2 = _
          rw [Khi_se]
          show Khi z 13 2 + 1 = _
          rw [e13]; rfl
        · rw [h10, e10]; rfl
        · show Kit (sKit z i 10 _) k m = _; rw [Kit_n hm, eit]
        · show Kit (sKit z i 10 _) k 10 = _; rw [Kit_e, if_neg hk, eit]
    · rw [if_pos (show ¬ Khi a 10 6 = 1 by rw [m]; exact n21), if_neg (show ¬ ¬ Khi a 10 6 = 2 from fun z => z m)] at hpr
      obtain ⟨p, p1, p2⟩ := place_c hb
      obtain ⟨w, w1, w2⟩ := wrong_c hb
      unfold f_X2_endDigit at hpr
      rw [show Khi (pA a) 10 9 = oN p from p2] at hpr
      by_cases g : 3 ≤ p
      · rw [if_pos (show (3 : Int32) ≤ oN p from (oN_le (x := 3) (by decide) (by omega)).mpr g), code_K, bs, odr_s (show i < Kn (sKhi (pA a) 10 6 0) from i2)] at hpr
        generalize 10 * (10 * (10 * (10 * 0 + Khi (sKhi (pA a) 10 6 0) 11 0) + Khi (sKhi (pA a) 10 6 0) 11 1) + Khi (sKhi (pA a) 10 6 0) 11 2) + Khi (sKhi (pA a) 10 6 0) 11 3 = X at hpr
        by_cases e : X = Kit (sKhi (pA a) 10 6 0) i 11
        · rw [if_neg (fun z => z e), gd_t (by decide), bs] at hpr
          obtain ⟨rfl, rfl⟩ := Prod.mk.inj (Option.some.inj hpr)
          refine ⟨rfl, EO.m (show ¬ (0 : Int32) = 1 from n01), rfl, fun k m _ hm => (Kit_n (a := sKhi (pA a) 10 6 0) (i := i) (v := 1) hm), Or.inl ⟨fun k => (Kit_n (a := sKhi (pA a) 10 6 0) (i := i) (v := 1) (by decide)), rfl, rfl, ⟨7, by decide, rfl⟩, fun z => absurd (show (7 : Int32) = 5 from z) (by decide), fun z => absurd (show (7 : Int32) = 3 from z) (by decide), fun _ => ⟨i, i2, ?_, ?_⟩⟩⟩
          · rw [← i7]
            exact chos_same rfl rfl rfl (fun k => Kit_n (a := sKhi (pA a) 10 6 0) (i := i) (v := 1) (by decide)) rfl
          · show (if i = i ∧ 12 = 12 then (1 : Int32) else _) = 1
            rw [if_pos ⟨rfl, rfl⟩]
        · rw [if_pos e, wrongs_K (a := sKhi (pA a) 10 6 0) w1 w2, bs, bs] at hpr
          obtain ⟨rfl, rfl⟩ := Prod.mk.inj (Option.some.inj hpr)
          by_cases w3 : w = 2
          · rw [if_pos w3]
            exact ⟨rfl, EO.m (show ¬ (0 : Int32) = 1 from n01), rfl, fun _ _ _ _ => rfl, Or.inl ⟨fun k => rfl, rfl, rfl, ⟨8, by decide, rfl⟩, fun z => absurd (show (8 : Int32) = 5 from z) (by decide), fun z => absurd (show (8 : Int32) = 3 from z) (by decide), fun z => absurd (show (8 : Int32) = 7 from z) (by decide)⟩⟩
          · rw [if_neg w3]
            exact ⟨rfl, EO.m (show ¬ (0 : Int32) = 1 from n01), rfl, fun _ _ _ _ => rfl, Or.inl ⟨fun k => rfl, rfl, rfl, ⟨8, by decide, rfl⟩, fun z => absurd (show (8 : Int32) = 5 from z) (by decide), fun z => absurd (show (8 : Int32) = 3 from z) (by decide), fun z => absurd (show (8 : Int32) = 7 from z) (by decide)⟩⟩
      · rw [if_neg (show ¬ (3 : Int32) ≤ oN p from fun z => g ((oN_le (x := 3) (by decide) (by omega)).mp z)), bs] at hpr
        obtain ⟨rfl, rfl⟩ := Prod.mk.inj (Option.some.inj hpr)
        exact ⟨rfl, EO.m (show ¬ Khi a 10 6 = 1 by rw [m]; exact n21), rfl, fun _ _ _ _ => rfl, Or.inl ⟨fun _ => rfl, rfl, rfl, ⟨6, by decide, rfl⟩, fun z => absurd (show (6 : Int32) = 5 from z) (by decide), fun z => absurd (show (6 : Int32) = 3 from z) (by decide), fun z => absurd (show (6 : Int32) = 7 from z) (by decide)⟩⟩
  · rw [press_h, hc, bs, ocs_n] at hpr
    unfold f_X2_goBack at hpr
    rw [lt_e, show Ksh (pA a) = some s from d1, odr_s (show s < Kn (pA a) from d2), lt_e] at hpr
    cases hm : Kmn a s with
    | none =>
      rw [show Kmn (pA a) s = none from hm, ocs_n, bs] at hpr
      obtain ⟨rfl, rfl⟩ := Prod.mk.inj (Option.some.inj hpr)
      exact ⟨rfl, EO.m (show ¬ Khi a 10 6 = 1 by rw [m0]; exact n01), rfl, fun _ _ _ _ => rfl, Or.inl ⟨fun _ => rfl, rfl, rfl, ⟨0, by decide, rfl⟩, fun z => absurd (show (0 : Int32) = 5 from z) (by decide), fun z => absurd (show (0 : Int32) = 3 from z) (by decide), fun z => absurd (show (0 : Int32) = 7 from z) (by decide)⟩⟩
    | some p =>
      rw [show Kmn (pA a) s = some p from hm, ocs_s, bs] at hpr
      obtain ⟨rfl, rfl⟩ := Prod.mk.inj (Option.some.inj hpr)
      exact ⟨rfl, EO.m (show ¬ Khi a 10 6 = 1 by rw [m0]; exact n01), rfl, fun _ _ _ _ => rfl, Or.inl ⟨fun _ => rfl, rfl, rfl, ⟨1, by decide, rfl⟩, fun z => absurd (show (1 : Int32) = 5 from z) (by decide), fun z => absurd (show (1 : Int32) = 3 from z) (by decide), fun z => absurd (show (1 : Int32) = 7 from z) (by decide)⟩⟩
/-- a press on an item that is not closed, while browsing -/
theorem press_use {B : Nat} {a : KS} (h : LI B a) (m : Khi a 10 6 = 0) {i : Nat} (hc : f_X2_chosenItem a = some (some i)) (hk : ¬ (¬ Kit a i 11 = -1 ∧ Kit a i 12 = 0)) : ∃ a', f_X2_pressKnob a = some ((if Kit a i 1 = 0 then 2 else 3), a') ∧ LI 0 a' ∧ a' = (if Kit a i 1 = 0 then sKhi (sKsh (pA a) (some i)) 10 7 0 else sKhi (sKhi (pA a) 10 6 1) 10 8 (Kit a i 10)) := by
  obtain ⟨r, a', hpr, hl, -⟩ := press_all h
  obtain ⟨⟨b, hb⟩, -, -⟩ := h
  have n01 : ¬ (0 : Int32) = 1 := by decide
  have n02 : ¬ (0 : Int32) = 2 := by decide
  have i2 := (cho hb hc).1
  have e := hpr
  rw [press_h, hc, bs, ocs_s, if_pos (show ¬ Khi a 10 6 = 1 by rw [m]; exact n01), if_pos (show ¬ Khi a 10 6 = 2 by rw [m]; exact n02), gd_d i2, closed_in (a := pA a) i2, bs, if_neg (show ¬ (¬ Kit (pA a) i 11 = -1 ∧ Kit (pA a) i 12 = 0) from hk), if_pos rfl] at e
  unfold f_X2_use at e
  rw [odr_s (show i < Kn (pA a) from i2)] at e
  by_cases kd : Kit a i 1 = 0
  · rw [if_neg (show ¬ ¬ Kit (pA a) i 1 = 0 from fun z => z kd), bs] at e
    obtain ⟨rfl, rfl⟩ := Prod.mk.inj (Option.some.inj e)
    rw [if_pos kd, if_pos kd]
    exact ⟨_, hpr, hl, rfl⟩
  · rw [if_pos (show ¬ Kit (pA a) i 1 = 0 from kd), bs] at e
    obtain ⟨rfl, rfl⟩ := Prod.mk.inj (Option.some.inj e)
    rw [if_neg kd, if_neg kd]
    exact ⟨_, hpr, hl, rfl⟩
