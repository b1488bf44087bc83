/-! ===== the deeds of the law ===== -/
theorem hold_all {B : Nat} {a : KS} (h : LI B a) : ∃ a', f_X8_hold a = some (Khi a 10 6, a') ∧ LI 0 a' ∧ SM a a' ∧ Khi a' 10 6 = 0 ∧ Khi a' 10 10 = 0 ∧ Khi a' 13 = Khi a 13 ∧ (Khi a 10 6 = 0 → HM a') ∧ (¬ Khi a 10 6 = 0 → Ksh a' = Ksh a ∧ Khi a' 10 7 = Khi a 10 7 ∧ Kit a' = Kit a) := by
  obtain ⟨⟨b, hb⟩, -, -⟩ := h
  obtain ⟨a', g1, g2, g3, g4, g5, g6, g7, g8⟩ := hold_K hb.tn
  obtain ⟨r, a2, b', p1, -, -, p4⟩ := held_eq 500 hb
  obtain ⟨rfl, rfl⟩ := Prod.mk.inj (Option.some.inj (g1.symm.trans p1))
  refine ⟨a', ?_, ⟨⟨b', p4⟩, ⟨0, Nat.le_refl _, g4⟩, EO.m (by rw [g3]; decide)⟩, g2, g3, g4, g6, g7, g8⟩
  unfold f_X8_hold
  rw [g1]; rfl
def tnX (a : KS) (r v : Int32) (p : Nat) : KS := tnA a r v (if Khi a 10 6 = 1 then sKhi a 10 8 r else if Khi a 10 6 = 2 then sKhi a 11 p r else sKhi a 10 7 r)
theorem tnX_f (a : KS) (r v : Int32) (p : Nat) : SM a (tnX a r v p) ∧ Khi (tnX a r v p) 10 10 = 0 ∧ Khi (tnX a r v p) 10 6 = Khi a 10 6 ∧ Ksh (tnX a r v p) = Ksh a ∧ Kit (tnX a r v p) = Kit a ∧ (∀ k, Khi (tnX a r v p) 13 k = if k = 0 then Khi a 13 0 + mabs v else Khi a 13 k) ∧ (Khi a 10 6 = 0 → Khi (tnX a r v p) 10 7 = r) ∧ (Khi a 10 6 = 1 → Khi (tnX a r v p) 10 7 = Khi a 10 7) := by
  unfold tnX
  by_cases m1 : Khi a 10 6 = 1
  · rw [if_pos m1]; exact ⟨⟨rfl, rfl, rfl, rfl, rfl, fun _ _ _ => rfl, rfl, rfl⟩, rfl, rfl, rfl, rfl, fun k => Khi_s _ _ _ _ _, fun z => absurd (z.symm.trans m1) (by decide), fun _ => rfl⟩
  · rw [if_neg m1]
    by_cases m2 : Khi a 10 6 = 2
    · rw [if_pos m2]; exact ⟨⟨rfl, rfl, rfl, rfl, rfl, fun _ _ _ => rfl, rfl, rfl⟩, rfl, rfl, rfl, rfl, fun k => Khi_s _ _ _ _ _, fun z => absurd (z.symm.trans m2) (by decide), fun z => absurd z m1⟩
    · rw [if_neg m2]
      exact ⟨⟨rfl, rfl, rfl, rfl, rfl, fun _ _ _ => rfl, rfl, rfl⟩, rfl, rfl, rfl, rfl, fun k => Khi_s _ _ _ _ _, fun _ => rfl, fun z => absurd z m1⟩
theorem turn_all {B : Nat} {a : KS} (h : LI B a) {v : Int32} (h1 : ¬ v < -50) (h2 : ¬ 50 < v) : ∃ (r : Int32) (p : Nat), f_X2_turned a v = some r ∧ f_X8_turn a v = some (0, r, tnX a r v p) ∧ LI 0 (tnX a r v p) := by
  obtain ⟨⟨b, hb⟩, -, eo⟩ := h
  have t1 : -50 ≤ v.toInt ∧ v.toInt ≤ 50 := by
    rcases det_cases v with z | ⟨-, -, z1, z2⟩
    · rcases z with z | z
      · exact absurd z h1
      · exact absurd z h2
    · exact ⟨z1, z2⟩
  obtain ⟨r, r1, -, -⟩ := turned_r hb t1.1 t1.2
  obtain ⟨p, p1, p2⟩ := place_c hb
  have e := turn_K (v := v) p1 p2 r1
  obtain ⟨r2, a2, b', y1, -, -, y4⟩ := turns_eq 500 hb t1.1 t1.2
  obtain ⟨rfl, rfl⟩ := Prod.mk.inj (Option.some.inj (e.symm.trans y1))
  obtain ⟨f1, f2, f3, f4, f5, f6, f7, f8⟩ := tnX_f a r v p
  refine ⟨r, p, r1, ?_, ⟨b', y4⟩, ⟨0, Nat.le_refl _, f2⟩, fun m i hc => ?_⟩
  · unfold f_X8_turn
    rw [reqD_in h1 h2, bs, if_pos rfl, e]; rfl
  · have m1 : Khi a 10 6 = 1 := f3.symm.trans m
    have e2 := chos_same f4 f1.1 (f8 m1) (fun k => by rw [f5]) f1.2.2.2.2.1
    have := eo m1 i (e2.symm.trans hc)
    rw [f5]
    exact this
theorem SM.val {a a' : KS} {b' : MS} (h : SM a a') (hb : RTs a' b') : f_L_values a' = some (vs (Kit a) 43 0 (Kn a)) := values_same hb h.1 (fun i => h.2.2.2.2.2.1 i 1 (by decide)) (fun i => h.2.2.2.2.2.1 i 10 (by decide))
/-- what is asked of a deed -/
def OK (B : Nat) (a : KS) (X : Option (Int32 × KS)) : Prop := ∃ a', X = some (1, a') ∧ LI (B + 99) a' ∧ Kit a' 0 11 = Kit a 0 11 ∧ Kn a' = Kn a
theorem lc0 (x : Int64) : ¬ ¬ lg_cmp x x = 0 := fun z => z (lcmp_eq rfl)
theorem a_190 {B : Nat} {a a' : KS} (hl : LI 0 a') (hs : SM a a') (hi : Khi a' 10 10 = 0) : OK B a (f_L_acts_190 a' (vs (Kit a) 43 0 (Kn a))) := by
  obtain ⟨b', hb'⟩ := hl.1
  unfold f_L_acts_190
  rw [hs.val hb'.1, bs, if_neg (lc0 _), show f_X8_idle a' = some (Khi a' 10 10) from rfl, bs, if_neg (fun z => z hi)]
  exact ⟨a', rfl, hl.up (by omega), hs.2.2.2.2.2.1 0 11 (by decide), hs.1⟩
theorem sub_self32 (x r : Int32) : x + r - x = r := by
  rw [Int32.add_comm]
  exact Int32.add_sub_cancel _ _
/-- ticks -/
theorem a_230 {B : Nat} (hB : B + 99 ≤ 1000000) {a : KS} (h : LI B a) {s2 : Nat} (h1 : 1 ≤ s2) (h2 : s2 ≤ 99) (y : Int32) : OK B a (f_L_acts_230 a (vs (Kit a) 43 0 (Kn a)) (Khi a 10 11) 1 y (oN s2)) := by
  have hI := h
  obtain ⟨⟨b, hb⟩, hq, eo⟩ := h
  obtain ⟨m, m1, m2⟩ := up_q (x := y) h1 (by omega) a
  obtain ⟨u, u1, u2⟩ := barred_c hb
  obtain ⟨r, z, p1, p2, p3, p4, p5⟩ := ticks_all (n := 1 + m) (by omega) (show B + (1 + m) ≤ 1000000 by omega) hI (fun k x v => Khi x 10 11 = oN (u - k)) (by
    intro k x v d x' b' s hk _ _ _ t ht
    rw [ht.2.2.1, t]
    by_cases g : u - k = 0
    · rw [if_pos (show oN (u - k) ≤ 0 by rw [g]; exact Int32.le_refl _), g, show u - (k + 1) = 0 by omega]
    · rw [if_neg (show ¬ oN (u - k) ≤ 0 by rw [show (0 : Int32) = oN 0 from rfl, oN_le (by omega) (by decide)]; omega), oN_pred (by omega)]
      congr 1) u2
  have hs : SM a (sKhi (sKhi z 13 7 (Khi z 13 7 + oN (1 + m))) 13 6 (Khi z 13 6 + r)) := p4.tr ⟨rfl, rfl, rfl, rfl, rfl, fun _ _ _ => rfl, rfl, rfl⟩
  unfold f_L_acts_230
  rw [m2, bs, lt_e, show (1 : Int32) = oN 1 from rfl, oN_add, show (6 : Int32) = oN 6 from rfl, q_event a (by decide), bs, gd_d rfl, tick_h (by omega) (by omega) p1, bs, gd_d rfl, q_event _ (by decide), bs, gd_d rfl]
  have e6 : Khi (sKhi (sKhi z 13 7 (Khi z 13 7 + oN (1 + m))) 13 6 (Khi z 13 6 + r)) 13 6 = Khi a 13 6 + r := by
    rw [Khi_se, p5]
  obtain ⟨b', hb'⟩ := p3.1
  have e11 : Khi (sKhi (sKhi z 13 7 (Khi z 13 7 + oN (1 + m))) 13 6 (Khi z 13 6 + r)) 10 11 = oN (u - (1 + m)) := p2
  have hv := hs.val hb'.1
  have fin : OK B a (some (1, sKhi (sKhi z 13 7 (Khi z 13 7 + oN (1 + m))) 13 6 (Khi z 13 6 + r))) := ⟨_, rfl, p3.up (by omega), hs.2.2.2.2.2.1 0 11 (by decide), hs.1⟩
  generalize sKhi (sKhi z 13 7 (Khi z 13 7 + oN (1 + m))) 13 6 (Khi z 13 6 + r) = X at *
  rw [e6, sub_self32, if_neg (fun z => z rfl), hv, bs, if_neg (lc0 _), show f_X8_barred X = some (Khi X 10 11) from rfl, bs, e11, u2]
  unfold f_L_acts_291
  by_cases g : u ≤ 1 + m
  · rw [if_pos ((oN_le (by omega) (by omega)).mpr g), show u - (1 + m) = 0 by omega, if_neg (show ¬ ¬ oN 0 = 0 from fun z => z rfl)]
    exact fin
  · rw [if_neg (fun z => g ((oN_le (by omega) (by omega)).mp z)), oN_sub (by omega), if_neg (fun z => z rfl)]
    exact fin
/-- turns -/
theorem a_432 {B : Nat} {a : KS} (h : LI B a) {x w : Nat} (hx : x ≤ 2 * w) (hw : w ≤ 50) : OK B a (f_L_acts_432 a (vs (Kit a) 43 0 (Kn a)) (oN x) (oN w)) := by
  have e : (oN x - oN w).toInt = (x : Int) - w := sub_i32 (by omega) (by omega)
  have e1 : (-50 : Int32).toInt = -50 := by decide
  have e2 : (50 : Int32).toInt = 50 := by decide
  have h1 : ¬ (oN x - oN w) < -50 := by rw [Int32.lt_iff_toInt_lt, e, e1]; omega
  have h2 : ¬ 50 < (oN x - oN w) := by rw [Int32.lt_iff_toInt_lt, e, e2]; omega
  obtain ⟨r, p, r1, r2, r3⟩ := turn_all h h1 h2
  obtain ⟨f1, f2, -⟩ := tnX_f a r (oN x - oN w) p
  obtain ⟨b', hb'⟩ := r3.1
  unfold f_L_acts_432
  rw [lt_e, q_if h1 h2 r1, bs, gd_d rfl, r2, bs, gd_d rfl, if_neg (fun z => z rfl), f1.val hb'.1, bs, if_neg (lc0 _), show f_X8_idle (tnX a r (oN x - oN w) p) = some (Khi (tnX a r (oN x - oN w) p) 10 10) from rfl, bs, if_neg (fun z => z f2)]
  exact ⟨_, rfl, r3.up (by omega), f1.2.2.2.2.2.1 0 11 (by decide), f1.1⟩
theorem a_413 {B : Nat} {a : KS} (h : LI B a) (y : Int32) : OK B a (if ¬ ((y >>> (9 &&& 31)) &&& 1) = 0 then (f_L_acts_413 a y (vs (Kit a) 43 0 (Kn a)) y 13) else (f_L_acts_413 a y (vs (Kit a) 43 0 (Kn a)) y 101)) := by
  by_cases g : ((y >>> (9 &&& 31)) &&& 1) = 0
  · obtain ⟨m, m1, m2⟩ := up_q (x := y) (n := 101) (by decide) (by decide) a
    rw [if_neg (fun z => z g)]
    unfold f_L_acts_413
    rw [show (101 : Int32) = oN 101 from rfl, m2, bs, if_neg (fun z => z g)]
    exact a_432 h (w := 50) (by omega) (by decide)
  · obtain ⟨m, m1, m2⟩ := up_q (x := y) (n := 13) (by decide) (by decide) a
    rw [if_pos g]
    unfold f_L_acts_413
    rw [show (13 : Int32) = oN 13 from rfl, m2, bs, if_pos g]
    exact a_432 h (w := 6) (by omega) (by decide)
/-- what comes behind a press that ended no edit -/
theorem a_505 {B : Nat} {a : KS} (h : LI B a) {r : Int32} {a' : KS} (hl : LI 0 a') (hn : Kn a' = Kn a) (hk : ∀ i m, m ≠ 10 → m ≠ 12 → Kit a' i m = Kit a i m) (hp : PN a r a') : OK B a (f_L_acts_504 a' (vs (Kit a) 43 0 (Kn a)) (Khi a 3 2) (Khi a 13 2) (Khi a 10 11) r) := by
  obtain ⟨⟨b, hb⟩, -, -⟩ := h
  obtain ⟨b', hb'⟩ := hl.1
  obtain ⟨u, u1, u2⟩ := barred_c hb
  obtain ⟨p1, p2, p3, ⟨k, k1, k2⟩, p5, p6, p7⟩ := hp
  have fin : OK B a (f_L_acts_660 a' (vs (Kit a) 43 0 (Kn a)) 0) := by
    unfold f_L_acts_660 f_L_acts_665
    rw [if_neg n10, if_pos rfl]
    exact ⟨a', rfl, hl.up (by omega), hk 0 11 (by decide) (by decide), hn⟩
  have h642 : OK B a (f_L_acts_642 a' (vs (Kit a) 43 0 (Kn a)) r 0) := by
    unfold f_L_acts_642
    by_cases g : r = 7
    · obtain ⟨i, i1, i2, i3⟩ := p7 g
      rw [if_neg (fun z => z g), q_chosen hb'.1 i1 i2, bs, q_closed hb'.1 i1, bs, gd_d rfl, if_neg (show ¬ (¬ Kit a' i 11 = -1 ∧ Kit a' i 12 = 0) from fun z => by rw [i3] at z; exact absurd z.2 n10), if_neg nn00]
      exact fin
    · rw [if_pos g]; exact fin
  have h613 : OK B a (f_L_acts_613 a' (vs (Kit a) 43 0 (Kn a)) r 0) := by
    unfold f_L_acts_613
    by_cases g : r = 3
    · obtain ⟨m, i, i1, i2, i3, i4⟩ := p6 g
      rw [if_neg (fun z => z g), show f_X8_mode a' = some (Khi a' 10 6) from rfl, bs, if_neg (fun z => z m), q_draft1 m, bs, q_chosen hb'.1 i1 i2, bs, q_value hb'.1 i1 i3, bs, gd_d rfl, if_neg (fun z => z i4)]
      exact h642
    · rw [if_pos g]; exact h642
  have h542 : OK B a (f_L_acts_542 a' (vs (Kit a) 43 0 (Kn a)) (Khi a 3 2) r 0) := by
    unfold f_L_acts_542 f_L_acts_559 f_L_acts_596
    rw [if_neg (show ¬ r < 0 by rw [k2]; exact oN_nn (by omega)), if_neg (show ¬ 9 < r by rw [k2, show (9 : Int32) = oN 9 from rfl, oN_lt (by decide) (by omega)]; omega), if_neg n10, show f_X8_logged a' = some (Khi a' 3 2) from rfl, bs, if_pos rfl, if_neg (fun z => z p3)]
    by_cases g : r = 5
    · rw [if_neg (fun z => z g), show f_X8_mode a' = some (Khi a' 10 6) from rfl, bs, if_neg (fun z => z (p5 g).2)]
      exact h613
    · rw [if_pos g]; exact h613
  unfold f_L_acts_504 f_L_acts_505 f_L_acts_531
  rw [if_neg nn00, values_same hb'.1 hn (fun i => hk i 1 (by decide) (by decide)) p1, bs, if_neg (lc0 _), show (2 : Int32) = oN 2 from rfl, q_event a' (by decide), bs, gd_d rfl, if_neg (fun z => z p2)]
  by_cases g : Khi a 10 11 = 0
  · rw [if_pos g]; exact h542
  · rw [if_neg g, if_neg (show ¬ r = 5 from fun z => g ?_)]
    · exact h542
    · have := (p5 z).1
      rw [u2, show (0 : Int32) = oN 0 from rfl, oN_le (by omega) (by decide)] at this
      rw [u2, show u = 0 by omega]; rfl
/-- .. that ended an edit: it is taken back, and begun again -/
theorem a_edit {B : Nat} (hB : B ≤ 1000000) {a : KS} (h : LI B a) {a' : KS} (hl : LI 0 a') (hn : Kn a' = Kn a) (hk : ∀ i m, m ≠ 10 → m ≠ 12 → Kit a' i m = Kit a i m) (hp : PE a 4 a') : OK B a (f_L_acts_505 a' (vs (Kit a) 43 0 (Kn a)) (Khi a 3 2) (Khi a 13 2) (Khi a 10 11) 4 1) := by
  have hI := h
  obtain ⟨⟨b, hb⟩, -, -⟩ := h
  obtain ⟨b', hb'⟩ := hl.1
  obtain ⟨-, i, q, i1, q1, c1, k1, e1, l1, l2, l3, l4, m1, o1, o2, o3⟩ := hp
  have i1' : i < Kn a' := by rw [hn]; exact i1
  have n42 : ¬ (4 : Int32) = 5 := by decide
  have n43 : ¬ (4 : Int32) = 3 := by decide
  have n47 : ¬ (4 : Int32) = 7 := by decide
  obtain ⟨t1, t2⟩ := take_all (B := 0) (by decide) hl q1 i1' l1 l3
  obtain ⟨X, hX⟩ : ∃ X, X = sKhi (sKhi (sKit a' i 10 (Khi a' 5 q)) 3 2 (oN q)) 13 3 (Khi a' 13 3 + 1) := ⟨_, rfl⟩
  rw [← hX] at t1 t2
  have xn : Kn X = Kn a := by rw [hX]; exact hn
  have xm : ∀ k m, Kit X k m = Kit a k m := by
    intro k m
    rw [hX]
    show Kit (sKit a' i 10 (Khi a' 5 q)) k m = _
    by_cases g : m = 10
    · subst g
      rw [Kit_e]
      by_cases g2 : k = i
      · rw [if_pos g2, l4, g2]
      · rw [if_neg g2, o2 k g2]
    · rw [Kit_n g, o1 k m g]
  have x6 : Khi X 10 6 = 0 := by rw [hX]; exact m1
  have xc : f_X2_chosenItem X = some (some i) := by
    rw [← c1, hX]
    exact chos_same rfl rfl rfl (fun k => by
      show Kit (sKit a' i 10 _) k 9 = _
      exact Kit_n (by decide)) rfl
  obtain ⟨b2, hb2⟩ := t2.1
  have ix : i < Kn X := by rw [xn]; exact i1
  obtain ⟨W, w1, w2, w3⟩ := press_use t2 x6 xc (by rw [xm, xm]; exact o3)
  have kX : ¬ Kit X i 1 = 0 := by rw [xm]; exact k1
  rw [if_neg kX] at w1 w3
  obtain ⟨b3, hb3⟩ := w2.1
  have w6 : Khi W 10 6 = 1 := by rw [w3]; rfl
  have w8 : Khi W 10 8 = Kit X i 10 := by rw [w3]; rfl
  have wk : Kit W = Kit X := by rw [w3]; rfl
  have wn : Kn W = Kn X := by rw [w3]; rfl
  obtain ⟨Z, z1, z2, z3, -⟩ := hold_all w2
  rw [w6] at z1
  have pz : f_X8_press X = some (3, W) := by
    unfold f_X8_press
    rw [w1]; rfl
  have fin : OK B a (f_L_acts_660 a' (vs (Kit a) 43 0 (Kn a)) 1) := by
    unfold f_L_acts_660 f_L_acts_665
    rw [if_neg n10, if_neg n10, t1, bs, gd_d rfl, q_chosen hb2.1 ix xc, bs, if_neg (fun z => z rfl), values_same hb2.1 xn (fun k => xm k 1) (fun k => xm k 10), bs, if_neg (lc0 _), pz, bs, if_neg (show ¬ ¬ (3 : Int32) = 3 from fun z => z rfl), q_draft1 w6, bs, q_value hb3.1 (show i < Kn W by rw [wn]; exact ix) (by rw [wk]; exact kX), bs, gd_d rfl, if_neg (show ¬ ¬ Khi W 10 8 = Kit W i 10 from fun z => z (by rw [w8, wk])), z1, bs, if_neg nn11]
    exact ⟨Z, rfl, z2.up (by omega), by rw [z3.2.2.2.2.2.1 0 11 (by decide), wk, xm], by rw [z3.1, wn, xn]⟩
  have h613 : OK B a (f_L_acts_613 a' (vs (Kit a) 43 0 (Kn a)) 4 1) := by
    unfold f_L_acts_613 f_L_acts_642
    rw [if_pos n43, if_pos n47]
    exact fin
  have h542 : OK B a (f_L_acts_542 a' (vs (Kit a) 43 0 (Kn a)) (Khi a 3 2) 4 1) := by
    unfold f_L_acts_542 f_L_acts_559 f_L_acts_596
    rw [if_neg (by decide), if_neg (by decide), if_neg n10, show f_X8_logged a' = some (Khi a' 3 2) from rfl, bs, if_neg n10, l1]
    rcases l2 with l2 | ⟨rfl, l2⟩
    · rw [l2, if_neg (show ¬ 8 ≤ oN q by rw [show (8 : Int32) = oN 8 from rfl, oN_le (by decide) (by omega)]; omega), oN_succ, if_neg (fun z => z rfl), if_pos n42]
      exact h613
    · rw [l2, if_pos (show (8 : Int32) ≤ oN 8 from Int32.le_refl _), if_neg (show ¬ ¬ oN (7 + 1) = 8 from fun z => z rfl), if_pos n42]
      exact h613
  unfold f_L_acts_505 f_L_acts_531
  rw [if_pos n10]
  by_cases g : Khi a 10 11 = 0
  · rw [if_pos g]; exact h542
  · rw [if_neg g, if_neg n42]; exact h542
theorem ne_plus (x : Int32) : ¬ x = x + 1 := by
  intro z
  have h := congrArg (fun t => t - x) z
  have e1 : x - x = 0 := Int32.sub_self x
  have e2 : x + 1 - x = 1 := sub_self32 x 1
  have h : x - x = x + 1 - x := h
  rw [e1, e2] at h
  exact absurd h (by decide)
