/-! ===== the display ===== -/
theorem cho {j : Nat} {a : KS} {b : MS} (h : Rel j a b) {i : Nat} (hc : f_X2_chosenItem a = some (some i)) : i < Kn a ∧ f_X9_itemAt b (Mhi b 100 12) = some (oN i) ∧ (Khi a 10 6 = 1 → ¬ Kit a i 1 = 0 ∧ VR (Kit a i) (Khi a 10 8)) := by
  obtain ⟨s, c, d1, d2, d2b, d3, d4, d5, d6, ⟨i', i1, i2, i3, i4, i5, i6, i7, i8⟩ | ⟨m', x1, x2, x3, x4⟩⟩ := chosen_eq h.1 h.2.1
  · have e : i' = i := Option.some.inj (Option.some.inj (i8.symm.trans hc))
    subst e
    refine ⟨i2, i7, fun m => ?_⟩
    obtain ⟨⟨s', c', e1, e2, e3, e4, e5, e6, e7, e8, e9⟩, -⟩ := h.2.1
    obtain rfl : s' = s := Option.some.inj (e1.symm.trans d1)
    have cc : c' = c := by
      have h9 := (h.1.2.2.2.2.2.2.1 s' d2).2
      exact oN_inj (by omega) (by omega) (e5.symm.trans d4)
    subst cc
    exact e9 m i' i6
  · exact absurd (Option.some.inj (x4.symm.trans hc)) (by intro z; cases z)
theorem cho_n {j : Nat} {a : KS} {b : MS} (h : Rel j a b) (hc : f_X2_chosenItem a = some none) : f_X9_itemAt b (Mhi b 100 12) = some (-1) ∧ Khi a 10 6 = 0 := by
  obtain ⟨s, c, d1, d2, d2b, d3, d4, d5, d6, ⟨i', i1, i2, i3, i4, i5, i6, i7, i8⟩ | ⟨m', x1, x2, x3, x4⟩⟩ := chosen_eq h.1 h.2.1
  · exact absurd (Option.some.inj (i8.symm.trans hc)) (by intro z; cases z)
  · exact ⟨x3, m'⟩
theorem cho_ex {j : Nat} {a : KS} {b : MS} (h : Rel j a b) : f_X2_chosenItem a = some none ∨ ∃ i, f_X2_chosenItem a = some (some i) := by
  obtain ⟨s, c, d1, d2, d2b, d3, d4, d5, d6, ⟨i', i1, i2, i3, i4, i5, i6, i7, i8⟩ | ⟨m', x1, x2, x3, x4⟩⟩ := chosen_eq h.1 h.2.1
  · exact Or.inr ⟨i', i8⟩
  · exact Or.inl x4
theorem chs_sc (a : KS) (f : Nat → Int32) : f_X2_chosenItem (sc a f) = f_X2_chosenItem a := rfl
/-- the second line while browsing -/
theorem line2_eq {j : Nat} {a : KS} {b : MS} (h : Rel j a b) (m0 : Khi a 10 6 = 0) {f g : Nat → Int32} (he : EQ 1 f g) (hb : BL 0 g) (hc : CH f) : ∃ o s f' g', f_X2_chosenItem a = some o ∧ Ksh a = some s ∧ f_X6_writeChosen (sc a f) (some s) o = some (sc a f') ∧ f_X9_secondLine (sm b g) = some (sm b g') ∧ EQ 1 f' g' ∧ OT 1 f f' ∧ CH f' := by
  have hn := rt_n h.1
  have hm : Rel j a (sm b g) := h
  have m1 : Khi a 10 6 = Mhi b 100 10 := h.2.1.2.1.1
  have n01 : ¬ (0 : Int32) = 1 := by decide
  have n02 : ¬ (0 : Int32) = 2 := by decide
  obtain ⟨s, c, d1, d2, d2b, d3, -⟩ := h.2.1.1
  have m2 : Mhi (sm b g) 100 10 = 0 := m1.symm.trans m0
  unfold f_X9_secondLine f_X6_writeChosen f_X6_writeState
  rw [m2, if_pos n01, if_pos n02]
  rcases cho_ex h with x | ⟨i, x⟩
  · obtain ⟨y1, -⟩ := cho_n hm x
    have es : Mhi (sm b g) 100 11 = oN s := d3
    refine ⟨none, s, ?_⟩
    rw [y1, bs, if_neg (show ¬ ¬ (-1 : Int32) = -1 from fun z => z rfl), ocs_n, odr_s (show s < Kn (sc a f) from d2), es, entries_M hm.1 d2, bs, show f_X4_entries (sc a f) s = f_X4_entries a s from rfl, entries_K h.1 d2, bs]
    by_cases z : oN (cnt (Kmn a) s (Kn a) + if s = 0 then 0 else 1) ≤ 0
    · rw [if_pos z, if_pos z]
      exact ⟨f, g, x, d1, rfl, rfl, he, OT_rf, hc⟩
    · rw [if_neg z, if_neg z, begins_M, bs, show f_X6_write (sc a f) 1 5 = _ from write_K (r := 1) (s := 5) (by decide) (by decide), bs]
      exact ⟨_, _, x, d1, rfl, rfl, E_wf 4 0 f g he, OT_wf 4 0 f (by decide), CH_wf 4 0 f hc (fun i _ h => ss_chr (by decide) i (by rw [Nat.zero_add] at h; exact h))⟩
  · obtain ⟨hi, y1, -⟩ := cho hm x
    refine ⟨some i, s, ?_⟩
    rw [y1, bs, if_pos (oN_ne1 (by omega)), ocs_s]
    obtain ⟨f1, g1, r1, r2, r3, r4, r5, r6⟩ := name_eq h hi (r := 1) (by decide) he hb hc
    have hm1 : Rel j a (sm b g1) := h
    rw [show f_X6_writeName (sc a f) 1 (some i) = _ from r1, bs, r2, bs, odr_s (show i < Kn (sc a f1) from hi), show f_X4_closed (sc a f1) i = f_X4_closed a i from rfl, closed_in hi, bs, isShut_in hm1.1 hi, bs]
    by_cases k : ¬ Kit a i 11 = -1 ∧ Kit a i 12 = 0
    · rw [if_pos k, if_neg n10, if_neg n10, gd_t (by decide), show f_X6_put (sc a f1) 1 15 76 = _ from put_in (r := 1) (c := 15) (by decide) (by decide), bs, bs, show (15 : Int32).toNatClampNeg = 15 from rfl, sm_set]
      exact ⟨_, _, x, d1, rfl, rfl, E_wr r3, OT_tr r5 (OT_wr (by decide)), CH_wr r6 (x := 76) (by decide) rfl⟩
    · rw [if_neg k, if_pos rfl, if_pos rfl, isMenu_in hm1.1 hi, bs, show Kit (sc a f1) i 1 = Kit a i 1 from rfl]
      by_cases kd : Kit a i 1 = 0
      · rw [if_pos kd, if_neg (fun z => z kd), if_neg n10, gd_t (by decide), show f_X6_put (sc a f1) 1 15 62 = _ from put_in (r := 1) (c := 15) (by decide) (by decide), bs, bs, show (15 : Int32).toNatClampNeg = 15 from rfl, sm_set]
        exact ⟨_, _, x, d1, rfl, rfl, E_wr r3, OT_tr r5 (OT_wr (by decide)), CH_wr r6 (x := 62) (by decide) rfl⟩
      · obtain ⟨k9, vr⟩ := h.1.2.2.2.2.2.2.2.1 i hi
        obtain ⟨q, q1, q2⟩ := val_q k9 vr
        obtain ⟨f2, g2, t1, t2, t3, t4, t5⟩ := ends_eq (a := a) (b := b) q1 q2 r3 (BL_up r4 (by decide)) r6
        have ev : Mhi (sm b g1) 107 i = Kit a i 10 := (it_at h.1 hi).2.2.2.2.2.1.symm
        rw [if_neg kd, if_pos kd, if_pos rfl, gd_t (in24 h.1 hi), cl_n h.1 hi, ev, t2, bs, show Kit (sc a f1) i 10 = Kit a i 10 from rfl, t1, bs, bs]
        exact ⟨f2, g2, x, d1, rfl, rfl, t3, OT_tr r5 t4, t5⟩
theorem draw_eq {j : Nat} {a : KS} {b : MS} (h : Rel j a b) : ∃ f g0 g1, f_X6_draw a = some (sc a f) ∧ CH f ∧ f_X9_lays b 0 = some (sm b g0) ∧ EQ 0 f g0 ∧ f_X9_lays b 1 = some (sm b g1) ∧ EQ 1 f g1 := by
  have hn := rt_n h.1
  have m1 : Khi a 10 6 = Mhi b 100 10 := h.2.1.2.1.1
  have n01 : ¬ (0 : Int32) = 1 := by decide
  have n02 : ¬ (0 : Int32) = 2 := by decide
  have n12 : ¬ (1 : Int32) = 2 := by decide
  have n21 : ¬ (2 : Int32) = 1 := by decide
  obtain ⟨f0, p1, p2⟩ := clear_K a
  obtain ⟨g0, p3, p4⟩ := lays_in b 0
  obtain ⟨g1, p5, p6⟩ := lays_in b 1
  have c0 : CH f0 := fun k hk => ⟨32, by decide, p1 k hk⟩
  have e0 : EQ 0 f0 g0 := fun k hk => by rw [p1 _ (by omega), p3 k (by omega) hk]
  have e1 : EQ 1 f0 g1 := fun k hk => by rw [p1 _ (by omega), p5 k (by omega) hk]
  have h0 : Rel j a (sm b g0) := h
  have h1 : Rel j a (sm b g1) := h
  have x0 : Mhi (sm b g0) 100 10 = Khi a 10 6 := m1.symm
  have x1 : Mhi (sm b g1) 100 10 = Khi a 10 6 := m1.symm
  rw [if_neg (show ¬ ¬ (0 : Int32) = 0 from fun z => z rfl)] at p4
  rw [if_pos n10] at p6
  rw [p4, p6]
  unfold f_X6_draw f_X9_firstLine f_X9_firstLine_51
  rw [p2, bs, chs_sc, x0, show Khi (sc a f0) 10 6 = Khi a 10 6 from rfl]
  rcases h.2.1.2.1.2 with m | m | m
  · obtain ⟨s, c, d1, d2, d2b, d3, -⟩ := h.2.1.1
    obtain ⟨f1, g0', r1, r2, r3, r4, r5, r6⟩ := name_eq h d2 (r := 0) (by decide) e0 p3 c0
    obtain ⟨o, s', f2, g1', t1, t2, t3, t4, t5, t6, t7⟩ := line2_eq h m (r5 1 (by decide) _ e1) p5 r6
    obtain rfl : s' = s := Option.some.inj (t2.symm.trans d1)
    have es : Mhi (sm b g0) 100 11 = oN s' := d3
    refine ⟨f2, g0', g1', ?_, t7, ?_, t6 0 (by decide) _ r3, t4, t5⟩
    · rw [t1, bs, m, if_pos n01, if_pos n02, show Ksh (sc a f0) = Ksh a from rfl, d1, lt_e, show f_X6_writeName (sc a f0) 0 (some s') = _ from r1, bs, show Ksh (sc a f1) = Ksh a from rfl, d1, lt_e, t3, bs]
    · rw [m, if_neg nn00, es, r2, bs]
  · rcases cho_ex h with x | ⟨i, x⟩
    · exact absurd (m.symm.trans (cho_n h x).2) n10
    · obtain ⟨hi, y1, -⟩ := cho h0 x
      obtain ⟨-, -, y3⟩ := cho h x
      obtain ⟨k9, -⟩ := h.1.2.2.2.2.2.2.2.1 i hi
      obtain ⟨q, q1, q2⟩ := val_q k9 (y3 m).2
      obtain ⟨f1, g0', r1, r2, r3, r4, r5, r6⟩ := title_eq (a := a) (b := b) (i := i) (s := 0) (by omega) hi (it_at h.1 hi).1 (Or.inl rfl) e0 p3 c0
      obtain ⟨f2, g1', t1, t2, t3, t4, t5⟩ := ends_eq (a := a) (b := b) q1 q2 (r5 1 (by decide) _ e1) (BL_up p5 (by decide)) r6
      have ed : Mhi (sm b g1) 100 13 = Khi a 10 8 := h.2.1.2.2.1.symm
      have y1' : f_X9_itemAt (sm b (wr (wr (wr (wr g0 0 69) 1 68) 2 73) 3 84)) (Mhi (sm b (wr (wr (wr (wr g0 0 69) 1 68) 2 73) 3 84)) 100 12) = some (oN i) := (cho (show Rel j a (sm b (wr (wr (wr (wr g0 0 69) 1 68) 2 73) 3 84)) from h) x).2.1
      refine ⟨f2, g0', g1', ?_, t5, ?_, t4 0 (by decide) _ r3, ?_, t3⟩
      · rw [x, bs, m, if_neg nn11, r1, bs, show Khi (sc a f1) 10 8 = Khi a 10 8 from rfl, t1, bs]
      · rw [m, if_pos n10, if_neg nn11, begins_M, bs, y1', bs]
        show (f_X9_writes (sm b (wf 0 (ss 0) 0 4 g0)) (oN i) 5).bind _ = _
        rw [r2, bs]
      · unfold f_X9_secondLine
        rw [x1, m, if_neg nn11, ed, t2, bs]
  · rcases cho_ex h with x | ⟨i, x⟩
    · exact absurd (m.symm.trans (cho_n h x).2) n20
    · obtain ⟨hi, y1, -⟩ := cho h0 x
      obtain ⟨f1, g0', r1, r2, r3, r4, r5, r6⟩ := title_eq (a := a) (b := b) (i := i) (s := 1) (by omega) hi (it_at h.1 hi).1 (Or.inr rfl) e0 p3 c0
      obtain ⟨f2, g1', t1, t2, t3, t4, t5⟩ := digs_l h FU 0 f1 g1 (by decide) (by decide) (r5 1 (by decide) _ e1) r6
      have y1' : f_X9_itemAt (sm b (wr (wr (wr (wr g0 0 67) 1 79) 2 68) 3 69)) (Mhi (sm b (wr (wr (wr (wr g0 0 67) 1 79) 2 68) 3 69)) 100 12) = some (oN i) := (cho (show Rel j a (sm b (wr (wr (wr (wr g0 0 67) 1 79) 2 68) 3 69)) from h) x).2.1
      refine ⟨f2, g0', g1', ?_, t5, ?_, t4 0 (by decide) _ r3, ?_, t3⟩
      · unfold f_X6_writeDigits
        rw [x, bs, m, if_pos n21, if_neg nn22, r1, bs, show l_X6_writeDigits_2 FU (sc a f1) 0 = _ from t1, bs]
      · rw [m, if_pos n20, if_pos n21, begins_M, bs, y1', bs]
        show (f_X9_writes (sm b (wf 0 (ss 1) 0 4 g0)) (oN i) 5).bind _ = _
        rw [r2, bs]
      · unfold f_X9_secondLine
        rw [x1, m, if_pos n21, if_neg nn22]
        exact t2
theorem okc_in : ∀ x : Nat, x < 127 → okc (oN x) = true := by decide
theorem sign_in {a : KS} {f : Nat → Int32} (hf : CH f) {r c : Nat} (hr : r < 2) (hc : c < 16) : f_X6_signAt (sc a f) (oN r) (oN c) = some (f (16 * r + c)) := by
  have e : oN r * 16 + oN c = oN (16 * r + c) := by
    rw [show (16 : Int32) = oN 16 from rfl, oN_mul, oN_add, Nat.mul_comm]
  have g : ¬ 32 ≤ oN (16 * r + c) := fun z => by rw [show (32 : Int32) = oN 32 from rfl, oN_le (by decide) (by omega)] at z; omega
  obtain ⟨x, x1, x2⟩ := hf (16 * r + c) (by omega)
  unfold f_X6_signAt
  rw [e, lt_e, if_neg (oN_nn (by omega)), if_neg g, gd_t (inb_oN (by omega) (by decide)), ofNat_cl (by omega), show Khi (sc a f) 15 = f from rfl, x2, gd_t (okc_in x x1.2)]
theorem s_26 : S_26 Rel := by
  intro j a b v1 v2 v3 v4 hj h
  by_cases o : v1 < 0 ∨ 2 ≤ v1 ∨ v2 < 0 ∨ ¬ v2 < 16
  · refine ⟨(1, a), (0, sMhi b 100 0 1), 1, ?_, ?_, rfl, rfl, fun q => absurd q n10, h.nx 1⟩
    · unfold f_L_display f_X8_display f_X8_display_19
      by_cases a1 : v1 < 0
      · rw [if_pos a1]; rfl
      · rw [if_neg a1]
        by_cases a2 : 2 ≤ v1
        · rw [if_pos a2]; rfl
        · rw [if_neg a2]
          by_cases a3 : v2 < 0
          · rw [if_pos a3]; rfl
          · rw [if_neg a3, if_neg (((o.resolve_left a1).resolve_left a2).resolve_left a3)]; rfl
    · unfold f_X9_display f_X9_display_24 f_X9_display_25
      by_cases a1 : v1 < 0 ∨ 1 < v1
      · rw [in_f a1]; rfl
      · rw [in_t (fun z => a1 (Or.inl z)) (fun z => a1 (Or.inr z)), bs, if_neg n10, in_f, bs]
        · rfl
        · rcases o with o | o | o | o
          · exact absurd (Or.inl o) a1
          · refine absurd (Or.inr ?_) a1
            rw [Int32.le_iff_toInt_le] at o
            rw [Int32.lt_iff_toInt_lt]
            have y1 : (1 : Int32).toInt = 1 := by decide
            have y2 : (2 : Int32).toInt = 2 := by decide
            omega
          · exact Or.inl o
          · refine Or.inr ?_
            rw [Int32.lt_iff_toInt_lt] at o ⊢
            have y1 : (15 : Int32).toInt = 15 := by decide
            have y2 : (16 : Int32).toInt = 16 := by decide
            omega
  · have a1 : ¬ v1 < 0 := fun z => o (Or.inl z)
    have a2 : ¬ 2 ≤ v1 := fun z => o (Or.inr (Or.inl z))
    have a3 : ¬ v2 < 0 := fun z => o (Or.inr (Or.inr (Or.inl z)))
    have a4 : v2 < 16 := Decidable.byContradiction fun z => o (Or.inr (Or.inr (Or.inr z)))
    have b1 : ¬ 1 < v1 := by
      rw [Int32.le_iff_toInt_le] at a2
      rw [Int32.lt_iff_toInt_lt]
      have y1 : (1 : Int32).toInt = 1 := by decide
      have y2 : (2 : Int32).toInt = 2 := by decide
      omega
    have b2 : ¬ 15 < v2 := by
      rw [Int32.lt_iff_toInt_lt] at a4 ⊢
      have y1 : (15 : Int32).toInt = 15 := by decide
      have y2 : (16 : Int32).toInt = 16 := by decide
      omega
    obtain ⟨r, -, r1, er⟩ := rng2 (lo := 0) (hi := 1) (by decide) (by decide) a1 b1
    obtain ⟨c, -, c1, ec⟩ := rng2 (lo := 0) (hi := 15) (by decide) (by decide) a3 b2
    obtain ⟨f, g0, g1, t1, t2, t3, t4, t5, t6⟩ := draw_eq (h.thr 0)
    have key : ∃ g, f_X9_lays (sMhi b 100 0 0) (oN r) = some (sm (sMhi b 100 0 0) g) ∧ EQ r f g := by
      rcases Nat.eq_zero_or_pos r with z | z
      · rw [z]; exact ⟨g0, t3, t4⟩
      · rw [show r = 1 by omega]; exact ⟨g1, t5, t6⟩
    obtain ⟨g, k1, k2⟩ := key
    have hrel : Rel j (sc a f) (sm (sMhi b 100 0 0) g) := h
    refine ⟨(0, sKou (sc a f) 0 (f (16 * r + c)).toInt64), (g c, sm (sMhi b 100 0 0) g), 0, ?_, ?_, rfl, rfl, fun _ => ?_, (hrel.kou 0 _).up⟩
    · unfold f_L_display f_X8_display
      rw [if_neg a1, if_neg a2, if_neg a3, if_pos a4, t1, bs, er, ec, sign_in t2 (by omega) (by omega)]; rfl
    · unfold f_X9_display f_X9_display_25
      rw [in_t a1 b1, bs, if_neg n10, in_t a3 b2, bs, if_neg n10, holds_0, bs, if_pos n10, er, k1, bs, ec, gd_t (inb_oN (by omega) (by decide)), ofNat_cl (by omega)]
      rfl
    · show (f (16 * r + c)).toInt64 = _
      rw [k2 c (by omega)]
