/-! ===== the end of an edit, a press ===== -/
def edit_M (b : MS) : Option (Int32 × MS) := (f_X9_itemAt b (Mhi b 100 12)).bind (fun z3 => gd (inb z3 24) (if (Mhi (sMhi b 100 10 0) 107 (z3.toNatClampNeg)) = (Mhi (sMhi b 100 10 0) 100 13) then (some (4, sMhi b 100 10 0)) else (gd (inb z3 24) ((f_X9_logs (sMhi b 100 10 0) z3 (Mhi (sMhi b 100 10 0) 107 (z3.toNatClampNeg))).bind (fun z7 => gd (inb z3 24) (gd (inb 2 8) (gd (inb 2 8) (some (4, sMhi (sMhi z7 107 (z3.toNatClampNeg) (Mhi z7 100 13)) 120 ((2 : Int32).toNatClampNeg) ((Mhi (sMhi z7 107 (z3.toNatClampNeg) (Mhi z7 100 13)) 120 ((2 : Int32).toNatClampNeg)) + 1))))))))))
theorem edit_eq {j : Nat} {a : KS} {b : MS} (h : Rel j a b) {i : Nat} (hi : i < Kn a) (hk : ¬ Kit a i 1 = 0) (hx : VR (Kit a i) (Khi a 10 8)) (hm : f_X9_itemAt b (Mhi b 100 12) = some (oN i)) : ∃ (a' : KS) (b' : MS), f_X2_endEdit a (some i) = some (4, a') ∧ edit_M b = some (4, b') ∧ Mhi b' 100 0 = Mhi b 100 0 ∧ Rel j a' b' := by
  have it := it_at h.1 hi
  have h0 := mode0 h
  have d8 : Khi a 10 8 = Mhi b 100 13 := h.2.1.2.2.1
  have e1 : Kit (sKhi a 10 6 0) i 10 = Kit a i 10 := rfl
  have e2 : Khi (sKhi a 10 6 0) 10 8 = Khi a 10 8 := rfl
  have e3 : Mhi (sMhi b 100 10 0) 107 i = Kit a i 10 := it.2.2.2.2.2.1.symm
  have e4 : Mhi (sMhi b 100 10 0) 100 13 = Khi a 10 8 := d8.symm
  unfold f_X2_endEdit edit_M
  rw [odr_s (show i < Kn (sKhi a 10 6 0) from hi), hm, bs, gd_t (in24 h.1 hi), cl_n h.1 hi, e1, e2, e3, e4]
  by_cases g : Kit a i 10 = Khi a 10 8
  · rw [if_pos g, if_pos g]
    exact ⟨_, _, rfl, rfl, rfl, h0⟩
  · rw [if_neg g, if_neg g, gd_t (in24 h.1 hi)]
    obtain ⟨a1, b1, r1, r2, r3, r4, r5, r6, r7, r8, r9⟩ := logs_rel h0 (i := i) (x := Kit a i 10) hi hk (h.1.2.2.2.2.2.2.2.1 i hi).2
    rw [r1, bs, r2, bs, gd_d (show i < Kn a1 by rw [r4]; exact hi), gd_t (in24 h.1 hi), gd_t (by decide), gd_t (by decide), show (2 : Int32) = oN 2 from rfl, count_in _ (by decide), bs]
    have x1 : Khi a1 10 8 = Khi a 10 8 := by rw [r6]; rfl
    have x2 : Mhi b1 100 13 = Khi a1 10 8 := by rw [r7, x1]; exact e4
    have hv := val_rel r3 (i := i) (show i < Kn a1 by rw [r4]; exact hi) (x := Khi a1 10 8) (by rw [r5, x1]; exact hx)
    refine ⟨_, _, rfl, rfl, ?_, ?_⟩
    · show Mhi b1 100 0 = _
      rw [r8]; rfl
    · rw [x2]
      exact bump hv (e := 2) (by decide) 1
theorem presses_K (a : KS) : f_X2_pressKnob a = (f_X2_count (sKhi a 10 10 0) 1 1).bind (fun z1 => (f_X2_chosenItem z1).bind (fun z6 => ocs z6 ((f_X2_goBack z1).bind (fun z12 => some (z12.1, z12.2))) (fun i10 => if ¬ (Khi z1 10 6) = 1 then (if ¬ (Khi z1 10 6) = 2 then (gd (decide (i10 < Kn z1)) ((f_X4_closed z1 i10).bind (fun z20 => if z20 = 0 then ((f_X2_use z1 (some i10)).bind (fun z24 => some (z24.1, z24.2))) else ((f_X2_beginCode z1).bind (fun z30 => some (z30.1, z30.2)))))) else ((f_X2_endDigit z1 (some i10)).bind (fun z36 => some (z36.1, z36.2)))) else ((f_X2_endEdit z1 (some i10)).bind (fun z41 => some (z41.1, z41.2)))))) := rfl
theorem presses_M (b : MS) : f_X9_presses b = if ¬ (Mhi (sMhi (sMhi b 100 16 0) 120 1 (Mhi b 120 1 + 1)) 100 10) = 0 then (if ¬ (Mhi (sMhi (sMhi b 100 16 0) 120 1 (Mhi b 120 1 + 1)) 100 10) = 2 then edit_M (sMhi (sMhi b 100 16 0) 120 1 (Mhi b 120 1 + 1)) else ((f_X9_codeDone (sMhi (sMhi b 100 16 0) 120 1 (Mhi b 120 1 + 1))).bind (fun z10 => some (z10.1, z10.2)))) else ((f_X9_goesOn (sMhi (sMhi b 100 16 0) 120 1 (Mhi b 120 1 + 1))).bind (fun z13 => some (z13.1, z13.2))) := rfl
theorem presses_eq {j : Nat} (j' : Nat) {a : KS} {b : MS} (h : Rel j a b) : ∃ (r : Int32) (a' : KS) (b' : MS), f_X2_pressKnob a = some (r, a') ∧ f_X9_presses b = some (r, b') ∧ Mhi b' 100 0 = Mhi b 100 0 ∧ Rel j' a' b' := by
  have h1 : Rel j' (sKhi (sKhi a 10 10 0) 13 1 (Khi (sKhi a 10 10 0) 13 1 + 1)) (sMhi (sMhi b 100 16 0) 120 1 (Mhi b 120 1 + 1)) := bump (idle0 j' h) (e := 1) (by decide) 1
  have t0 : Mhi (sMhi (sMhi b 100 16 0) 120 1 (Mhi b 120 1 + 1)) 100 0 = Mhi b 100 0 := rfl
  rw [presses_K, presses_M, show f_X2_count (sKhi a 10 10 0) 1 1 = some (sKhi (sKhi a 10 10 0) 13 1 (Khi (sKhi a 10 10 0) 13 1 + 1)) from count_in (e := 1) _ (by decide) 1, bs, ← t0]
  generalize sKhi (sKhi a 10 10 0) 13 1 (Khi (sKhi a 10 10 0) 13 1 + 1) = a1 at h1 ⊢
  generalize sMhi (sMhi b 100 16 0) 120 1 (Mhi b 120 1 + 1) = b1 at h1 ⊢
  have hm : Khi a1 10 6 = Mhi b1 100 10 := h1.2.1.2.1.1
  have n01 : ¬ (0 : Int32) = 1 := by decide
  have n02 : ¬ (0 : Int32) = 2 := by decide
  have n12 : ¬ (1 : Int32) = 2 := by decide
  have n21 : ¬ (2 : Int32) = 1 := by decide
  rw [← hm]
  rcases h1.2.1.2.1.2 with m | m | m
  · obtain ⟨r, a', b', r1, r2, r3, r4⟩ := browse_eq h1 m
    refine ⟨r, a', b', ?_, ?_, r3, r4⟩
    · rw [← r1]
      unfold browse_K
      have e : ∀ z6, (fun z6 => ocs z6 ((f_X2_goBack a1).bind (fun z12 => some (z12.1, z12.2))) (fun i10 => if ¬ (Khi a1 10 6) = 1 then (if ¬ (Khi a1 10 6) = 2 then (gd (decide (i10 < Kn a1)) ((f_X4_closed a1 i10).bind (fun z20 => if z20 = 0 then ((f_X2_use a1 (some i10)).bind (fun z24 => some (z24.1, z24.2))) else ((f_X2_beginCode a1).bind (fun z30 => some (z30.1, z30.2)))))) else ((f_X2_endDigit a1 (some i10)).bind (fun z36 => some (z36.1, z36.2)))) else ((f_X2_endEdit a1 (some i10)).bind (fun z41 => some (z41.1, z41.2))))) z6 = (fun z6 => ocs z6 ((f_X2_goBack a1).bind (fun z12 => some (z12.1, z12.2))) (fun i10 => gd (decide (i10 < Kn a1)) ((f_X4_closed a1 i10).bind (fun z20 => if z20 = 0 then ((f_X2_use a1 (some i10)).bind (fun z24 => some (z24.1, z24.2))) else ((f_X2_beginCode a1).bind (fun z30 => some (z30.1, z30.2))))))) z6 := by
        intro z6
        cases z6 with
        | none => rfl
        | some i =>
          show (if ¬ Khi a1 10 6 = 1 then _ else _) = _
          rw [m, if_pos n01, if_pos n02]; rfl
      exact congrArg _ (funext e)
    · rw [m, if_neg (show ¬ ¬ (0 : Int32) = 0 from fun z => z rfl), r2]; rfl
  · obtain ⟨s, c, d1, d2, d2b, d3, d4, d5, d6, ⟨i, i1, i2, i3, i4, i5, i6, i7, i8⟩ | ⟨m', -⟩⟩ := chosen_eq h1.1 h1.2.1
    · obtain ⟨⟨s', c', e1, e2, e3, e4, e5, e6, e7, e8, e9⟩, -⟩ := h1.2.1
      obtain rfl : s' = s := Option.some.inj (e1.symm.trans d1)
      have cc : c' = c := by
        have h9 := (h1.1.2.2.2.2.2.2.1 s' d2).2
        exact oN_inj (by omega) (by omega) (e5.symm.trans d4)
      subst cc
      obtain ⟨k1, k2⟩ := e9 m i i6
      obtain ⟨a', b', r1, r2, r3, r4⟩ := edit_eq h1 i2 k1 k2 i7
      refine ⟨4, a', b', ?_, ?_, r3, r4⟩
      · rw [i8, bs, ocs_s, m, if_neg (show ¬ ¬ (1 : Int32) = 1 from fun z => z rfl), r1]; rfl
      · rw [m, if_pos n10, if_pos n12, r2]
    · exact absurd (m.symm.trans m') n10
  · obtain ⟨s, c, d1, d2, d2b, d3, d4, d5, d6, ⟨i, i1, i2, i3, i4, i5, i6, i7, i8⟩ | ⟨m', -⟩⟩ := chosen_eq h1.1 h1.2.1
    · obtain ⟨r, a', b', r1, r2, r3, r4⟩ := digit_eq h1 m i8 i7 i2
      refine ⟨r, a', b', ?_, ?_, r3, r4⟩
      · rw [i8, bs, ocs_s, m, if_pos n21, if_neg (show ¬ ¬ (2 : Int32) = 2 from fun z => z rfl), r1]; rfl
      · rw [m, if_pos n20, if_neg (show ¬ ¬ (2 : Int32) = 2 from fun z => z rfl), r2]; rfl
    · exact absurd (m.symm.trans m') n20
theorem s_10 : S_10 Rel := by
  intro j a b v1 v2 v3 v4 hj h
  obtain ⟨r, a', b', r1, r2, -, r3⟩ := presses_eq j (h.thr 0)
  refine ⟨(r, a'), (r, b'), ?_, ?_, rfl, r3.up⟩
  · unfold f_X8_press; rw [r1]; rfl
  · unfold f_X9_press; rw [r2]; rfl
