/-! ===== pressing ===== -/
theorem zero_K (a : KS) : l_X2_beginCode_22 FU a 0 = some (5, sKhi (sKhi (sKhi (sKhi a 11 0 0) 11 1 0) 11 2 0) 11 3 0) := rfl
theorem zero_M (b : MS) : l_X9_goesOn_84 FU b 0 = some (5, sMhi (sMhi (sMhi (sMhi b 114 0 0) 114 1 0) 114 2 0) 114 3 0) := rfl
theorem code_K (a : KS) : f_X2_enteredCode a = some (10 * (10 * (10 * (10 * 0 + Khi a 11 0) + Khi a 11 1) + Khi a 11 2) + Khi a 11 3) := rfl
theorem code_eq (x y z w : Int32) : 10 * (10 * (10 * (10 * 0 + x) + y) + z) + w = 1000 * x + 100 * y + 10 * z + w := by
  rw [Int32.mul_zero, Int32.zero_add, Int32.mul_add, Int32.mul_add, Int32.mul_add, ← Int32.mul_assoc, ← Int32.mul_assoc, ← Int32.mul_assoc]
  rfl
theorem bump {j : Nat} {a : KS} {b : MS} (h : Rel j a b) {e : Nat} (he : e < 8) (w : Int32) : Rel j (sKhi a 13 e (Khi a 13 e + w)) (sMhi b 120 e (Mhi b 120 e + w)) := by
  obtain ⟨hT, ⟨d1, d2, d3, d4, d5, d6, d7, d8, d9, ev⟩, hr⟩ := h
  exact ⟨hT, ⟨d1, d2, d3, d4, d5, d6, d7, d8, d9, ev_up ev (by rw [ev e he])⟩, hr⟩
/-- what a press does while browsing -/
def browse_K (a : KS) : Option (Int32 × KS) := (f_X2_chosenItem a).bind (fun z6 => ocs z6 ((f_X2_goBack a).bind (fun z12 => some (z12.1, z12.2))) (fun i10 => gd (decide (i10 < Kn a)) ((f_X4_closed a i10).bind (fun z20 => if z20 = 0 then ((f_X2_use a (some i10)).bind (fun z24 => some (z24.1, z24.2))) else ((f_X2_beginCode a).bind (fun z30 => some (z30.1, z30.2)))))))
theorem browse_eq {j : Nat} {a : KS} {b : MS} (h : Rel j a b) (m0 : Khi a 10 6 = 0) : ∃ (r : Int32) (a' : KS) (b' : MS), browse_K a = some (r, a') ∧ f_X9_goesOn b = some (r, b') ∧ Mhi b' 100 0 = Mhi b 100 0 ∧ Rel j a' b' := by
  have hn := rt_n h.1
  have n01 : ¬ (0 : Int32) = 1 := by decide
  have n21 : ¬ (2 : Int32) = 1 := by decide
  obtain ⟨s, c, d1, d2, d2b, d3, d4, d5, d6, ⟨i, i1, i2, i3, i4, i5, i6, i7, i8⟩ | ⟨-, i5, i6, i7, i8⟩⟩ := chosen_eq h.1 h.2.1
  · have it := it_at h.1 i2
    unfold browse_K f_X9_goesOn
    rw [i8, bs, ocs_s, gd_d i2, closed_in i2, bs, i7, bs, if_pos (oN_ne1 (by omega)), isShut_in h.1 i2, bs]
    have hr := h
    obtain ⟨hT, ⟨⟨s', c', e1, e2, e3, e4, e5, e6, e7, e8, e9⟩, ⟨m1, m2⟩, m8, pl, idl, ⟨w, w1, w2, w3⟩, wr, dg, se, ev⟩, hrest⟩ := hr
    obtain rfl : s' = s := Option.some.inj (e1.symm.trans d1)
    have cc : c' = c := by
      have h9 := (hT.2.2.2.2.2.2.1 s' d2).2
      exact oN_inj (by omega) (by omega) (e5.symm.trans d4)
    subst cc
    by_cases k : ¬ Kit a i 11 = -1 ∧ Kit a i 12 = 0
    · rw [if_pos k, if_neg n10, if_neg n10]
      unfold f_X2_beginCode
      rw [w2, w3]
      by_cases g : oN w ≤ 0
      · rw [if_pos g, if_pos g, zero_K, zero_M]
        refine ⟨_, _, _, rfl, rfl, rfl, hT, ⟨⟨s', c', e1, e2, e3, e4, e5, e6, e7, fun _ => i5, fun z => absurd z n21⟩, ⟨rfl, Or.inr (Or.inr rfl)⟩, m8, ⟨0, by decide, rfl, rfl⟩, idl, ⟨w, w1, w2, w3⟩, wr, fun x hx => ?_, se, ev⟩, hrest⟩
        match x, hx with
        | 0, _ => exact ⟨rfl, 0, by decide, rfl⟩
        | 1, _ => exact ⟨rfl, 0, by decide, rfl⟩
        | 2, _ => exact ⟨rfl, 0, by decide, rfl⟩
        | 3, _ => exact ⟨rfl, 0, by decide, rfl⟩
        | x + 4, hx => omega
      · rw [if_neg g, if_neg g]
        exact ⟨_, _, _, rfl, rfl, rfl, h⟩
    · rw [if_neg k, if_pos rfl, if_pos rfl, isMenu_in h.1 i2, bs]
      unfold f_X2_use
      rw [odr_s i2]
      by_cases kd : Kit a i 1 = 0
      · rw [if_neg (fun z => z kd), if_pos kd, if_neg n10]
        refine ⟨_, _, _, rfl, rfl, rfl, hT, ⟨⟨i, 0, rfl, i2, kd, rfl, rfl, rfl, ?_, fun z => absurd m0 z, fun z => absurd (m0.symm.trans z) n01⟩, ⟨m1, m2⟩, m8, pl, idl, ⟨w, w1, w2, w3⟩, wr, dg, se, ev⟩, hrest⟩
        omega
      · rw [if_pos kd, if_neg kd, if_pos rfl, gd_t (in24 h.1 i2), cl_n h.1 i2]
        have hv := (hT.2.2.2.2.2.2.2.1 i i2).2
        refine ⟨_, _, _, rfl, rfl, rfl, hT, ⟨⟨s', c', e1, e2, e3, e4, e5, e6, e7, fun _ => i5, fun _ x hx => ?_⟩, ⟨rfl, Or.inr (Or.inl rfl)⟩, it.2.2.2.2.2.1, pl, idl, ⟨w, w1, w2, w3⟩, wr, dg, se, ev⟩, hrest⟩
        have ex : i = x := Option.some.inj (i6.symm.trans hx)
        subst ex
        exact ⟨kd, hv⟩
  · unfold browse_K f_X9_goesOn f_X2_goBack
    have hr := h
    obtain ⟨hT, ⟨⟨s', c', e1, e2, e3, e4, e5, e6, e7, e8, e9⟩, ⟨m1, m2⟩, m8, pl, idl, bar, wr, dg, se, ev⟩, hrest⟩ := hr
    obtain rfl : s' = s := Option.some.inj (e1.symm.trans d1)
    rw [i8, bs, ocs_n, lt_e, d1, odr_s d2, lt_e, i7, bs, if_neg (show ¬ ¬ (-1 : Int32) = -1 from fun z => z rfl), d3, entries_M hT d2, bs]
    by_cases e : s' = 0
    · subst e
      rw [hT.2.2.2.1.1, ocs_n, bs, if_pos rfl, show cnt (Kmn a) 0 (Kn a) + 0 = 0 by omega, if_neg (show ¬ ¬ oN 0 = 0 from fun z => z rfl)]
      exact ⟨_, _, _, rfl, rfl, rfl, h⟩
    · obtain ⟨p, p1, p2, p3, p4, -, p6, -⟩ := hT.2.2.2.2.1 s' (by omega) d2
      have hlt := cnt_hit (mn := Kmn a) (p := p) (i := s') (by omega) p2
      have hmo := cnt_mono (mn := Kmn a) (p := p) (k := s' + 1) (m := Kn a) (by omega)
      have c8 := (hT.2.2.2.2.2.2.1 s' d2).2
      rw [p2, ocs_s, bs, if_neg e, if_pos (show ¬ oN (cnt (Kmn a) s' (Kn a) + 1) = 0 from fun z => absurd (oN_inj (y := 0) (by omega) (by decide) z) (by omega)), indexOf_in hT (by omega) d2 p2, bs]
      rw [show Mhi (sMhi b 100 12 (oN (cnt (Kmn a) p s'))) 100 11 = Mhi b 100 11 from rfl, d3, gd_t (in24 hT d2), cl_n hT d2, show Mhi (sMhi b 100 12 (oN (cnt (Kmn a) p s'))) 103 s' = Mhi b 103 s' from rfl, p3]
      refine ⟨_, _, _, rfl, rfl, rfl, hT, ⟨⟨p, cnt (Kmn a) p s', rfl, by show p < Kn a; omega, p4, rfl, p6, rfl, Or.inl (by show cnt (Kmn a) p s' < cnt (Kmn a) p (Kn a); omega), fun z => absurd m0 z, fun z => absurd (m0.symm.trans z) n01⟩, ⟨m1, m2⟩, m8, pl, idl, bar, wr, dg, se, ev⟩, hrest⟩
