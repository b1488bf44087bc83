/-! ===== going home, holding ===== -/
theorem goHome_eq {j : Nat} {a : KS} {b : MS} {ev mev : Nat → Int32} (h : RTs a b) (hd : RDx ev mev j a b) (hG : RGs a b) (hP : RPs a b) (hX : RBs a b) : ∃ (a' : KS) (b' : MS), f_X2_goHome a = some a' ∧ f_X9_goHome b = some b' ∧ RTs a' b' ∧ RDx ev mev j a' b' ∧ RGs a' b' ∧ RPs a' b' ∧ RBs a' b' ∧ Khi a' 13 = Khi a 13 ∧ Mhi b' 120 = Mhi b 120 ∧ Mhi b' 100 0 = Mhi b 100 0 ∧ Khi a' 10 6 = 0 ∧ Khi a' 10 10 = Khi a 10 10 := by
  have hn := rt_n h
  have n01 : ¬ (0 : Int32) = 1 := by decide
  have tn : TN (sKhi (sKsh (sKhi a 10 6 0) (some 0)) 10 7 0) := ⟨hn.2, h.1.2.2.1, h.2.1.1⟩
  obtain ⟨it', i1, i2⟩ := close_K FU _ 0 tn (Nat.zero_le _) (by rw [FU_e]; show Kn a - 0 < 1000; omega)
  obtain ⟨f', f1, f2⟩ := close_M FU (sMhi (sMhi (sMhi b 100 10 0) 100 11 0) 100 12 0) (Kn a) 0 hn.2 h.1.2.2.2 (Nat.zero_le _) (by rw [FU_e]; omega)
  have hit : ∀ i m, it' i m = if m = 12 ∧ i < Kn a then 0 else Kit a i m := by
    intro i m
    rw [i2]
    show (if m = 12 ∧ 0 ≤ i ∧ i < Kn a then 0 else Kit a i m) = _
    by_cases g : m = 12 ∧ i < Kn a
    · rw [if_pos ⟨g.1, Nat.zero_le _, g.2⟩, if_pos g]
    · rw [if_neg (fun q => g ⟨q.1, q.2.2⟩), if_neg g]
  have hfm : ∀ m, f' m = if m < Kn a then 0 else Mhi b 109 m := by
    intro m
    rw [f2]
    show (if 0 ≤ m ∧ m < Kn a then 0 else Mhi b 109 m) = _
    by_cases g : m < Kn a
    · rw [if_pos ⟨Nat.zero_le _, g⟩, if_pos g]
    · rw [if_neg (fun q => g q.2), if_neg g]
  have hc : core (Kit a) it' := fun k m m1 m2 m3 => by rw [hit, if_neg (fun q => m3 q.1)]
  have hT : RT (Kn a) (Khi a 1 2) (Mhi b 100 1) it' (Kmn a) (Kch a) (Kti a) (Mhi b 102) (Mhi b 103) (Mhi b 104) (Mhi b 105) (Mhi b 106) (Mhi b 107) (Mhi b 108) f' := by
    refine RT_cg h hc (fun k hk => ?_) (fun k k1 k2 => ?_)
    · have it := it_at h hk
      refine ⟨?_, ?_, ?_, ?_, ?_⟩
      · rw [hit, if_neg (fun q => absurd q.1 (by decide))]; exact it.2.2.2.2.2.1
      · rw [hit, if_neg (fun q => absurd q.1 (by decide))]; exact it.2.2.2.2.2.2.1
      · rw [hit, hfm, if_pos ⟨rfl, hk⟩, if_pos hk]
      · rw [hit, if_pos ⟨rfl, hk⟩]; exact Or.inl rfl
      · rw [hit, if_neg (fun q => absurd q.1 (by decide))]; exact (h.2.2.2.2.2.2.2.1 k hk).2
    · have t9 := h.2.2.2.2.2.2.2.2 k k1 k2
      refine ⟨t9.2.2.2.1, ?_⟩
      rw [hfm, if_neg (by omega)]
      exact t9.2.2.2.2
  obtain ⟨⟨s, c, e1, e2, e3, e4, e5, e6, e7, e8, e9⟩, ⟨m1, m2⟩, m8, r1, r2, r3, r4, r5, r6, r7⟩ := hd
  refine ⟨((sKhi (sKsh (sKhi a 10 6 0) (some 0)) 10 7 0).1, it', (sKhi (sKsh (sKhi a 10 6 0) (some 0)) 10 7 0).2.2), _, ?_, f1, hT, ?_, RG_cg hc hG, ⟨RP_cg hc hP.1, RP_cg hc hP.2⟩, hX, rfl, rfl, rfl, rfl, rfl⟩
  · unfold f_X2_goHome
    rw [show f_X7_closeAll (sKhi (sKsh (sKhi a 10 6 0) (some 0)) 10 7 0) = _ from i1]
    rfl
  · refine ⟨⟨0, 0, rfl, hn.1, by show it' 0 1 = 0; rw [hc.k1]; exact h.2.2.2.1.2.2.2, rfl, rfl, rfl, ?_, fun z => absurd rfl z, fun z => absurd z n01⟩, ⟨rfl, Or.inl rfl⟩, m8, r1, r2, r3, r4, r5, r6, r7⟩
    show 0 < cnt (Kmn a) 0 (Kn a) ∨ (0 = cnt (Kmn a) 0 (Kn a) ∧ (1 ≤ 0 ∨ 0 = 0))
    omega
theorem idle0 {j : Nat} (j' : Nat) {a : KS} {b : MS} (h : Rel j a b) : Rel j' (sKhi a 10 10 0) (sMhi b 100 16 0) := by
  obtain ⟨hT, ⟨d1, d2, d3, d4, -, dr⟩, hr⟩ := h
  exact ⟨hT, ⟨d1, d2, d3, d4, ⟨0, by omega, rfl, rfl⟩, dr⟩, hr⟩
theorem mode0 {j : Nat} {a : KS} {b : MS} (h : Rel j a b) : Rel j (sKhi a 10 6 0) (sMhi b 100 10 0) := by
  have n01 : ¬ (0 : Int32) = 1 := by decide
  obtain ⟨hT, ⟨⟨s, c, e1, e2, e3, e4, e5, e6, e7, e8, e9⟩, d2, dr⟩, hr⟩ := h
  exact ⟨hT, ⟨⟨s, c, e1, e2, e3, e4, e5, e6, e7, fun z => absurd rfl z, fun z => absurd z n01⟩, ⟨rfl, Or.inl rfl⟩, dr⟩, hr⟩
theorem held_eq {j : Nat} (j' : Nat) {a : KS} {b : MS} (h : Rel j a b) : ∃ (r : Int32) (a' : KS) (b' : MS), f_X2_holdKnob a = some (r, a') ∧ f_X9_held b = some (r, b') ∧ Mhi b' 100 0 = Mhi b 100 0 ∧ Rel j' a' b' := by
  have h0 := idle0 j' h
  have hm : Khi a 10 6 = Mhi b 100 10 := h.2.1.2.1.1
  unfold f_X2_holdKnob f_X9_held f_X2_holdKnob_18 f_X9_held_21
  rw [show Mhi (sMhi b 100 16 0) 100 10 = Mhi b 100 10 from rfl, ← hm]
  by_cases m : Khi a 10 6 = 0
  · rw [if_neg (fun z => z m), if_neg (fun z => z m)]
    obtain ⟨a', b', g1, g2, g3, g4, g5, g6, g7, g8, g9, g10, -⟩ := goHome_eq h0.1 h0.2.1 h0.2.2.1 h0.2.2.2.1 h0.2.2.2.2
    rw [g1, g2, bs, bs]
    refine ⟨_, _, _, rfl, rfl, g10, mode0 (⟨g3, ?_, g5, g6, g7⟩ : Rel j' a' b')⟩
    show RDx (Khi a' 13) (Mhi b' 120) j' a' b'
    rw [g8, g9]
    exact g4
  · rw [if_pos m, if_pos m]
    exact ⟨_, _, _, rfl, rfl, rfl, mode0 h0⟩
theorem s_11 : S_11 Rel := by
  intro j a b v1 v2 v3 v4 hj h
  obtain ⟨r, a', b', r1, r2, -, r3⟩ := held_eq j (h.thr 0)
  refine ⟨(r, a'), (r, b'), ?_, ?_, rfl, r3.up⟩
  · unfold f_X8_hold; rw [r1]; rfl
  · unfold f_X9_hold; rw [r2]; rfl
