/-! ===== the relation with a frame: what a text keeps ===== -/
def FRM (F : Nat → Int32) (a : KS) (b : MS) : Prop := Khi a 16 3 = F 0 ∧ Mhi b 100 28 = F 1 ∧ Khi a 16 2 = F 2 ∧ Mhi b 100 27 = F 3 ∧ ∀ k, Khi a 17 k = F (2 * k + 4) ∧ Mhi b 126 k = F (2 * k + 5)
abbrev RBF (F : Nat → Int32) (a : KS) (b : MS) : Prop := RBs a b ∧ FRM F a b
def RelF (F : Nat → Int32) (j : Nat) (a : KS) (b : MS) : Prop := RTs a b ∧ RDs j a b ∧ RGs a b ∧ RPs a b ∧ RBF F a b
def PIF (F : Nat → Int32) (j k : Nat) (a : KS) (b : MS) : Prop := RTs a b ∧ RDx (evk (Khi a 13) k) (Mhi b 120) j a b ∧ RGs a b ∧ RPs a b ∧ RBF F a b
theorem turns_eqF {F : Nat → Int32} {j : Nat} (j' : Nat) {a : KS} {b : MS} {v : Int32} (h : RelF F j a b) (h1 : -50 ≤ v.toInt) (h2 : v.toInt ≤ 50) : ∃ (r : Int32) (a' : KS) (b' : MS), f_X2_turnBy a v = some (r, a') ∧ f_X9_turns b v = some (r, b') ∧ Mhi b' 100 0 = Mhi b 100 0 ∧ RelF F j' a' b' := by
  obtain ⟨r, r1, r2, r3, r4, r5⟩ := turned_eq h.1 h.2.1 h1 h2
  have ch := chosen_eq h.1 h.2.1
  obtain ⟨hT, ⟨⟨s, c, e1, e2, e3, e4, e5, e6, e7, e8, e9⟩, ⟨m1, m2⟩, m8, ⟨q, q1, q2, q3⟩, ⟨i0, i1, i2, i3⟩, bar, wr, dg, se, ev⟩, hrest⟩ := h
  have n01 : ¬ (0 : Int32) = 1 := by decide
  have n02 : ¬ (0 : Int32) = 2 := by decide
  have n21 : ¬ (2 : Int32) = 1 := by decide
  obtain ⟨w, hw⟩ : ∃ w, w = Khi a 13 0 + mabs v := ⟨_, rfl⟩
  have eM : f_X9_turns b v = f_X9_turns_28 (sMhi b 100 16 0) r 0 (Mhi b 120 0) (mabs v) := by
    unfold f_X9_turns mabs
    rw [r2, bs, gd_t (by decide)]
    by_cases g : 0 ≤ v
    · rw [if_pos g, if_pos g]; rfl
    · rw [if_neg g, if_neg g, Int32.zero_sub]; rfl
  have eM2 : Mhi b 120 0 + mabs v = w := by rw [hw, ev 0 (by decide)]
  rw [eM]
  unfold f_X2_turnBy f_X2_turnBy_47 f_X9_turns_28
  rw [r1, bs, gd_t (by decide), eM2, show (0 : Int32).toNatClampNeg = 0 from rfl]
  rw [show Mhi (sMhi (sMhi b 100 16 0) 120 0 w) 100 10 = Mhi b 100 10 from rfl, ← m1]
  rcases m2 with m | m | m
  · rw [m, if_pos n01, if_pos n02, if_neg nn00, show (0 : Int32) = oN 0 from rfl, count_in _ (by decide), bs]
    obtain ⟨s', c', g1, g2, g3⟩ := r3 m
    obtain rfl : s' = s := Option.some.inj (g1.symm.trans e1)
    refine ⟨r, _, _, rfl, rfl, rfl, hT, ⟨⟨s', c', e1, e2, e3, e4, g2, g2, g3, fun z => absurd m z, fun z => absurd (m.symm.trans z) n01⟩, ⟨m1, Or.inl m⟩, m8, ⟨q, q1, q2, q3⟩, ⟨0, by omega, rfl, rfl⟩, bar, wr, dg, se, ?_⟩, hrest⟩
    exact ev_up (a := sKhi (sKhi a 10 7 r) 10 10 (oN 0)) (b := sMhi b 100 16 0) ev hw.symm
  · rw [m, if_neg nn11, if_pos n10, if_neg nn11, show (0 : Int32) = oN 0 from rfl, count_in _ (by decide), bs]
    refine ⟨r, _, _, rfl, rfl, rfl, hT, ⟨⟨s, c, e1, e2, e3, e4, e5, e6, e7, e8, fun _ i hi => ?_⟩, ⟨m1, Or.inr (Or.inl m)⟩, rfl, ⟨q, q1, q2, q3⟩, ⟨0, by omega, rfl, rfl⟩, bar, wr, dg, se, ?_⟩, hrest⟩
    · obtain ⟨s', c', g1, g2, g3, g4, g5, g6, g7, ⟨i', k1, k2, k3, k4, k5, k6, k7, k8⟩ | ⟨z, -⟩⟩ := ch
      · obtain rfl : s' = s := Option.some.inj (g1.symm.trans e1)
        have cc : c' = c := by
          have h9 := (hT.2.2.2.2.2.2.1 s' g2).2
          exact oN_inj (by omega) (by omega) (g5.symm.trans e5)
        subst cc
        have ei : i' = i := Option.some.inj (k6.symm.trans hi)
        subst ei
        exact r4 m i' k8
      · exact absurd (z.symm.trans m) n01
    · exact ev_up (a := sKhi (sKhi a 10 8 r) 10 10 (oN 0)) (b := sMhi b 100 16 0) ev hw.symm
  · obtain ⟨d, dl, de⟩ := r5 m
    rw [m, if_pos n21, if_neg nn22, if_pos n20, if_pos n21, q2]
    unfold f_X2_changeDigit
    have hq : ¬ 4 ≤ oN q := fun z => by rw [show (4 : Int32) = oN 4 from rfl, oN_le (by decide) (by omega)] at z; omega
    rw [if_neg (oN_nn (by omega)), if_neg hq, gd_t (inb_oN q1 (by decide)), ofNat_cl (by omega), bs, show (0 : Int32) = oN 0 from rfl, count_in _ (by decide), bs]
    rw [show Mhi (sMhi (sMhi b 100 16 (oN 0)) 120 0 w) 100 15 = Mhi b 100 15 from rfl, q3, gd_t (inb_oN q1 (by decide)), ofNat_cl (by omega)]
    refine ⟨r, _, _, rfl, rfl, rfl, hT, ⟨⟨s, c, e1, e2, e3, e4, e5, e6, e7, e8, fun z => absurd (m.symm.trans z) n21⟩, ⟨m1, Or.inr (Or.inr m)⟩, m8, ⟨q, q1, q2, q3⟩, ⟨0, by omega, rfl, rfl⟩, bar, wr, ?_, se, ?_⟩, hrest⟩
    · intro k hk
      show Khi (sKhi a 11 q r) 11 k = Mhi (sMhi b 114 q r) 114 k ∧ ∃ x : Nat, x < 10 ∧ Khi (sKhi a 11 q r) 11 k = oN x
      rw [Khi_s, Mhi_s]
      by_cases g : k = q
      · rw [if_pos g, if_pos g]; exact ⟨rfl, d, dl, de⟩
      · rw [if_neg g, if_neg g]; exact dg k hk
    · exact ev_up (a := sKhi (sKhi a 11 q r) 10 10 (oN 0)) (b := sMhi b 100 16 0) ev hw.symm
theorem goHome_eqF {F : Nat → Int32} {j : Nat} {a : KS} {b : MS} {ev mev : Nat → Int32} (h : RTs a b) (hd : RDx ev mev j a b) (hG : RGs a b) (hP : RPs a b) (hX : RBF F a b) : ∃ (a' : KS) (b' : MS), f_X2_goHome a = some a' ∧ f_X9_goHome b = some b' ∧ RTs a' b' ∧ RDx ev mev j a' b' ∧ RGs a' b' ∧ RPs a' b' ∧ RBF F a' b' ∧ Khi a' 13 = Khi a 13 ∧ Mhi b' 120 = Mhi b 120 ∧ Mhi b' 100 0 = Mhi b 100 0 ∧ Khi a' 10 6 = 0 ∧ Khi a' 10 10 = Khi a 10 10 := by
  have hn := rt_n h
  have n01 : ¬ (0 : Int32) = 1 := by decide
  have tn : TN (sKhi (sKsh (sKhi a 10 6 0) (some 0)) 10 7 0) := ⟨hn.2, h.1.2.2.1, h.2.1.1⟩
  obtain ⟨it', i1, i2⟩ := close_K FU _ 0 tn (Nat.zero_le _) (by rw [FU_e]; show Kn a - 0 < 1000; omega)
  obtain ⟨f', f1, f2⟩ := close_M FU (sMhi (sMhi (sMhi b 100 10 0) 100 11 0) 100 12 0) (Kn a) 0 hn.2 h.1.2.2.2 (Nat.zero_le _) (by rw [FU_e]; omega)
  have hit : ∀ i m, it' i m = if m = 12 ∧ i < Kn a then 0 else Kit a i m := by
    intro i m
    rw [i2]
    show (if m = 12 ∧ 0 ≤ i ∧ i < Kn a then 0 else Kit a i m) = _
    by_cases g : m = 12 ∧ i < Kn a
    · rw [if_pos ⟨g.1, Nat.zero_le _, g.2⟩, if_pos g]
    · rw [if_neg (fun q => g ⟨q.1, q.2.2⟩), if_neg g]
  have hfm : ∀ m, f' m = if m < Kn a then 0 else Mhi b 109 m := by
    intro m
    rw [f2]
    show (if 0 ≤ m ∧ m < Kn a then 0 else Mhi b 109 m) = _
    by_cases g : m < Kn a
    · rw [if_pos ⟨Nat.zero_le _, g⟩, if_pos g]
    · rw [if_neg (fun q => g q.2), if_neg g]
  have hc : core (Kit a) it' := fun k m m1 m2 m3 => by rw [hit, if_neg (fun q => m3 q.1)]
  have hT : RT (Kn a) (Khi a 1 2) (Mhi b 100 1) it' (Kmn a) (Kch a) (Kti a) (Mhi b 102) (Mhi b 103) (Mhi b 104) (Mhi b 105) (Mhi b 106) (Mhi b 107) (Mhi b 108) f' := by
    refine RT_cg h hc (fun k hk => ?_) (fun k k1 k2 => ?_)
    · have it := it_at h hk
      refine ⟨?_, ?_, ?_, ?_, ?_⟩
      · rw [hit, if_neg (fun q => absurd q.1 (by decide))]; exact it.2.2.2.2.2.1
      · rw [hit, if_neg (fun q => absurd q.1 (by decide))]; exact it.2.2.2.2.2.2.1
      · rw [hit, hfm, if_pos ⟨rfl, hk⟩, if_pos hk]
      · rw [hit, if_pos ⟨rfl, hk⟩]; exact Or.inl rfl
      · rw [hit, if_neg (fun q => absurd q.1 (by decide))]; exact (h.2.2.2.2.2.2.2.1 k hk).2
    · have t9 := h.2.2.2.2.2.2.2.2 k k1 k2
      refine ⟨t9.2.2.2.1, ?_⟩
      rw [hfm, if_neg (by omega)]
      exact t9.2.2.2.2
  obtain ⟨⟨s, c, e1, e2, e3, e4, e5, e6, e7, e8, e9⟩, ⟨m1, m2⟩, m8, r1, r2, r3, r4, r5, r6, r7⟩ := hd
  refine ⟨((sKhi (sKsh (sKhi a 10 6 0) (some 0)) 10 7 0).1, it', (sKhi (sKsh (sKhi a 10 6 0) (some 0)) 10 7 0).2.2), _, ?_, f1, hT, ?_, RG_cg hc hG, ⟨RP_cg hc hP.1, RP_cg hc hP.2⟩, hX, rfl, rfl, rfl, rfl, rfl⟩
  · unfold f_X2_goHome
    rw [show f_X7_closeAll (sKhi (sKsh (sKhi a 10 6 0) (some 0)) 10 7 0) = _ from i1]
    rfl
  · refine ⟨⟨0, 0, rfl, hn.1, by show it' 0 1 = 0; rw [hc.k1]; exact h.2.2.2.1.2.2.2, rfl, rfl, rfl, ?_, fun z => absurd rfl z, fun z => absurd z n01⟩, ⟨rfl, Or.inl rfl⟩, m8, r1, r2, r3, r4, r5, r6, r7⟩
    show 0 < cnt (Kmn a) 0 (Kn a) ∨ (0 = cnt (Kmn a) 0 (Kn a) ∧ (1 ≤ 0 ∨ 0 = 0))
    omega
theorem idle0F {F : Nat → Int32} {j : Nat} (j' : Nat) {a : KS} {b : MS} (h : RelF F j a b) : RelF F j' (sKhi a 10 10 0) (sMhi b 100 16 0) := by
  obtain ⟨hT, ⟨d1, d2, d3, d4, -, dr⟩, hr⟩ := h
  exact ⟨hT, ⟨d1, d2, d3, d4, ⟨0, by omega, rfl, rfl⟩, dr⟩, hr⟩
theorem mode0F {F : Nat → Int32} {j : Nat} {a : KS} {b : MS} (h : RelF F j a b) : RelF F j (sKhi a 10 6 0) (sMhi b 100 10 0) := by
  have n01 : ¬ (0 : Int32) = 1 := by decide
  obtain ⟨hT, ⟨⟨s, c, e1, e2, e3, e4, e5, e6, e7, e8, e9⟩, d2, dr⟩, hr⟩ := h
  exact ⟨hT, ⟨⟨s, c, e1, e2, e3, e4, e5, e6, e7, fun z => absurd rfl z, fun z => absurd z n01⟩, ⟨rfl, Or.inl rfl⟩, dr⟩, hr⟩
theorem held_eqF {F : Nat → Int32} {j : Nat} (j' : Nat) {a : KS} {b : MS} (h : RelF F j a b) : ∃ (r : Int32) (a' : KS) (b' : MS), f_X2_holdKnob a = some (r, a') ∧ f_X9_held b = some (r, b') ∧ Mhi b' 100 0 = Mhi b 100 0 ∧ RelF F j' a' b' := by
  have h0 := idle0F j' h
  have hm : Khi a 10 6 = Mhi b 100 10 := h.2.1.2.1.1
  unfold f_X2_holdKnob f_X9_held f_X2_holdKnob_18 f_X9_held_21
  rw [show Mhi (sMhi b 100 16 0) 100 10 = Mhi b 100 10 from rfl, ← hm]
  by_cases m : Khi a 10 6 = 0
  · rw [if_neg (fun z => z m), if_neg (fun z => z m)]
    obtain ⟨a', b', g1, g2, g3, g4, g5, g6, g7, g8, g9, g10, -⟩ := goHome_eqF h0.1 h0.2.1 h0.2.2.1 h0.2.2.2.1 h0.2.2.2.2
    rw [g1, g2, bs, bs]
    refine ⟨_, _, _, rfl, rfl, g10, mode0F (⟨g3, ?_, g5, g6, g7⟩ : RelF F j' a' b')⟩
    show RDx (Khi a' 13) (Mhi b' 120) j' a' b'
    rw [g8, g9]
    exact g4
  · rw [if_pos m, if_pos m]
    exact ⟨_, _, _, rfl, rfl, rfl, mode0F h0⟩
theorem val_relF {F : Nat → Int32} {j : Nat} {a : KS} {b : MS} (h : RelF F j a b) {i : Nat} (hi : i < Kn a) {x : Int32} (hx : VR (Kit a i) x) : RelF F j (sKit a i 10 x) (sMhi b 107 i x) := by
  have hc : core (Kit a) (Kit (sKit a i 10 x)) := fun k m m1 m2 m3 => by rw [Kit_n m1]
  obtain ⟨hT, hD, hG, ⟨hP1, hP2⟩, hX⟩ := h
  refine ⟨RT_cg hT hc (fun k hk => ?_) (fun k k1 k2 => ?_), RD_cg hc hD, RG_cg hc hG, ⟨RP_cg hc hP1, RP_cg hc hP2⟩, hX⟩
  · have it := it_at hT hk
    refine ⟨?_, ?_, ?_, ?_, ?_⟩
    · rw [Kit_e, Mhi_s]
      by_cases g : k = i
      · rw [if_pos g, if_pos g]
      · rw [if_neg g, if_neg g]; exact it.2.2.2.2.2.1
    · rw [Kit_n (by decide)]; exact it.2.2.2.2.2.2.1
    · rw [Kit_n (by decide)]; exact it.2.2.2.2.2.2.2.1
    · rw [Kit_n (by decide)]; exact it.2.2.2.2.2.2.2.2
    · rw [Kit_e]
      by_cases g : k = i
      · rw [if_pos g, g]; exact hx
      · rw [if_neg g]; exact (hT.2.2.2.2.2.2.2.1 k hk).2
  · have t9 := hT.2.2.2.2.2.2.2.2 k k1 k2
    refine ⟨?_, t9.2.2.2.2⟩
    have k1 : Kn a ≤ k := k1
    rw [Mhi_s, if_neg (by omega)]
    exact t9.2.2.2.1
theorem bumpF {F : Nat → Int32} {j : Nat} {a : KS} {b : MS} (h : RelF F j a b) {e : Nat} (he : e < 8) (w : Int32) : RelF F j (sKhi a 13 e (Khi a 13 e + w)) (sMhi b 120 e (Mhi b 120 e + w)) := by
  obtain ⟨hT, ⟨d1, d2, d3, d4, d5, d6, d7, d8, d9, ev⟩, hr⟩ := h
  exact ⟨hT, ⟨d1, d2, d3, d4, d5, d6, d7, d8, d9, ev_up ev (by rw [ev e he])⟩, hr⟩
theorem browse_eqF {F : Nat → Int32} {j : Nat} {a : KS} {b : MS} (h : RelF F j a b) (m0 : Khi a 10 6 = 0) : ∃ (r : Int32) (a' : KS) (b' : MS), browse_K a = some (r, a') ∧ f_X9_goesOn b = some (r, b') ∧ Mhi b' 100 0 = Mhi b 100 0 ∧ RelF F j a' b' := by
  have hn := rt_n h.1
  have n01 : ¬ (0 : Int32) = 1 := by decide
  have n21 : ¬ (2 : Int32) = 1 := by decide
  obtain ⟨s, c, d1, d2, d2b, d3, d4, d5, d6, ⟨i, i1, i2, i3, i4, i5, i6, i7, i8⟩ | ⟨-, i5, i6, i7, i8⟩⟩ := chosen_eq h.1 h.2.1
  · have it := it_at h.1 i2
    unfold browse_K f_X9_goesOn
    rw [i8, bs, ocs_s, gd_d i2, closed_in i2, bs, i7, bs, if_pos (oN_ne1 (by omega)), isShut_in h.1 i2, bs]
    have hr := h
    obtain ⟨hT, ⟨⟨s', c', e1, e2, e3, e4, e5, e6, e7, e8, e9⟩, ⟨m1, m2⟩, m8, pl, idl, ⟨w, w1, w2, w3⟩, wr, dg, se, ev⟩, hrest⟩ := hr
    obtain rfl : s' = s := Option.some.inj (e1.symm.trans d1)
    have cc : c' = c := by
      have h9 := (hT.2.2.2.2.2.2.1 s' d2).2
      exact oN_inj (by omega) (by omega) (e5.symm.trans d4)
    subst cc
    by_cases k : ¬ Kit a i 11 = -1 ∧ Kit a i 12 = 0
    · rw [if_pos k, if_neg n10, if_neg n10]
      unfold f_X2_beginCode
      rw [w2, w3]
      by_cases g : oN w ≤ 0
      · rw [if_pos g, if_pos g, zero_K, zero_M]
        refine ⟨_, _, _, rfl, rfl, rfl, hT, ⟨⟨s', c', e1, e2, e3, e4, e5, e6, e7, fun _ => i5, fun z => absurd z n21⟩, ⟨rfl, Or.inr (Or.inr rfl)⟩, m8, ⟨0, by decide, rfl, rfl⟩, idl, ⟨w, w1, w2, w3⟩, wr, fun x hx => ?_, se, ev⟩, hrest⟩
        match x, hx with
        | 0, _ => exact ⟨rfl, 0, by decide, rfl⟩
        | 1, _ => exact ⟨rfl, 0, by decide, rfl⟩
        | 2, _ => exact ⟨rfl, 0, by decide, rfl⟩
        | 3, _ => exact ⟨rfl, 0, by decide, rfl⟩
        | x + 4, hx => omega
      · rw [if_neg g, if_neg g]
        exact ⟨_, _, _, rfl, rfl, rfl, h⟩
    · rw [if_neg k, if_pos rfl, if_pos rfl, isMenu_in h.1 i2, bs]
      unfold f_X2_use
      rw [odr_s i2]
      by_cases kd : Kit a i 1 = 0
      · rw [if_neg (fun z => z kd), if_pos kd, if_neg n10]
        refine ⟨_, _, _, rfl, rfl, rfl, hT, ⟨⟨i, 0, rfl, i2, kd, rfl, rfl, rfl, ?_, fun z => absurd m0 z, fun z => absurd (m0.symm.trans z) n01⟩, ⟨m1, m2⟩, m8, pl, idl, ⟨w, w1, w2, w3⟩, wr, dg, se, ev⟩, hrest⟩
        omega
      · rw [if_pos kd, if_neg kd, if_pos rfl, gd_t (in24 h.1 i2), cl_n h.1 i2]
        have hv := (hT.2.2.2.2.2.2.2.1 i i2).2
        refine ⟨_, _, _, rfl, rfl, rfl, hT, ⟨⟨s', c', e1, e2, e3, e4, e5, e6, e7, fun _ => i5, fun _ x hx => ?_⟩, ⟨rfl, Or.inr (Or.inl rfl)⟩, it.2.2.2.2.2.1, pl, idl, ⟨w, w1, w2, w3⟩, wr, dg, se, ev⟩, hrest⟩
        have ex : i = x := Option.some.inj (i6.symm.trans hx)
        subst ex
        exact ⟨kd, hv⟩
  · unfold browse_K f_X9_goesOn f_X2_goBack
    have hr := h
    obtain ⟨hT, ⟨⟨s', c', e1, e2, e3, e4, e5, e6, e7, e8, e9⟩, ⟨m1, m2⟩, m8, pl, idl, bar, wr, dg, se, ev⟩, hrest⟩ := hr
    obtain rfl : s' = s := Option.some.inj (e1.symm.trans d1)
    rw [i8, bs, ocs_n, lt_e, d1, odr_s d2, lt_e, i7, bs, if_neg (show ¬ ¬ (-1 : Int32) = -1 from fun z => z rfl), d3, entries_M hT d2, bs]
    by_cases e : s' = 0
    · subst e
      rw [hT.2.2.2.1.1, ocs_n, bs, if_pos rfl, show cnt (Kmn a) 0 (Kn a) + 0 = 0 by omega, if_neg (show ¬ ¬ oN 0 = 0 from fun z => z rfl)]
      exact ⟨_, _, _, rfl, rfl, rfl, h⟩
    · obtain ⟨p, p1, p2, p3, p4, -, p6, -⟩ := hT.2.2.2.2.1 s' (by omega) d2
      have hlt := cnt_hit (mn := Kmn a) (p := p) (i := s') (by omega) p2
      have hmo := cnt_mono (mn := Kmn a) (p := p) (k := s' + 1) (m := Kn a) (by omega)
      have c8 := (hT.2.2.2.2.2.2.1 s' d2).2
      rw [p2, ocs_s, bs, if_neg e, if_pos (show ¬ oN (cnt (Kmn a) s' (Kn a) + 1) = 0 from fun z => absurd (oN_inj (y := 0) (by omega) (by decide) z) (by omega)), indexOf_in hT (by omega) d2 p2, bs]
      rw [show Mhi (sMhi b 100 12 (oN (cnt (Kmn a) p s'))) 100 11 = Mhi b 100 11 from rfl, d3, gd_t (in24 hT d2), cl_n hT d2, show Mhi (sMhi b 100 12 (oN (cnt (Kmn a) p s'))) 103 s' = Mhi b 103 s' from rfl, p3]
      refine ⟨_, _, _, rfl, rfl, rfl, hT, ⟨⟨p, cnt (Kmn a) p s', rfl, by show p < Kn a; omega, p4, rfl, p6, rfl, Or.inl (by show cnt (Kmn a) p s' < cnt (Kmn a) p (Kn a); omega), fun z => absurd m0 z, fun z => absurd (m0.symm.trans z) n01⟩, ⟨m1, m2⟩, m8, pl, idl, bar, wr, dg, se, ev⟩, hrest⟩
theorem open_relF {F : Nat → Int32} {j : Nat} {a : KS} {b : MS} (h : RelF F j a b) {i : Nat} (hi : i < Kn a) {v : Int32} (hv : v = 0 ∨ v = 1) : RelF F j (sKit a i 12 v) (sMhi b 109 i v) := by
  have hc : core (Kit a) (Kit (sKit a i 12 v)) := fun k m m1 m2 m3 => by rw [Kit_n m3]
  obtain ⟨hT, hD, hG, ⟨hP1, hP2⟩, hX⟩ := h
  refine ⟨RT_cg hT hc (fun k hk => ?_) (fun k k1 k2 => ?_), RD_cg hc hD, RG_cg hc hG, ⟨RP_cg hc hP1, RP_cg hc hP2⟩, hX⟩
  · have it := it_at hT hk
    refine ⟨?_, ?_, ?_, ?_, ?_⟩
    · rw [Kit_n (by decide)]; exact it.2.2.2.2.2.1
    · rw [Kit_n (by decide)]; exact it.2.2.2.2.2.2.1
    · rw [Kit_e, Mhi_s]
      by_cases g : k = i
      · rw [if_pos g, if_pos g]
      · rw [if_neg g, if_neg g]; exact it.2.2.2.2.2.2.2.1
    · rw [Kit_e]
      by_cases g : k = i
      · rw [if_pos g]; exact hv
      · rw [if_neg g]; exact it.2.2.2.2.2.2.2.2
    · rw [Kit_n (by decide)]
      exact (hT.2.2.2.2.2.2.2.1 k hk).2
  · have t9 := hT.2.2.2.2.2.2.2.2 k k1 k2
    have k1 : Kn a ≤ k := k1
    refine ⟨t9.2.2.2.1, ?_⟩
    rw [Mhi_s, if_neg (by omega)]
    exact t9.2.2.2.2
theorem wrong_relF {F : Nat → Int32} {j : Nat} {a : KS} {b : MS} (h : RelF F j a b) {x : Int32} {q : Nat} (hq : q < 3) (hx : x = oN q) : RelF F j (sKhi a 10 12 x) (sMhi b 100 18 x) := by
  obtain ⟨hT, ⟨d1, d2, d3, d4, d5, d6, -, dr⟩, hr⟩ := h
  exact ⟨hT, ⟨d1, d2, d3, d4, d5, d6, ⟨q, hq, hx, hx⟩, dr⟩, hr⟩
theorem bar_relF {F : Nat → Int32} {j : Nat} {a : KS} {b : MS} (h : RelF F j a b) {x : Int32} {q : Nat} (hq : q ≤ 30) (hx : x = oN q) : RelF F j (sKhi a 10 11 x) (sMhi b 100 17 x) := by
  obtain ⟨hT, ⟨d1, d2, d3, d4, d5, -, d7⟩, hr⟩ := h
  exact ⟨hT, ⟨d1, d2, d3, d4, d5, ⟨q, hq, hx, hx⟩, d7⟩, hr⟩
theorem place_relF {F : Nat → Int32} {j : Nat} {a : KS} {b : MS} (h : RelF F j a b) {x : Int32} {q : Nat} (hq : q < 4) (hx : x = oN q) : RelF F j (sKhi a 10 9 x) (sMhi b 100 15 x) := by
  obtain ⟨hT, ⟨d1, d2, d3, -, d5⟩, hr⟩ := h
  exact ⟨hT, ⟨d1, d2, d3, ⟨q, hq, hx, hx⟩, d5⟩, hr⟩
theorem digit_eqF {F : Nat → Int32} {j : Nat} {a : KS} {b : MS} (h : RelF F j a b) (m2 : Khi a 10 6 = 2) {i : Nat} (hc : f_X2_chosenItem a = some (some i)) (hm : f_X9_itemAt b (Mhi b 100 12) = some (oN i)) (hi : i < Kn a) : ∃ (r : Int32) (a' : KS) (b' : MS), f_X2_endDigit a (some i) = some (r, a') ∧ f_X9_codeDone b = some (r, b') ∧ Mhi b' 100 0 = Mhi b 100 0 ∧ RelF F j a' b' := by
  have it := it_at h.1 hi
  have h0 := mode0F h
  obtain ⟨p, p1, p2, p3⟩ := h.2.1.2.2.2.1
  obtain ⟨w, w1, w2, w3⟩ := h.2.1.2.2.2.2.2.2.1
  have dg := h.2.1.2.2.2.2.2.2.2.1
  have ev := h.2.1.2.2.2.2.2.2.2.2.2
  unfold f_X2_endDigit f_X9_codeDone
  rw [p2, p3]
  by_cases g : 3 ≤ p
  · rw [if_pos (show (3 : Int32) ≤ oN p from (oN_le (x := 3) (by decide) (by omega)).mpr g), if_pos (show (3 : Int32) ≤ oN p from (oN_le (x := 3) (by decide) (by omega)).mpr g), code_K, bs, odr_s (show i < Kn (sKhi a 10 6 0) from hi), hm, bs, gd_t (in24 h.1 hi), gd_t (by decide), gd_t (by decide), gd_t (by decide), gd_t (by decide), cl_n h.1 hi]
    rw [code_eq]
    have hd : ∀ k, k < 4 → Mhi b 114 k = Khi a 11 k := fun k hk => (dg k hk).1.symm
    have c0 : (0 : Int32).toNatClampNeg = 0 := rfl
    have c1 : (1 : Int32).toNatClampNeg = 1 := rfl
    have c2 : (2 : Int32).toNatClampNeg = 2 := rfl
    have c3 : (3 : Int32).toNatClampNeg = 3 := rfl
    have c4 : (4 : Int32).toNatClampNeg = 4 := rfl
    have c5 : (5 : Int32).toNatClampNeg = 5 := rfl
    have b4 : inb 4 8 = true := by decide
    have b5 : inb 5 8 = true := by decide
    simp (disch := decide) only [Mhi_np, Mhi_se, Mhi_sn, Khi_np, c0, c1, c2, c3, c4, c5, hd 0 (by decide), hd 1 (by decide), hd 2 (by decide), hd 3 (by decide), gd_t b4, gd_t b5, w3]
    generalize 1000 * Khi a 11 0 + 100 * Khi a 11 1 + 10 * Khi a 11 2 + Khi a 11 3 = X
    rw [show Kit (sKhi a 10 6 0) i 11 = Kit a i 11 from rfl, it.2.2.2.2.2.2.1]
    by_cases e : X = Mhi b 108 i
    · rw [if_neg (fun z => z e), if_neg (fun z => z e.symm), gd_t (by decide), gd_t (in24 h.1 hi)]
      exact ⟨_, _, _, rfl, rfl, rfl, wrong_relF (open_relF h0 hi (Or.inr rfl)) (q := 0) (by decide) rfl⟩
    · rw [if_pos e, if_pos (fun z => e z.symm), wrongs_K (a := sKhi a 10 6 0) w1 w2, bs, oN_succ]
      by_cases q2 : w = 2
      · subst q2
        rw [if_pos rfl, if_neg (show ¬ ¬ oN (2 + 1) = 3 from fun z => z rfl)]
        exact ⟨_, _, _, rfl, rfl, rfl, bumpF (bar_relF (show RelF F j (sKhi (sKhi (sKhi (sKhi a 10 6 0) 13 4 (Khi (sKhi a 10 6 0) 13 4 + 1)) 10 12 (oN 3)) 10 12 0) (sMhi (sMhi (sMhi (sMhi b 100 10 0) 120 4 (Mhi b 120 4 + 1)) 100 18 (oN 3)) 100 18 0) from wrong_relF (bumpF h0 (e := 4) (by decide) 1) (q := 0) (by decide) rfl) (q := 30) (by decide) rfl) (e := 5) (by decide) 1⟩
      · rw [if_neg q2, if_pos (show ¬ oN (w + 1) = 3 from fun z => q2 (by have := oN_inj (y := 3) (by omega) (by decide) z; omega))]
        exact ⟨_, _, _, rfl, rfl, rfl, wrong_relF (bumpF h0 (e := 4) (by decide) 1) (q := w + 1) (by omega) rfl⟩
  · have g3 : ¬ (3 : Int32) ≤ oN p := fun z => g ((oN_le (x := 3) (by decide) (by omega)).mp z)
    rw [if_neg g3, if_neg g3, oN_succ]
    exact ⟨_, _, _, rfl, rfl, rfl, place_relF h (by omega) rfl⟩
theorem logs_relF {F : Nat → Int32} {j : Nat} {a : KS} {b : MS} (h : RelF F j a b) {i : Nat} {x : Int32} (hi : i < Kn a) (hk : ¬ Kit a i 1 = 0) (hx : VR (Kit a i) x) : ∃ (a' : KS) (b' : MS), f_X3_keep a (some i) x = some a' ∧ f_X9_logs b (oN i) x = some b' ∧ RelF F j a' b' ∧ Kn a' = Kn a ∧ Kit a' = Kit a ∧ Khi a' 10 = Khi a 10 ∧ Mhi b' 100 13 = Mhi b 100 13 ∧ Mhi b' 100 0 = Mhi b 100 0 ∧ Mhi b' 107 = Mhi b 107 := by
  obtain ⟨hT, hD, ⟨⟨q, q1, q2, q3, q4⟩, gl⟩, hP, hX⟩ := h
  have okk : okr (Kn a) (some i) = true := decide_eq_true hi
  by_cases e : q = 8
  · subst e
    have hs := shift_K FU a 1 (by decide) (by decide) (by decide) (fun m _ m2 => by obtain ⟨i', x1, x2, -⟩ := q4 m m2; exact ⟨i', x1, x2⟩)
    have hm := shift_M (v1 := oN i) (v2 := x) FU b 1 (by decide) (by decide) (by decide) q3
    have r1 : f_X3_removeLatest (shL a 1) = some (sKhi (shL a 1) 3 2 (oN 7)) := by
      unfold f_X3_removeLatest
      rw [show Khi (shL a 1) 3 2 = Khi a 3 2 from rfl, q2, if_neg (by decide)]; rfl
    refine ⟨lgA (sKhi (shL a 1) 3 2 (oN 7)) 7 i x, lgB (shM b 1) 7 i x, ?_, ?_, ⟨hT, hD, ⟨⟨8, by omega, rfl, rfl, fun k hk8 => ?_⟩, fun k => ?_⟩, hP, hX⟩, rfl, rfl, rfl, rfl, rfl, rfl⟩
    · unfold f_X3_keep f_X3_removeOldest
      rw [q2, if_neg (by decide), show l_X3_removeOldest_2 FU a 1 = _ from hs, r1, bs]
      exact put_K (by decide) hi rfl
    · unfold f_X9_logs
      rw [show l_X9_logs_2 FU b (oN i) x 1 = _ from hm]
      unfold f_X9_logs_51
      rw [show Mhi (shM b 1) 100 23 = Mhi b 100 23 from rfl, q3, if_neg (show ¬ ¬ oN 8 = 8 from fun z => z rfl)]
      exact put_M (by decide) rfl
    · by_cases g : k = 7
      · subst g
        exact ⟨i, hi, rfl, rfl, rfl, hk, hx⟩
      · obtain ⟨i', x1, x2, x3, x4, x5, x6⟩ := q4 (k + 1) (by omega)
        have eA : Klg (lgA (sKhi (shL a 1) 3 2 (oN 7)) 7 i x) k = Klg a (k + 1) := by
          show (if k = 7 then some i else if 1 ≤ k + 1 ∧ k < 7 then Klg a (k + 1) else Klg a k) = _
          rw [if_neg g, if_pos (by omega)]
        have eV : Khi (lgA (sKhi (shL a 1) 3 2 (oN 7)) 7 i x) 5 k = Khi a 5 (k + 1) := by
          show (if 5 = 5 ∧ k = 7 then x else if 5 = 5 ∧ 1 ≤ k + 1 ∧ k < 7 then Khi a 5 (k + 1) else Khi a 5 k) = _
          rw [if_neg (by omega), if_pos (by omega)]
        have eM : Mhi (lgB (shM b 1) 7 i x) 121 k = Mhi b 121 (k + 1) := by
          show (if 121 = 121 ∧ k = 7 then oN i else if (121 = 121 ∨ 121 = 122) ∧ 1 ≤ k + 1 ∧ k < 7 then Mhi b 121 (k + 1) else Mhi b 121 k) = _
          rw [if_neg (by omega), if_pos (by omega)]
        have eN : Mhi (lgB (shM b 1) 7 i x) 122 k = Mhi b 122 (k + 1) := by
          show (if 122 = 122 ∧ k = 7 then x else if (122 = 121 ∨ 122 = 122) ∧ 1 ≤ k + 1 ∧ k < 7 then Mhi b 122 (k + 1) else Mhi b 122 k) = _
          rw [if_neg (by omega), if_pos (by omega)]
        rw [eA, eV, eM, eN]
        exact ⟨i', x1, x2, x3, x4, x5, x6⟩
    · show okr (Kn a) (if k = 7 then some i else if 1 ≤ k + 1 ∧ k < 7 then Klg a (k + 1) else Klg a k) = true
      by_cases g : k = 7
      · rw [if_pos g]; exact okk
      · rw [if_neg g]
        by_cases g2 : 1 ≤ k + 1 ∧ k < 7
        · rw [if_pos g2]; exact gl _
        · rw [if_neg g2]; exact gl _
  · have ql : q < 8 := by omega
    have n8 : ¬ oN q = 8 := fun z => e (oN_inj (y := 8) (by omega) (by decide) z)
    refine ⟨lgA a q i x, lgB b q i x, ?_, ?_, ⟨hT, hD, ⟨⟨q + 1, by omega, rfl, rfl, fun k hk8 => ?_⟩, fun k => ?_⟩, hP, hX⟩, rfl, rfl, rfl, rfl, rfl, rfl⟩
    · unfold f_X3_keep
      rw [q2, if_pos (show oN q < 8 from (oN_lt (y := 8) (by omega) (by decide)).mpr ql)]
      exact put_K ql hi q2
    · unfold f_X9_logs
      show f_X9_logs_2 (l_X9_logs_2 999) b (oN i) x 1 = _
      unfold f_X9_logs_2 f_X9_logs_51
      rw [if_neg (by decide), q3, if_pos n8, if_pos n8]
      exact put_M ql (Int32.sub_zero _)
    · by_cases g : k = q
      · subst g
        have eA : Klg (lgA a k i x) k = some i := by show (if k = k then some i else Klg a k) = _; rw [if_pos rfl]
        have eV : Khi (lgA a k i x) 5 k = x := by show (if 5 = 5 ∧ k = k then x else Khi a 5 k) = _; rw [if_pos ⟨rfl, rfl⟩]
        have eM : Mhi (lgB b k i x) 121 k = oN i := by show (if 121 = 121 ∧ k = k then oN i else Mhi b 121 k) = _; rw [if_pos ⟨rfl, rfl⟩]
        have eN : Mhi (lgB b k i x) 122 k = x := by show (if 122 = 122 ∧ k = k then x else Mhi b 122 k) = _; rw [if_pos ⟨rfl, rfl⟩]
        rw [eA, eV, eM, eN]
        exact ⟨i, hi, rfl, rfl, rfl, hk, hx⟩
      · obtain ⟨i', x1, x2, x3, x4, x5, x6⟩ := q4 k (by omega)
        have eA : Klg (lgA a q i x) k = Klg a k := by show (if k = q then some i else Klg a k) = _; rw [if_neg g]
        have eV : Khi (lgA a q i x) 5 k = Khi a 5 k := by show (if 5 = 5 ∧ k = q then x else Khi a 5 k) = _; rw [if_neg (fun z => g z.2)]
        have eM : Mhi (lgB b q i x) 121 k = Mhi b 121 k := by show (if 121 = 121 ∧ k = q then oN i else Mhi b 121 k) = _; rw [if_neg (fun z => g z.2)]
        have eN : Mhi (lgB b q i x) 122 k = Mhi b 122 k := by show (if 122 = 122 ∧ k = q then x else Mhi b 122 k) = _; rw [if_neg (fun z => g z.2)]
        rw [eA, eV, eM, eN]
        exact ⟨i', x1, x2, x3, x4, x5, x6⟩
    · show okr (Kn a) (if k = q then some i else Klg a k) = true
      by_cases g : k = q
      · rw [if_pos g]; exact okk
      · rw [if_neg g]; exact gl _
theorem edit_eqF {F : Nat → Int32} {j : Nat} {a : KS} {b : MS} (h : RelF F j a b) {i : Nat} (hi : i < Kn a) (hk : ¬ Kit a i 1 = 0) (hx : VR (Kit a i) (Khi a 10 8)) (hm : f_X9_itemAt b (Mhi b 100 12) = some (oN i)) : ∃ (a' : KS) (b' : MS), f_X2_endEdit a (some i) = some (4, a') ∧ edit_M b = some (4, b') ∧ Mhi b' 100 0 = Mhi b 100 0 ∧ RelF F j a' b' := by
  have it := it_at h.1 hi
  have h0 := mode0F h
  have d8 : Khi a 10 8 = Mhi b 100 13 := h.2.1.2.2.1
  have e1 : Kit (sKhi a 10 6 0) i 10 = Kit a i 10 := rfl
  have e2 : Khi (sKhi a 10 6 0) 10 8 = Khi a 10 8 := rfl
  have e3 : Mhi (sMhi b 100 10 0) 107 i = Kit a i 10 := it.2.2.2.2.2.1.symm
  have e4 : Mhi (sMhi b 100 10 0) 100 13 = Khi a 10 8 := d8.symm
  unfold f_X2_endEdit edit_M
  rw [odr_s (show i < Kn (sKhi a 10 6 0) from hi), hm, bs, gd_t (in24 h.1 hi), cl_n h.1 hi, e1, e2, e3, e4]
  by_cases g : Kit a i 10 = Khi a 10 8
  · rw [if_pos g, if_pos g]
    exact ⟨_, _, rfl, rfl, rfl, h0⟩
  · rw [if_neg g, if_neg g, gd_t (in24 h.1 hi)]
    obtain ⟨a1, b1, r1, r2, r3, r4, r5, r6, r7, r8, r9⟩ := logs_relF h0 (i := i) (x := Kit a i 10) hi hk (h.1.2.2.2.2.2.2.2.1 i hi).2
    rw [r1, bs, r2, bs, gd_d (show i < Kn a1 by rw [r4]; exact hi), gd_t (in24 h.1 hi), gd_t (by decide), gd_t (by decide), show (2 : Int32) = oN 2 from rfl, count_in _ (by decide), bs]
    have x1 : Khi a1 10 8 = Khi a 10 8 := by rw [r6]; rfl
    have x2 : Mhi b1 100 13 = Khi a1 10 8 := by rw [r7, x1]; exact e4
    have hv := val_relF r3 (i := i) (show i < Kn a1 by rw [r4]; exact hi) (x := Khi a1 10 8) (by rw [r5, x1]; exact hx)
    refine ⟨_, _, rfl, rfl, ?_, ?_⟩
    · show Mhi b1 100 0 = _
      rw [r8]; rfl
    · rw [x2]
      exact bumpF hv (e := 2) (by decide) 1
theorem presses_eqF {F : Nat → Int32} {j : Nat} (j' : Nat) {a : KS} {b : MS} (h : RelF F j a b) : ∃ (r : Int32) (a' : KS) (b' : MS), f_X2_pressKnob a = some (r, a') ∧ f_X9_presses b = some (r, b') ∧ Mhi b' 100 0 = Mhi b 100 0 ∧ RelF F j' a' b' := by
  have h1 : RelF F j' (sKhi (sKhi a 10 10 0) 13 1 (Khi (sKhi a 10 10 0) 13 1 + 1)) (sMhi (sMhi b 100 16 0) 120 1 (Mhi b 120 1 + 1)) := bumpF (idle0F j' h) (e := 1) (by decide) 1
  have t0 : Mhi (sMhi (sMhi b 100 16 0) 120 1 (Mhi b 120 1 + 1)) 100 0 = Mhi b 100 0 := rfl
  rw [presses_K, presses_M, show f_X2_count (sKhi a 10 10 0) 1 1 = some (sKhi (sKhi a 10 10 0) 13 1 (Khi (sKhi a 10 10 0) 13 1 + 1)) from count_in (e := 1) _ (by decide) 1, bs, ← t0]
  generalize sKhi (sKhi a 10 10 0) 13 1 (Khi (sKhi a 10 10 0) 13 1 + 1) = a1 at h1 ⊢
  generalize sMhi (sMhi b 100 16 0) 120 1 (Mhi b 120 1 + 1) = b1 at h1 ⊢
  have hm : Khi a1 10 6 = Mhi b1 100 10 := h1.2.1.2.1.1
  have n01 : ¬ (0 : Int32) = 1 := by decide
  have n02 : ¬ (0 : Int32) = 2 := by decide
  have n12 : ¬ (1 : Int32) = 2 := by decide
  have n21 : ¬ (2 : Int32) = 1 := by decide
  rw [← hm]
  rcases h1.2.1.2.1.2 with m | m | m
  · obtain ⟨r, a', b', r1, r2, r3, r4⟩ := browse_eqF h1 m
    refine ⟨r, a', b', ?_, ?_, r3, r4⟩
    · rw [← r1]
      unfold browse_K
      have e : ∀ z6, (fun z6 => ocs z6 ((f_X2_goBack a1).bind (fun z12 => some (z12.1, z12.2))) (fun i10 => if ¬ (Khi a1 10 6) = 1 then (if ¬ (Khi a1 10 6) = 2 then (gd (decide (i10 < Kn a1)) ((f_X4_closed a1 i10).bind (fun z20 => if z20 = 0 then ((f_X2_use a1 (some i10)).bind (fun z24 => some (z24.1, z24.2))) else ((f_X2_beginCode a1).bind (fun z30 => some (z30.1, z30.2)))))) else ((f_X2_endDigit a1 (some i10)).bind (fun z36 => some (z36.1, z36.2)))) else ((f_X2_endEdit a1 (some i10)).bind (fun z41 => some (z41.1, z41.2))))) z6 = (fun z6 => ocs z6 ((f_X2_goBack a1).bind (fun z12 => some (z12.1, z12.2))) (fun i10 => gd (decide (i10 < Kn a1)) ((f_X4_closed a1 i10).bind (fun z20 => if z20 = 0 then ((f_X2_use a1 (some i10)).bind (fun z24 => some (z24.1, z24.2))) else ((f_X2_beginCode a1).bind (fun z30 => some (z30.1, z30.2))))))) z6 := by
        intro z6
        cases z6 with
        | none => rfl
        | some i =>
          show (if ¬ Khi a1 10 6 = 1 then _ else _) = _
          rw [m, if_pos n01, if_pos n02]; rfl
      exact congrArg _ (funext e)
    · rw [m, if_neg (show ¬ ¬ (0 : Int32) = 0 from fun z => z rfl), r2]; rfl
  · obtain ⟨s, c, d1, d2, d2b, d3, d4, d5, d6, ⟨i, i1, i2, i3, i4, i5, i6, i7, i8⟩ | ⟨m', -⟩⟩ := chosen_eq h1.1 h1.2.1
    · obtain ⟨⟨s', c', e1, e2, e3, e4, e5, e6, e7, e8, e9⟩, -⟩ := h1.2.1
      obtain rfl : s' = s := Option.some.inj (e1.symm.trans d1)
      have cc : c' = c := by
        have h9 := (h1.1.2.2.2.2.2.2.1 s' d2).2
        exact oN_inj (by omega) (by omega) (e5.symm.trans d4)
      subst cc
      obtain ⟨k1, k2⟩ := e9 m i i6
      obtain ⟨a', b', r1, r2, r3, r4⟩ := edit_eqF h1 i2 k1 k2 i7
      refine ⟨4, a', b', ?_, ?_, r3, r4⟩
      · rw [i8, bs, ocs_s, m, if_neg (show ¬ ¬ (1 : Int32) = 1 from fun z => z rfl), r1]; rfl
      · rw [m, if_pos n10, if_pos n12, r2]
    · exact absurd (m.symm.trans m') n10
  · obtain ⟨s, c, d1, d2, d2b, d3, d4, d5, d6, ⟨i, i1, i2, i3, i4, i5, i6, i7, i8⟩ | ⟨m', -⟩⟩ := chosen_eq h1.1 h1.2.1
    · obtain ⟨r, a', b', r1, r2, r3, r4⟩ := digit_eqF h1 m i8 i7 i2
      refine ⟨r, a', b', ?_, ?_, r3, r4⟩
      · rw [i8, bs, ocs_s, m, if_pos n21, if_neg (show ¬ ¬ (2 : Int32) = 2 from fun z => z rfl), r1]; rfl
      · rw [m, if_pos n20, if_neg (show ¬ ¬ (2 : Int32) = 2 from fun z => z rfl), r2]; rfl
    · exact absurd (m.symm.trans m') n20
theorem pass_CF {F : Nat → Int32} {j k : Nat} {a : KS} {b : MS} (h : PIF F j k a b) (c : Int32) : ∃ (d : Int32) (a' : KS) (b' : MS), f_X2_passTick_56 a c = some (c + d, a') ∧ (∀ c4 v1 v2 v3, f_X9_ticksPass_79 c4 b v1 v2 v3 = c4 b' v1 (v2 + d) (v3 + 1)) ∧ PIF F j k a' b' ∧ Mhi b' 100 0 = Mhi b 100 0 ∧ Khi a' 10 10 = Khi a 10 10 := by
  have hI := h
  obtain ⟨hT, hD, hG, hP, hX⟩ := h
  have hh := home_eq hT hD
  obtain ⟨g0, ev0, r1, r2, r3, r4, r5, r6, r7, r8, r9, r10, r11, r12⟩ := goHome_eqF hT hD hG hP hX
  obtain ⟨dA, dB, dC, dD, ⟨q, q1, q2, q3⟩, dF, dG, dH, ⟨-, ⟨se1, -⟩, -⟩, dJ⟩ := hD
  have b1 : inb 1 3 = true := by decide
  have c1 : (1 : Int32).toNatClampNeg = 1 := rfl
  have kK : f_X2_setting a 1 = some (Khi a 12 1) := rfl
  have eid : Khi a 10 10 = Mhi b 100 16 := q2.trans q3.symm
  by_cases g : Khi a 10 10 = Khi a 12 1
  · have g' : Mhi b 100 16 = Mhi b 119 1 := by rw [← eid, ← se1]; exact g
    rcases hh with ⟨m1, m2, -⟩ | ⟨m1, m2, -⟩
    · refine ⟨0, a, b, ?_, fun c4 v1 v2 v3 => ?_, hI, rfl, rfl⟩
      · unfold f_X2_passTick_56
        rw [kK, bs, if_neg (fun z => z g), m1, bs, if_pos n10, Int32.add_zero]
      · unfold f_X9_ticksPass_79 f_X9_ticksPass_106
        rw [gd_t b1, c1, if_neg (fun z => z g'), m2, bs, if_pos n10, Int32.add_zero]
    · refine ⟨1, g0, ev0, ?_, fun c4 v1 v2 v3 => ?_, ⟨r3, ?_, r5, r6, r7⟩, r10, r12⟩
      · unfold f_X2_passTick_56
        rw [kK, bs, if_neg (fun z => z g), m1, bs, if_neg nn00, r1, bs]
      · unfold f_X9_ticksPass_79 f_X9_ticksPass_106
        rw [gd_t b1, c1, if_neg (fun z => z g'), m2, bs, if_neg nn00, r2, bs]
      · rw [r8, r9]; exact r4
  · have g' : ¬ Mhi b 100 16 = Mhi b 119 1 := by rw [← eid, ← se1]; exact g
    refine ⟨0, a, b, ?_, fun c4 v1 v2 v3 => ?_, hI, rfl, rfl⟩
    · unfold f_X2_passTick_56
      rw [kK, bs, if_pos g, Int32.add_zero]
    · unfold f_X9_ticksPass_79 f_X9_ticksPass_106
      rw [gd_t b1, c1, if_pos g', Int32.add_zero]
theorem pass_BF {F : Nat → Int32} {j k : Nat} {a : KS} {b : MS} (h : PIF F j k a b) : ∃ (d : Int32) (a' : KS) (b' : MS), f_X2_passTick_29 a 0 = some (d, a') ∧ (∀ c4 b0 v1 v2 v3 s1 s2, sMhi b0 100 17 (s1 - s2) = b → f_X9_ticksPass_47 c4 b0 v1 v2 v3 s1 s2 = c4 b' v1 (v2 + d) (v3 + 1)) ∧ PIF F j k a' b' ∧ Mhi b' 100 0 = Mhi b 100 0 ∧ Khi a' 10 10 = Khi a 10 10 := by
  have hI := h
  obtain ⟨hT, hD, hG, hP, hX⟩ := h
  have hM : PIF F j k (sKhi a 10 6 0) (sMhi b 100 10 0) := ⟨hT, mode0x hD, hG, hP, hX⟩
  obtain ⟨dA, ⟨dm, -⟩, dC, dD, ⟨q, q1, q2, q3⟩, dF, dG, dH, ⟨⟨se0, -⟩, -⟩, dJ⟩ := hD
  have b1 : inb 0 3 = true := by decide
  have c1 : (0 : Int32).toNatClampNeg = 0 := rfl
  have kK : f_X2_setting a 0 = some (Khi a 12 0) := rfl
  have eid : Khi a 10 10 = Mhi b 100 16 := q2.trans q3.symm
  obtain ⟨d, a', b', r1, r2, r3, r4, r5⟩ := pass_CF hI 0
  obtain ⟨e, a2, b2, s1, s2, s3, s4, s5⟩ := pass_CF hM (0 + 1)
  by_cases g : Khi a 10 10 = Khi a 12 0
  · have g' : Mhi b 100 16 = Mhi b 119 0 := by rw [← eid, ← se0]; exact g
    by_cases m : Khi a 10 6 = 0
    · have m' : Mhi b 100 10 = 0 := by rw [← dm]; exact m
      refine ⟨0 + d, a', b', ?_, fun c4 b0 v1 v2 v3 x1 x2 hb => ?_, r3, r4, r5⟩
      · unfold f_X2_passTick_29
        rw [kK, bs, if_neg (fun z => z g), if_pos m, r1]
      · unfold f_X9_ticksPass_47
        rw [hb, gd_t b1, c1, if_neg (fun z => z g'), if_pos m', r2, Int32.zero_add]
    · have m' : ¬ Mhi b 100 10 = 0 := by rw [← dm]; exact m
      refine ⟨0 + 1 + e, a2, b2, ?_, fun c4 b0 v1 v2 v3 x1 x2 hb => ?_, s3, s4, s5⟩
      · unfold f_X2_passTick_29
        rw [kK, bs, if_neg (fun z => z g), if_neg m, s1]
      · unfold f_X9_ticksPass_47
        rw [hb, gd_t b1, c1, if_neg (fun z => z g'), if_neg m', s2, Int32.zero_add, Int32.add_assoc]
  · have g' : ¬ Mhi b 100 16 = Mhi b 119 0 := by rw [← eid, ← se0]; exact g
    refine ⟨0 + d, a', b', ?_, fun c4 b0 v1 v2 v3 x1 x2 hb => ?_, r3, r4, r5⟩
    · unfold f_X2_passTick_29
      rw [kK, bs, if_pos g, r1]
    · unfold f_X9_ticksPass_47
      rw [hb, gd_t b1, c1, if_pos g', r2, Int32.zero_add]
theorem pass_SF {F : Nat → Int32} {j k B : Nat} {a : KS} {b : MS} (hB : B + 1 ≤ 2000 * j) (h : PIF F j k a b) (hq : ∃ q, q ≤ B ∧ Khi a 10 10 = oN q) : ∃ (d : Int32) (a' : KS) (b' : MS), f_X2_passTick a = some (d, a') ∧ (∀ c4 v1 v2 v3, ¬ v1 ≤ v3 → f_X9_ticksPass_4 c4 b v1 v2 v3 = c4 b' v1 (v2 + d) (v3 + 1)) ∧ PIF F j (k + 1) a' b' ∧ (∃ q, q ≤ B + 1 ∧ Khi a' 10 10 = oN q) ∧ Mhi b' 100 0 = Mhi b 100 0 := by
  obtain ⟨hT, ⟨dA, dB, dC, dD, ⟨q, q1, q2, q3⟩, ⟨w, w1, w2, w3⟩, dG, dH, dI, dJ⟩, hG, hP, hX⟩ := h
  obtain ⟨q', x1, x2⟩ := hq
  have i1 : Khi a 10 10 + 1 = oN (q' + 1) := by rw [x2, oN_succ]
  have i2 : Mhi b 100 16 + 1 = oN (q' + 1) := by rw [q3, ← q2, x2, oN_succ]
  have b7 : inb 7 8 = true := by decide
  have c7 : (7 : Int32).toNatClampNeg = 7 := rfl
  have evs : ∀ x, x < 8 → evk (Khi a 13) (k + 1) x = Mhi (sMhi b 120 7 (Mhi b 120 7 + 1)) 120 x := by
    intro x hx
    rw [Mhi_s, ← dJ x hx]
    unfold evk
    by_cases g : x = 7
    · subst g
      rw [if_pos rfl, if_pos rfl, ← dJ 7 (by decide)]
      show _ = Khi a 13 7 + oN k + 1
      rw [Int32.add_assoc, oN_succ]
    · rw [if_neg g, if_neg g, if_neg g]
  by_cases g : oN w ≤ 0
  · have hI : PIF F j (k + 1) (sKhi a 10 10 (oN (q' + 1))) (sMhi (sMhi (sMhi b 100 16 (oN (q' + 1))) 120 7 (Mhi b 120 7 + 1)) 100 17 (oN w - 0)) :=
      ⟨hT, ⟨dA, dB, dC, dD, ⟨q' + 1, by omega, rfl, rfl⟩, ⟨w, w1, w2, Int32.sub_zero _⟩, dG, dH, dI, evs⟩, hG, hP, hX⟩
    obtain ⟨d, a', b', r1, r2, r3, r4, r5⟩ := pass_BF hI
    refine ⟨d, a', b', ?_, fun c4 v1 v2 v3 hv => ?_, r3, ⟨q' + 1, by omega, r5⟩, r4⟩
    · unfold f_X2_passTick
      rw [i1, show Khi (sKhi a 10 10 (oN (q' + 1))) 10 11 = Khi a 10 11 from rfl, w2, if_pos g]
      exact r1
    · unfold f_X9_ticksPass_4
      rw [if_neg hv, gd_t b7, gd_t b7, i2, c7, show Mhi (sMhi (sMhi b 100 16 (oN (q' + 1))) 120 7 (Mhi (sMhi b 100 16 (oN (q' + 1))) 120 7 + 1)) 100 17 = Mhi b 100 17 from rfl, w3, if_pos g]
      exact r2 c4 _ v1 v2 v3 _ _ rfl
  · have hw : 1 ≤ w := by
      rcases Nat.eq_zero_or_pos w with z | z
      · subst z; exact absurd (Int32.le_refl 0) g
      · exact z
    have hI : PIF F j (k + 1) (sKhi (sKhi a 10 10 (oN (q' + 1))) 10 11 (oN w - 1)) (sMhi (sMhi (sMhi b 100 16 (oN (q' + 1))) 120 7 (Mhi b 120 7 + 1)) 100 17 (oN w - 1)) :=
      ⟨hT, ⟨dA, dB, dC, dD, ⟨q' + 1, by omega, rfl, rfl⟩, ⟨w - 1, by omega, oN_pred hw, oN_pred hw⟩, dG, dH, dI, evs⟩, hG, hP, hX⟩
    obtain ⟨d, a', b', r1, r2, r3, r4, r5⟩ := pass_BF hI
    refine ⟨d, a', b', ?_, fun c4 v1 v2 v3 hv => ?_, r3, ⟨q' + 1, by omega, r5⟩, r4⟩
    · unfold f_X2_passTick
      rw [i1, show Khi (sKhi a 10 10 (oN (q' + 1))) 10 11 = Khi a 10 11 from rfl, w2, if_neg g]
      exact r1
    · unfold f_X9_ticksPass_4
      rw [if_neg hv, gd_t b7, gd_t b7, i2, c7, show Mhi (sMhi (sMhi b 100 16 (oN (q' + 1))) 120 7 (Mhi (sMhi b 100 16 (oN (q' + 1))) 120 7 + 1)) 100 17 = Mhi b 100 17 from rfl, w3, if_neg g]
      exact r2 c4 _ v1 v2 v3 _ _ rfl
theorem pass_lF {F : Nat → Int32} {j n : Nat} (hn : n ≤ 99) : ∀ (fuel k B : Nat) (a : KS) (b : MS) (v2 : Int32), k ≤ n → n - k < fuel → B + (n - k) ≤ 2000 * j → PIF F j k a b → (∃ q, q ≤ B ∧ Khi a 10 10 = oN q) → ∃ (r : Int32) (a' : KS) (b' : MS), l_X2_passTicks_4 fuel a (oN n) v2 (oN k) = some (r, a') ∧ l_X9_ticksPass_4 fuel b (oN n) v2 (oN k) = some (r, b') ∧ RelF F j a' b' ∧ (∃ q, q ≤ B + (n - k) ∧ Khi a' 10 10 = oN q) ∧ Mhi b' 100 0 = Mhi b 100 0 := by
  intro fuel
  induction fuel with
  | zero => intro k B a b v2 h1 h2; omega
  | succ f ih =>
    intro k B a b v2 hk hf hB h hq
    have e1 : l_X2_passTicks_4 (f + 1) a (oN n) v2 (oN k) = f_X2_passTicks_4 (l_X2_passTicks_4 f) a (oN n) v2 (oN k) := rfl
    have e2 : l_X9_ticksPass_4 (f + 1) b (oN n) v2 (oN k) = f_X9_ticksPass_4 (l_X9_ticksPass_4 f) b (oN n) v2 (oN k) := rfl
    rw [e1, e2]
    unfold f_X2_passTicks_4
    by_cases g : n ≤ k
    · have ek : k = n := by omega
      subst ek
      have b6 : inb 6 8 = true := by decide
      have c6 : (6 : Int32).toNatClampNeg = 6 := rfl
      obtain ⟨hT, ⟨dA, dB, dC, dD, dE, dF, dG, dH, dI, dJ⟩, hG, hP, hX⟩ := h
      refine ⟨v2, sKhi (sKhi a 13 7 (Khi a 13 7 + oN k)) 13 6 (Khi a 13 6 + v2), sMhi b 120 6 (Mhi b 120 6 + v2), ?_, ?_, ⟨hT, ⟨dA, dB, dC, dD, dE, dF, dG, dH, dI, fun x hx => ?_⟩, hG, hP, hX⟩, ?_, rfl⟩
      · rw [if_pos (Int32.le_refl _), show (7 : Int32) = oN 7 from rfl, count_in _ (by decide), bs, show (6 : Int32) = oN 6 from rfl, count_in _ (by decide), bs]
        rfl
      · unfold f_X9_ticksPass_4
        rw [if_pos (Int32.le_refl _), gd_t b6, gd_t b6, c6]
      · show Khi (sKhi (sKhi a 13 7 (Khi a 13 7 + oN k)) 13 6 (Khi a 13 6 + v2)) 13 x = _
        have e := dJ x hx
        have e' := dJ 6 (by decide)
        rw [Khi_s, Khi_s, Mhi_s]
        by_cases g6 : x = 6
        · rw [if_pos g6, if_pos g6, ← e']; rfl
        · rw [if_neg g6, if_neg g6, ← e]
          unfold evk
          by_cases g7 : x = 7
          · rw [if_pos g7]
          · rw [if_neg g7]
      · obtain ⟨q, z1, z2⟩ := hq
        exact ⟨q, by omega, z2⟩
    · have gg : ¬ oN n ≤ oN k := by rw [oN_le (by omega) (by omega)]; exact g
      obtain ⟨d, a1, b1, r1, r2, r3, r4, r5⟩ := pass_SF (B := B) (by omega) h hq
      obtain ⟨r, a', b', s1, s2, s3, ⟨q, s4, s4'⟩, s5⟩ := ih (k + 1) (B + 1) a1 b1 (v2 + d) (by omega) (by omega) (by omega) r3 r4
      refine ⟨r, a', b', ?_, ?_, s3, ⟨q, by omega, s4'⟩, s5.trans r5⟩
      · rw [if_neg gg, r1, bs, lt_e, oN_succ]
        exact s1
      · rw [r2 _ _ _ _ gg, oN_succ]
        exact s2
theorem passes_eqF {F : Nat → Int32} {j n B : Nat} (hn : n ≤ 99) (hB : B + n ≤ 2000 * j) {a : KS} {b : MS} (h : RelF F j a b) (hq : ∃ q, q ≤ B ∧ Khi a 10 10 = oN q) : ∃ (r : Int32) (a' : KS) (b' : MS), f_X2_passTicks a (oN n) = some (r, a') ∧ f_X9_ticksPass b (oN n) = some (r, b') ∧ Mhi b' 100 0 = Mhi b 100 0 ∧ RelF F j a' b' ∧ (∃ q, q ≤ B + n ∧ Khi a' 10 10 = oN q) := by
  obtain ⟨hT, ⟨dA, dB, dC, dD, dE, dF, dG, dH, dI, dJ⟩, hr⟩ := h
  have h0 : PIF F j 0 a b := by
    refine ⟨hT, ⟨dA, dB, dC, dD, dE, dF, dG, dH, dI, fun x hx => ?_⟩, hr⟩
    rw [← dJ x hx]
    unfold evk
    by_cases g : x = 7
    · rw [if_pos g, g]; exact Int32.add_zero _
    · rw [if_neg g]
  obtain ⟨r, a', b', r1, r2, r3, ⟨q, q1, q2⟩, r5⟩ := pass_lF hn FU 0 B a b 0 (Nat.zero_le _) (by rw [FU_e]; omega) (by omega) h0 hq
  exact ⟨r, a', b', r1, r2, r5, r3, ⟨q, by omega, q2⟩⟩
