/-! ===== operations that ask ===== -/
theorem Rel.thr {j : Nat} {a : KS} {b : MS} (h : Rel j a b) (v : Int32) : Rel j a (sMhi b 100 0 v) := h
theorem Rel.kou {j : Nat} {a : KS} {b : MS} (h : Rel j a b) (i : Nat) (v : Int64) : Rel j (sKou a i v) b := h
theorem Rel.nx {j : Nat} {a : KS} {b : MS} (h : Rel j a b) (v : Int32) : Rel (j + 1) a (sMhi b 100 0 v) := (h.thr v).up
theorem Rel.nk {j : Nat} {a : KS} {b : MS} (h : Rel j a b) (v : Int32) (i : Nat) (x : Int64) : Rel (j + 1) (sKou a i x) (sMhi b 100 0 v) := ((h.thr v).kou i x).up
theorem holds_0 (b : MS) : f_X9_holds b 0 = some (1, sMhi b 100 0 0) := rfl
theorem holds_n (b : MS) {v : Int32} (h : ¬ v = 0) : f_X9_holds b v = some (0, sMhi b 100 0 v) := if_pos h
theorem n10 : ¬ (1 : Int32) = 0 := by decide
theorem n20 : ¬ (2 : Int32) = 0 := by decide
theorem n30 : ¬ (3 : Int32) = 0 := by decide
section QU
variable {a : KS} {b : MS} {j : Nat} {ev mev : Nat → Int32}
theorem menu_num (h : RTs a b) {i : Nat} (hi : i < Kn a) : f_X8_numberOf a (Kmn a i) = some (Mhi b 103 i) := by
  unfold f_X8_numberOf
  by_cases e : i = 0
  · subst e
    rw [h.2.2.2.1.1, h.2.2.2.1.2.1]; rfl
  · obtain ⟨p, p1, p2, p3, -⟩ := h.2.2.2.2.1 i (by omega) hi
    rw [p2, p3, ocs_s, gd_d (by omega), (it_at h (by omega)).1]
theorem wbh_eq (h : RTs a b) (hd : RDx ev mev j a b) : (f_X2_wouldBeHomeBrowsing a = some 1 ∧ Ksh a = some 0 ∧ Khi a 10 7 = 0 ∧ ∀ i, i < Kn a → ¬ isOp a i) ∨ (f_X2_wouldBeHomeBrowsing a = some 0 ∧ ¬ (Ksh a = some 0 ∧ Khi a 10 7 = 0 ∧ ∀ i, i < Kn a → ¬ isOp a i)) := by
  have hn := rt_n h
  obtain ⟨⟨s, c, d1, d2, d3, d4, d5, d6, -⟩, -⟩ := hd
  unfold f_X2_wouldBeHomeBrowsing
  rw [lt_e, d1, gd_t (by rw [show okr (Kn a) (some s) = true from decide_eq_true d2, show okr (Kn a) (some 0) = true from decide_eq_true (by omega)]; rfl)]
  by_cases e : s = 0
  · subst e
    rw [if_neg (fun q => q rfl)]
    by_cases e2 : Khi a 10 7 = 0
    · rw [if_neg (fun q => q e2)]
      rcases any_eq h with ⟨k1, -, i, k3, k4⟩ | ⟨k1, -, k3⟩
      · rw [k1, bs, if_pos n10]
        exact Or.inr ⟨rfl, fun q => q.2.2 i k3 k4⟩
      · rw [k1, bs, if_neg (fun q => q rfl)]
        exact Or.inl ⟨rfl, rfl, e2, k3⟩
    · rw [if_pos e2]
      exact Or.inr ⟨rfl, fun q => e2 q.2.1⟩
  · rw [if_pos (fun q => e (Option.some.inj q))]
    exact Or.inr ⟨rfl, fun q => e (Option.some.inj q.1)⟩
/-- both say alike whether the device is at home -/
theorem home_eq (h : RTs a b) (hd : RDx ev mev j a b) : (f_X2_atHome a = some 1 ∧ f_X9_home b = some 1 ∧ Khi a 10 6 = 0 ∧ Ksh a = some 0 ∧ Khi a 10 7 = 0 ∧ ∀ i, i < Kn a → ¬ isOp a i) ∨ (f_X2_atHome a = some 0 ∧ f_X9_home b = some 0 ∧ ¬ (Khi a 10 6 = 0 ∧ Ksh a = some 0 ∧ Khi a 10 7 = 0 ∧ ∀ i, i < Kn a → ¬ isOp a i)) := by
  have hn := rt_n h
  have hw := wbh_eq h hd
  obtain ⟨⟨s, c, d1, d2, d3, d4, d5, d6, -⟩, ⟨m1, -⟩, -⟩ := hd
  unfold f_X2_atHome f_X9_home
  rw [← m1]
  by_cases m0 : Khi a 10 6 = 0
  · rw [if_neg (fun q => q m0), if_neg (fun q => q m0)]
    rw [d4, d6, ← d5]
    by_cases e : s = 0
    · subst e
      rw [if_neg (fun q => q rfl)]
      by_cases e2 : Khi a 10 7 = 0
      · rw [if_neg (fun q => q e2)]
        rcases hw with ⟨w1, w2, w3, w4⟩ | ⟨w1, w2⟩
        · rcases any_eq h with ⟨k1, -, i, k3, k4⟩ | ⟨k1, k2, k3⟩
          · exact absurd k4 (w4 i k3)
          · rw [w1, k2, bs, bs, if_neg n10, if_neg (fun q => q rfl)]
            exact Or.inl ⟨rfl, rfl, m0, w2, e2, w4⟩
        · rcases any_eq h with ⟨k1, k2, i, k3, k4⟩ | ⟨k1, k2, k3⟩
          · rw [w1, k2, bs, bs, if_pos rfl, if_pos n10]
            exact Or.inr ⟨rfl, rfl, fun q => w2 q.2⟩
          · exact absurd ⟨d1, e2, k3⟩ w2
      · rw [if_pos e2]
        rcases hw with ⟨w1, w2, w3, w4⟩ | ⟨w1, w2⟩
        · exact absurd w3 e2
        · rw [w1, bs, if_pos rfl]
          exact Or.inr ⟨rfl, rfl, fun q => w2 q.2⟩
    · rw [if_pos (show ¬ oN s = 0 from fun q => e (oN_inj (by omega) (by omega) q))]
      rcases hw with ⟨w1, w2, w3, w4⟩ | ⟨w1, w2⟩
      · rw [d1] at w2
        exact absurd (Option.some.inj w2) e
      · rw [w1, bs, if_pos rfl]
        exact Or.inr ⟨rfl, rfl, fun q => w2 q.2⟩
  · rw [if_pos m0, if_pos m0]
    exact Or.inr ⟨rfl, rfl, fun q => m0 q.1⟩
/-- the chosen item on both sides -/
theorem chosen_eq (h : RTs a b) (hd : RDx ev mev j a b) : ∃ s c, Ksh a = some s ∧ s < Kn a ∧ Kit a s 1 = 0 ∧ Mhi b 100 11 = oN s ∧ Khi a 10 7 = oN c ∧ Mhi b 100 12 = oN c ∧ c < 1000 ∧ ((∃ i, 1 ≤ i ∧ i < Kn a ∧ Kmn a i = some s ∧ cnt (Kmn a) s i = c ∧ c < cnt (Kmn a) s (Kn a) ∧ Kch a s c = some i ∧ f_X9_itemAt b (Mhi b 100 12) = some (oN i) ∧ f_X2_chosenItem a = some (some i)) ∨ (Khi a 10 6 = 0 ∧ c = cnt (Kmn a) s (Kn a) ∧ (1 ≤ s ∨ c = 0) ∧ f_X9_itemAt b (Mhi b 100 12) = some (-1) ∧ f_X2_chosenItem a = some none)) := by
  have hn := rt_n h
  obtain ⟨⟨s, c, d1, d2, d2b, d3, d4, d5, d6, d7, -⟩, ⟨m1, -⟩, -⟩ := hd
  have c8 := (h.2.2.2.2.2.2.1 s d2).2
  have cb : c < 1000 := by omega
  refine ⟨s, c, d1, d2, d2b, d3, d4, d5, cb, ?_⟩
  have key : ∀ r, f_X4_childAt a s (oN c) = some r → f_X2_chosenItem a = some r := by
    intro r hr
    unfold f_X2_chosenItem
    rw [lt_e, d1, odr_s d2, d4, hr]; rfl
  by_cases e : c < cnt (Kmn a) s (Kn a)
  · obtain ⟨i, i1, i2, i3, i4, i5, i6, i7⟩ := at_in h d2 d3 e
    exact Or.inl ⟨i, i1, i2, i3, i4, e, i5, by rw [d5]; exact i6, key _ i7⟩
  · obtain ⟨k1, k2⟩ := at_out h d2 d3 e cb
    have e2 := d6.resolve_left e
    refine Or.inr ⟨?_, e2.1, e2.2, by rw [d5]; exact k1, key _ k2⟩
    by_cases m0 : Khi a 10 6 = 0
    · exact m0
    · exact absurd (d7 m0) e
end QU
theorem s_4 : S_4 Rel := by
  intro j a b v1 v2 v3 v4 hj h
  refine ⟨_, _, rfl, rfl, ?_, h.nx 0⟩
  exact h.1.1.2.2.1.trans h.1.1.2.2.2.symm
theorem s_5 : S_5 Rel := by
  intro j a b v1 v2 v3 v4 hj h
  rcases num_cases h.1 v1 with o | ⟨i, hi, rfl⟩
  · refine ⟨(1, a), (0, sMhi b 100 0 1), 1, ?_, ?_, rfl, rfl, fun q => absurd q n10, h.nx 1⟩
    · simp only [f_L_kind, f_X8_kind, num_out o, bs]; rfl
    · simp only [f_X9_kind, isItem_out h.1 o, bs]; rfl
  · refine ⟨(0, sKou a 0 (Kit a i 1).toInt64), (Mhi b 102 i, sMhi b 100 0 0), 0, ?_, ?_, rfl, rfl, fun _ => ?_, h.nk 0 0 _⟩
    · simp only [f_L_kind, f_X8_kind, num_in h.1 hi, bs, if_true, lt_e, odr_s hi]
    · simp only [f_X9_kind, isItem_in h.1 hi, f_X9_kind_14, bs]
      rw [if_neg n10, holds_0, bs, if_neg n10, gd_t (in24 h.1 hi), cl_n h.1 hi]; rfl
    · show (Kit a i 1).toInt64 = _
      rw [(it_at h.1 hi).2.1]
theorem s_6 : S_6 Rel := by
  intro j a b v1 v2 v3 v4 hj h
  rcases num_cases h.1 v1 with o | ⟨i, hi, rfl⟩
  · refine ⟨(1, a), (0, sMhi b 100 0 1), 1, ?_, ?_, rfl, rfl, fun q => absurd q n10, h.nx 1⟩
    · simp only [f_L_menuOf, f_X8_menuOf, num_out o, bs]; rfl
    · simp only [f_X9_menuOf, isItem_out h.1 o, bs]; rfl
  · refine ⟨(0, sKou a 0 (Mhi b 103 i).toInt64), (Mhi b 103 i, sMhi b 100 0 0), 0, ?_, ?_, rfl, rfl, fun _ => rfl, h.nk 0 0 _⟩
    · simp only [f_L_menuOf, f_X8_menuOf, num_in h.1 hi, bs, if_true, lt_e, odr_s hi, menu_num h.1 hi]
    · simp only [f_X9_menuOf, isItem_in h.1 hi, f_X9_menuOf_14, bs]
      rw [if_neg n10, holds_0, bs, if_neg n10, gd_t (in24 h.1 hi), cl_n h.1 hi]; rfl
theorem s_7 : S_7 Rel := by
  intro j a b v1 v2 v3 v4 hj h
  rcases num_cases h.1 v1 with o | ⟨i, hi, rfl⟩
  · refine ⟨(1, a), (0, sMhi b 100 0 1), 1, ?_, ?_, rfl, rfl, fun q => absurd q n10, h.nx 1⟩
    · simp only [f_L_value, f_X8_value, num_out o, bs]; rfl
    · simp only [f_X9_value, isItem_out h.1 o, bs]; rfl
  · by_cases k : Kit a i 1 = 0
    · refine ⟨(2, a), (0, sMhi b 100 0 2), 2, ?_, ?_, rfl, rfl, fun q => absurd q n20, h.nx 2⟩
      · simp only [f_L_value, f_X8_value, num_in h.1 hi, bs, if_true, lt_e, odr_s hi]
        rw [if_neg (fun q => q k)]; rfl
      · simp only [f_X9_value, isItem_in h.1 hi, bs, isMenu_in h.1 hi]
        rw [if_pos n10, if_pos k, if_neg n10]; rfl
    · refine ⟨(0, sKou a 0 (Kit a i 10).toInt64), (Mhi b 107 i, sMhi b 100 0 0), 0, ?_, ?_, rfl, rfl, fun _ => ?_, h.nk 0 0 _⟩
      · simp only [f_L_value, f_X8_value, num_in h.1 hi, bs, if_true, lt_e, odr_s hi]
        rw [if_pos k]; rfl
      · simp only [f_X9_value, isItem_in h.1 hi, bs, isMenu_in h.1 hi, f_X9_value_26]
        rw [if_pos n10, if_neg k, if_pos rfl, holds_0, bs, if_neg n10, gd_t (in24 h.1 hi), cl_n h.1 hi]; rfl
      · show (Kit a i 10).toInt64 = _
        rw [(it_at h.1 hi).2.2.2.2.2.1]
theorem s_8 : S_8 Rel := by
  intro j a b v1 v2 v3 v4 hj h
  rcases num_cases h.1 v1 with o | ⟨i, hi, rfl⟩
  · refine ⟨(1, a), (0, sMhi b 100 0 1), 1, ?_, ?_, rfl, rfl, fun q => absurd q n10, fun q => absurd q n10, h.nx 1⟩
    · simp only [f_L_isClosed, f_X8_isClosed, num_out o, bs]; rfl
    · simp only [f_X9_isClosed, isItem_out h.1 o, bs]; rfl
  · by_cases k : ¬ Kit a i 11 = -1 ∧ Kit a i 12 = 0
    · refine ⟨(0, sKou a 0 1), (1, sMhi b 100 0 0), 0, ?_, ?_, rfl, rfl, fun _ q => absurd q n10, fun _ _ => rfl, h.nk 0 0 _⟩
      · simp only [f_L_isClosed, f_X8_isClosed, num_in h.1 hi, bs, if_true, lt_e, odr_s hi, closed_in hi]
        rw [if_pos k]; rfl
      · simp only [f_X9_isClosed, isItem_in h.1 hi, bs, f_X9_isClosed_14]
        rw [if_neg n10, holds_0, bs, if_neg n10, isShut_in (h.thr 0).1 hi, if_pos k]; rfl
    · refine ⟨(0, sKou a 0 0), (0, sMhi b 100 0 0), 0, ?_, ?_, rfl, rfl, fun _ _ => rfl, fun _ q => absurd rfl q, h.nk 0 0 _⟩
      · simp only [f_L_isClosed, f_X8_isClosed, num_in h.1 hi, bs, if_true, lt_e, odr_s hi, closed_in hi]
        rw [if_neg k]; rfl
      · simp only [f_X9_isClosed, isItem_in h.1 hi, bs, f_X9_isClosed_14]
        rw [if_neg n10, holds_0, bs, if_neg n10, isShut_in (h.thr 0).1 hi, if_neg k]; rfl
theorem s_17 : S_17 Rel := fun j a b _ _ _ _ _ h => ⟨_, _, rfl, rfl, h.2.1.2.1.1, h.nx 0⟩
theorem s_18 : S_18 Rel := by
  intro j a b v1 v2 v3 v4 hj h
  obtain ⟨s, c, d1, d2, -, d3, -⟩ := chosen_eq h.1 h.2.1
  refine ⟨oN s, _, ?_, rfl, d3.symm, h.nx 0⟩
  simp only [f_X8_shown, lt_e, d1, odr_s d2, (it_at h.1 d2).1]
theorem s_19 : S_19 Rel := by
  intro j a b v1 v2 v3 v4 hj h
  obtain ⟨s, c, -, -, -, -, d4, d5, -⟩ := chosen_eq h.1 h.2.1
  exact ⟨_, _, rfl, rfl, d4.trans d5.symm, h.nx 0⟩
theorem s_20 : S_20 Rel := by
  intro j a b v1 v2 v3 v4 hj h
  obtain ⟨s, c, -, -, -, -, -, -, -, ⟨i, -, i2, -, -, -, -, i6, i7⟩ | ⟨-, -, -, i6, i7⟩⟩ := chosen_eq (h.thr 0).1 (h.thr 0).2.1
  · refine ⟨oN i, (oN i, sMhi b 100 0 0), ?_, ?_, rfl, h.nx 0⟩
    · simp only [f_X8_chosen, i7, bs, f_X8_numberOf, ocs_s]
      rw [gd_d i2, (it_at h.1 i2).1]; rfl
    · unfold f_X9_chosen
      rw [i6]; rfl
  · refine ⟨-1, (-1, sMhi b 100 0 0), ?_, ?_, rfl, h.nx 0⟩
    · simp only [f_X8_chosen, i7, bs, f_X8_numberOf, ocs_n]
    · unfold f_X9_chosen
      rw [i6]; rfl
theorem s_21 : S_21 Rel := by
  intro j a b v1 v2 v3 v4 hj h
  by_cases m : Khi a 10 6 = 1
  · refine ⟨Khi a 10 8, (Mhi b 100 13, sMhi b 100 0 0), ?_, ?_, h.2.1.2.2.1, h.nx 0⟩
    · unfold f_X8_draft
      rw [if_neg (fun q => q m)]
    · unfold f_X9_draft f_X9_draftNow
      rw [show Mhi (sMhi b 100 0 0) 100 10 = Mhi b 100 10 from rfl, ← h.2.1.2.1.1, if_neg (fun q => q m)]; rfl
  · refine ⟨0, (0, sMhi b 100 0 0), ?_, ?_, rfl, h.nx 0⟩
    · unfold f_X8_draft
      rw [if_pos m]
    · unfold f_X9_draft f_X9_draftNow
      rw [show Mhi (sMhi b 100 0 0) 100 10 = Mhi b 100 10 from rfl, ← h.2.1.2.1.1, if_pos m]; rfl
theorem s_22 : S_22 Rel := by
  intro j a b v1 v2 v3 v4 hj h
  obtain ⟨q, -, q1, q2⟩ := h.2.1.2.2.2.2.1
  exact ⟨_, _, rfl, rfl, q1.trans q2.symm, h.nx 0⟩
theorem s_23 : S_23 Rel := by
  intro j a b v1 v2 v3 v4 hj h
  obtain ⟨q, -, q1, q2⟩ := h.2.1.2.2.2.2.2.1
  exact ⟨_, _, rfl, rfl, q1.trans q2.symm, h.nx 0⟩
theorem s_24 : S_24 Rel := by
  intro j a b v1 v2 v3 v4 hj h
  obtain ⟨⟨q, -, q1, q2, -⟩, -⟩ := h.2.2.1
  exact ⟨_, _, rfl, rfl, q1.trans q2.symm, h.nx 0⟩
theorem s_25 : S_25 Rel := by
  intro j a b v1 v2 v3 v4 hj h
  rcases home_eq (h.thr 0).1 (h.thr 0).2.1 with ⟨k1, k2, -⟩ | ⟨k1, k2, -⟩
  · refine ⟨1, (1, sMhi b 100 0 0), ?_, ?_, rfl, h.nx 0⟩
    · unfold f_X8_isHome; rw [k1]; rfl
    · unfold f_X9_isHome; rw [k2]; rfl
  · refine ⟨0, (0, sMhi b 100 0 0), ?_, ?_, rfl, h.nx 0⟩
    · unfold f_X8_isHome; rw [k1]; rfl
    · unfold f_X9_isHome; rw [k2]; rfl
