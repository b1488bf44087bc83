/-! ===== more operations that ask ===== -/
theorem in_t {b : MS} {v lo hi : Int32} (h1 : ¬ v < lo) (h2 : ¬ hi < v) : f_X9_in b v lo hi = some 1 := by
  unfold f_X9_in
  rw [if_neg h1, if_neg h2]
theorem in_f {b : MS} {v lo hi : Int32} (h : v < lo ∨ hi < v) : f_X9_in b v lo hi = some 0 := by
  unfold f_X9_in
  by_cases h1 : v < lo
  · rw [if_pos h1]
  · rw [if_neg h1, if_pos (h.resolve_left h1)]
theorem rng (v : Int32) {N : Nat} (hN : N < 2147483648) : (v < 0 ∨ oN N ≤ v) ∨ ∃ i, i < N ∧ v = oN i := by
  by_cases h0 : v < 0
  · exact Or.inl (Or.inl h0)
  · by_cases h1 : oN N ≤ v
    · exact Or.inl (Or.inr h1)
    · refine Or.inr ⟨v.toNatClampNeg, ?_, nn_eq h0⟩
      rw [nn_eq h0, oN_le hN (nn_lt h0)] at h1
      omega
theorem i32_succ_le {v : Int32} {N : Nat} (hN : N < 2147483647) : oN N < v ↔ oN (N + 1) ≤ v := by
  rw [Int32.lt_iff_toInt_lt, Int32.le_iff_toInt_le, ofNat_i32 (by omega), ofNat_i32 (by omega)]
  omega
theorem min_le (x y : Int32) : (if y < x then y else x) = if x ≤ y then x else y := by
  by_cases g1 : x ≤ y
  · rw [if_pos g1, if_neg (Int32.not_lt.mpr g1)]
  · rw [if_neg g1, if_pos (Int32.not_le.mp g1)]
section Q2
variable {a : KS} {b : MS} {j : Nat}
theorem set_in (h : RDs j a b) : (f_X2_setting a 0 = some (Khi a 12 0) ∧ f_X2_setting a 1 = some (Khi a 12 1) ∧ f_X2_setting a 2 = some (Khi a 12 2)) := ⟨rfl, rfl, rfl⟩
theorem entries_K (h : RTs a b) {p : Nat} (hp : p < Kn a) : f_X4_entries a p = some (oN (cnt (Kmn a) p (Kn a) + if p = 0 then 0 else 1)) := by
  unfold f_X4_entries
  rw [gd_d hp, lt_e, (h.2.2.2.2.2.2.1 p hp).1]
  by_cases e : p = 0
  · subst e
    rw [h.2.2.2.1.1, ocs_n, if_pos rfl]; rfl
  · obtain ⟨q, q1, q2, -⟩ := h.2.2.2.2.1 p (by omega) hp
    rw [q2, ocs_s, if_neg e, oN_succ]
theorem entries_M (h : RTs a b) {p : Nat} (hp : p < Kn a) : f_X9_entries b (oN p) = some (oN (cnt (Kmn a) p (Kn a) + if p = 0 then 0 else 1)) := by
  have hn := rt_n h
  unfold f_X9_entries
  rw [itemsOf_in h hp, bs]
  by_cases e : p = 0
  · subst e
    rw [if_neg (fun q => q rfl), if_pos rfl]
    exact congrArg some (Int32.add_zero _)
  · rw [if_pos (show ¬ oN p = 0 from fun q => e (oN_inj (by omega) (by omega) q)), if_neg e, oN_succ]
theorem codes_l (h : RTs a b) : ∀ (f1 f2 i : Nat) (acc : Int32), i < Kn a → i + 1 < f1 → i + 1 < f2 → ∃ r, l_X8_codesTo_8 f1 a acc (some i) = some (0, r) ∧ l_X9_codesTo_26 f2 b acc (oN i) = some (r, b) := by
  have hn := rt_n h
  intro f1
  induction f1 with
  | zero => intro f2 i acc _ h2; omega
  | succ f ih =>
    intro f2 i acc hi h1 h2
    obtain ⟨g, rfl⟩ : ∃ g, f2 = g + 1 := ⟨f2 - 1, by omega⟩
    have e1 : l_X8_codesTo_8 (f + 1) a acc (some i) = f_X8_codesTo_8 (l_X8_codesTo_8 f) a acc (some i) := rfl
    have e2 : l_X9_codesTo_26 (g + 1) b acc (oN i) = f_X9_codesTo_26 (l_X9_codesTo_26 g) b acc (oN i) := rfl
    rw [e1, e2]
    unfold f_X8_codesTo_8 f_X9_codesTo_26 f_X8_codesTo_22 f_X9_codesTo_45
    rw [ocs_s, gd_d hi, closed_in hi, bs, if_neg (oN_ne1 (by omega)), isShut_in h hi, bs]
    have key : ∀ acc2, ∃ r, gd (decide (i < Kn a)) (lt (Kmn a i) fun o2 => l_X8_codesTo_8 f a acc2 o2) = some (0, r) ∧ gd (inb (oN i) 24) (lt (Mhi b 103 (oN i).toNatClampNeg) fun x2 => l_X9_codesTo_26 g b acc2 x2) = some (r, b) := by
      intro acc2
      rw [gd_d hi, lt_e, gd_t (in24 h hi), cl_n h hi, lt_e]
      by_cases e : i = 0
      · subst e
        rw [h.2.2.2.1.1, h.2.2.2.1.2.1]
        obtain ⟨f', rfl⟩ : ∃ f', f = f' + 1 := ⟨f - 1, by omega⟩
        obtain ⟨g', rfl⟩ : ∃ g', g = g' + 1 := ⟨g - 1, by omega⟩
        exact ⟨acc2, rfl, rfl⟩
      · obtain ⟨p, p1, p2, p3, -⟩ := h.2.2.2.2.1 i (by omega) hi
        rw [p2, p3]
        exact ih g p acc2 (by omega) (by omega) (by omega)
    by_cases k : ¬ Kit a i 11 = -1 ∧ Kit a i 12 = 0
    · rw [if_pos k, if_neg n10, if_neg n10, lt_e]
      exact key (acc + 1)
    · rw [if_neg k, if_pos rfl, if_pos rfl, lt_e, Int32.add_zero]
      exact key acc
theorem dets_l (h : RTs a b) (hs : Khi a 12 2 = Mhi b 119 2) : ∀ (f1 f2 i : Nat) (acc : Int32), i < Kn a → i + 1 < f1 → i + 1 < f2 → ∃ r, l_X2_detentsFromHome_10 f1 a acc i (Kmn a i) = some r ∧ l_X9_detentsTo_26 f2 b acc (oN i) = some (r, b) := by
  have hn := rt_n h
  intro f1
  induction f1 with
  | zero => intro f2 i acc _ h2; omega
  | succ f ih =>
    intro f2 i acc hi h1 h2
    obtain ⟨g, rfl⟩ : ∃ g, f2 = g + 1 := ⟨f2 - 1, by omega⟩
    have e1 : l_X2_detentsFromHome_10 (f + 1) a acc i (Kmn a i) = f_X2_detentsFromHome_10 (l_X2_detentsFromHome_10 f) a acc i (Kmn a i) := rfl
    have e2 : l_X9_detentsTo_26 (g + 1) b acc (oN i) = f_X9_detentsTo_26 (l_X9_detentsTo_26 g) b acc (oN i) := rfl
    rw [e1, e2]
    unfold f_X2_detentsFromHome_10 f_X9_detentsTo_26 f_X9_detentsTo_75 f_X9_detentsTo_77
    by_cases e : i = 0
    · subst e
      rw [h.2.2.2.1.1, ocs_n]
      exact ⟨acc, rfl, rfl⟩
    · obtain ⟨p, p1, p2, p3, -, -, p6, -⟩ := h.2.2.2.2.1 i (by omega) hi
      have hp : p < Kn a := by omega
      rw [p2, ocs_s, gd_d hi, gd_d hp, entries_K h hp, bs, if_neg (show ¬ oN i = 0 from fun q => e (oN_inj (by omega) (by omega) q)), indexOf_in h (by omega) hi p2, bs, gd_t (in24 h hi), cl_n h hi, p3, entries_M h hp, bs, lt_e, gd_t (by decide)]
      generalize (cnt (Kmn a) p (Kn a) + if p = 0 then 0 else 1) = E
      unfold f_X2_detentsToEntry
      rw [show f_X2_setting a 2 = some (Khi a 12 2) from rfl, bs, hs, p6]
      have key : ∀ acc2, ∃ r, l_X2_detentsFromHome_10 f a acc2 p (Kmn a p) = some r ∧ (lt acc2 fun x1 => gd (inb (oN i) 24) (lt (oN p) fun x2 => l_X9_detentsTo_26 g b x1 x2)) = some (r, b) := by
        intro acc2
        rw [lt_e, gd_t (in24 h hi), lt_e]
        exact ih g p acc2 hp (by omega) (by omega)
      have c2 : (2 : Int32).toNatClampNeg = 2 := rfl
      rw [c2]
      by_cases w : Mhi b 119 2 = 1
      · rw [if_neg (fun q => q w), if_neg (fun q => q w), bs, lt_e]
        unfold mmin
        rw [min_le]
        by_cases g1 : oN (cnt (Kmn a) p i) ≤ oN E - oN (cnt (Kmn a) p i)
        · rw [if_pos g1, if_pos g1, lt_e]
          exact key _
        · rw [if_neg g1, if_neg g1, lt_e]
          exact key _
      · rw [if_pos w, if_pos w, bs, lt_e, lt_e]
        exact key _
end Q2
theorem s_27 : S_27 Rel := by
  intro j a b v1 v2 v3 v4 hj h
  rcases rng v1 (N := 8) (by decide) with o | ⟨i, hi, rfl⟩
  · refine ⟨(1, a), (0, sMhi b 100 0 1), 1, ?_, ?_, rfl, rfl, fun q => absurd q n10, h.nx 1⟩
    · unfold f_L_events f_X8_events f_X8_events_10
      have o : v1 < 0 ∨ (8 : Int32) ≤ v1 := o
      by_cases h0 : v1 < 0
      · rw [if_pos h0]; rfl
      · rw [if_neg h0, if_neg (Int32.not_lt.mpr (o.resolve_left h0))]; rfl
    · unfold f_X9_events f_X9_events_16
      rw [in_f (hi := 7) (o.imp id (fun q => (i32_succ_le (N := 7) (by decide)).mpr q))]; rfl
  · refine ⟨(0, sKou a 0 (Khi a 13 i).toInt64), (Mhi b 120 i, sMhi b 100 0 0), 0, ?_, ?_, rfl, rfl, fun _ => ?_, h.nk 0 0 _⟩
    · unfold f_L_events f_X8_events f_X8_events_10 f_X2_counted
      rw [if_neg (oN_nn (by omega)), if_pos (show oN i < 8 from (oN_lt (y := 8) (by omega) (by decide)).mpr hi), if_neg (oN_nn (by omega)), if_neg (show ¬ 8 ≤ oN i from fun q => by rw [show (8 : Int32) = oN 8 from rfl, oN_le (by decide) (by omega)] at q; omega), gd_t (inb_oN hi (by decide)), ofNat_cl (by omega)]; rfl
    · unfold f_X9_events f_X9_events_16
      rw [in_t (oN_nn (by omega)) (show ¬ 7 < oN i from fun q => by rw [show (7 : Int32) = oN 7 from rfl, oN_lt (by decide) (by omega)] at q; omega), bs, if_neg n10, holds_0, bs, if_neg n10, gd_t (inb_oN hi (by decide)), ofNat_cl (by omega)]; rfl
    · show (Khi a 13 i).toInt64 = _
      rw [h.2.1.2.2.2.2.2.2.2.2.2 i hi]
theorem s_29 : S_29 Rel := by
  intro j a b v1 v2 v3 v4 hj h
  rcases num_cases h.1 v1 with o | ⟨i, hi, rfl⟩
  · refine ⟨(1, a), (0, sMhi b 100 0 1), 1, ?_, ?_, rfl, rfl, fun q => absurd q n10, h.nx 1⟩
    · simp only [f_L_pressesTo, f_X8_pressesTo, num_out o, bs]; rfl
    · simp only [f_X9_pressesTo, isItem_out h.1 o, bs]; rfl
  · refine ⟨(0, sKou a 0 (Kit a i 3).toInt64), (Kit a i 3, sMhi b 100 0 0), 0, ?_, ?_, rfl, rfl, fun _ => rfl, h.nk 0 0 _⟩
    · simp only [f_L_pressesTo, f_X8_pressesTo, num_in h.1 hi, bs, if_true, lt_e, odr_s hi]
    · simp only [f_X9_pressesTo, isItem_in h.1 hi, f_X9_pressesTo_14, bs]
      rw [if_neg n10, holds_0, bs, if_neg n10, levelOf_in (h.thr 0).1 hi]; rfl
theorem s_30 : S_30 Rel := by
  intro j a b v1 v2 v3 v4 hj h
  have hn := rt_n h.1
  rcases num_cases h.1 v1 with o | ⟨i, hi, rfl⟩
  · refine ⟨(1, a), (0, sMhi b 100 0 1), 1, ?_, ?_, rfl, rfl, fun q => absurd q n10, h.nx 1⟩
    · simp only [f_L_detentsTo, f_X8_detentsTo, num_out o, bs]; rfl
    · simp only [f_X9_detentsTo, isItem_out h.1 o, bs]; rfl
  · obtain ⟨r, r1, r2⟩ := dets_l (h.thr 0).1 h.2.1.2.2.2.2.2.2.2.2.1.2.2.1 FU FU i 0 hi (by rw [FU_e]; omega) (by rw [FU_e]; omega)
    refine ⟨(0, sKou a 0 r.toInt64), (r, sMhi b 100 0 0), 0, ?_, ?_, rfl, rfl, fun _ => rfl, h.nk 0 0 _⟩
    · simp only [f_L_detentsTo, f_X8_detentsTo, num_in h.1 hi, bs, if_true, lt_e, f_X2_detentsFromHome, odr_s hi, r1]
    · simp only [f_X9_detentsTo, isItem_in h.1 hi, f_X9_detentsTo_14, bs]
      rw [if_neg n10, holds_0, bs, if_pos n10, r2]
theorem s_31 : S_31 Rel := by
  intro j a b v1 v2 v3 v4 hj h
  have hn := rt_n h.1
  rcases num_cases h.1 v1 with o | ⟨i, hi, rfl⟩
  · refine ⟨(1, a), (0, sMhi b 100 0 1), 1, ?_, ?_, rfl, rfl, fun q => absurd q n10, h.nx 1⟩
    · simp only [f_L_codesTo, f_X8_codesTo, num_out o, bs]; rfl
    · simp only [f_X9_codesTo, isItem_out h.1 o, bs]; rfl
  · obtain ⟨r, r1, r2⟩ := codes_l (h.thr 0).1 FU FU i 0 hi (by rw [FU_e]; omega) (by rw [FU_e]; omega)
    refine ⟨(0, sKou a 0 r.toInt64), (r, sMhi b 100 0 0), 0, ?_, ?_, rfl, rfl, fun _ => rfl, h.nk 0 0 _⟩
    · simp only [f_L_codesTo, f_X8_codesTo, num_in h.1 hi, bs, if_true, lt_e, r1]
    · simp only [f_X9_codesTo, isItem_in h.1 hi, f_X9_codesTo_14, bs]
      rw [if_neg n10, holds_0, bs, if_pos n10, r2]
theorem s_35 : S_35 Rel := by
  intro j a b v1 v2 v3 v4 hj h
  obtain ⟨h1, h2, h3, h4, ⟨q, q1, q2, q3, q4⟩⟩ := h
  refine ⟨(Khi a 16 2, sKhi a 16 2 0), (Mhi b 100 27, sMhi (sMhi b 100 0 0) 100 27 0), rfl, rfl, q2.trans q3.symm, ?_⟩
  refine Rel.up j _ _ ⟨h1, h2, h3, h4, ⟨0, by omega, rfl, rfl, fun k hk => absurd hk (by omega)⟩⟩
