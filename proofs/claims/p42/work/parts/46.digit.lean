/-! ===== the end of a digit ===== -/
theorem open_rel {j : Nat} {a : KS} {b : MS} (h : Rel j a b) {i : Nat} (hi : i < Kn a) {v : Int32} (hv : v = 0 ∨ v = 1) : Rel j (sKit a i 12 v) (sMhi b 109 i v) := by
  have hc : core (Kit a) (Kit (sKit a i 12 v)) := fun k m m1 m2 m3 => by rw [Kit_n m3]
  obtain ⟨hT, hD, hG, ⟨hP1, hP2⟩, hX⟩ := h
  refine ⟨RT_cg hT hc (fun k hk => ?_) (fun k k1 k2 => ?_), RD_cg hc hD, RG_cg hc hG, ⟨RP_cg hc hP1, RP_cg hc hP2⟩, hX⟩
  · have it := it_at hT hk
    refine ⟨?_, ?_, ?_, ?_, ?_⟩
    · rw [Kit_n (by decide)]; exact it.2.2.2.2.2.1
    · rw [Kit_n (by decide)]; exact it.2.2.2.2.2.2.1
    · rw [Kit_e, Mhi_s]
      by_cases g : k = i
      · rw [if_pos g, if_pos g]
      · rw [if_neg g, if_neg g]; exact it.2.2.2.2.2.2.2.1
    · rw [Kit_e]
      by_cases g : k = i
      · rw [if_pos g]; exact hv
      · rw [if_neg g]; exact it.2.2.2.2.2.2.2.2
    · rw [Kit_n (by decide)]
      exact (hT.2.2.2.2.2.2.2.1 k hk).2
  · have t9 := hT.2.2.2.2.2.2.2.2 k k1 k2
    have k1 : Kn a ≤ k := k1
    refine ⟨t9.2.2.2.1, ?_⟩
    rw [Mhi_s, if_neg (by omega)]
    exact t9.2.2.2.2
theorem wrong_rel {j : Nat} {a : KS} {b : MS} (h : Rel j a b) {x : Int32} {q : Nat} (hq : q < 3) (hx : x = oN q) : Rel j (sKhi a 10 12 x) (sMhi b 100 18 x) := by
  obtain ⟨hT, ⟨d1, d2, d3, d4, d5, d6, -, dr⟩, hr⟩ := h
  exact ⟨hT, ⟨d1, d2, d3, d4, d5, d6, ⟨q, hq, hx, hx⟩, dr⟩, hr⟩
theorem bar_rel {j : Nat} {a : KS} {b : MS} (h : Rel j a b) {x : Int32} {q : Nat} (hq : q ≤ 30) (hx : x = oN q) : Rel j (sKhi a 10 11 x) (sMhi b 100 17 x) := by
  obtain ⟨hT, ⟨d1, d2, d3, d4, d5, -, d7⟩, hr⟩ := h
  exact ⟨hT, ⟨d1, d2, d3, d4, d5, ⟨q, hq, hx, hx⟩, d7⟩, hr⟩
theorem place_rel {j : Nat} {a : KS} {b : MS} (h : Rel j a b) {x : Int32} {q : Nat} (hq : q < 4) (hx : x = oN q) : Rel j (sKhi a 10 9 x) (sMhi b 100 15 x) := by
  obtain ⟨hT, ⟨d1, d2, d3, -, d5⟩, hr⟩ := h
  exact ⟨hT, ⟨d1, d2, d3, ⟨q, hq, hx, hx⟩, d5⟩, hr⟩
theorem mode0_ev {a : KS} : Khi (sKhi a 10 6 0) 13 = Khi a 13 := rfl
theorem wrongs_K {a : KS} {q : Nat} (hq : q < 3) (h1 : Khi a 10 12 = oN q) : f_X2_countWrongCode a = some (if q = 2 then sKhi (sKhi (sKhi (sKhi (sKhi a 13 4 (Khi a 13 4 + 1)) 10 12 (oN 3)) 10 12 0) 10 11 30) 13 5 (Khi a 13 5 + 1) else sKhi (sKhi a 13 4 (Khi a 13 4 + 1)) 10 12 (oN (q + 1))) := by
  unfold f_X2_countWrongCode
  rw [show (4 : Int32) = oN 4 from rfl, count_in _ (by decide), bs]
  rw [show Khi (sKhi a 13 4 (Khi a 13 4 + 1)) 10 12 = Khi a 10 12 from rfl, h1, oN_succ]
  rw [show Khi (sKhi (sKhi a 13 4 (Khi a 13 4 + 1)) 10 12 (oN (q + 1))) 10 12 = oN (q + 1) from rfl]
  by_cases e : q = 2
  · subst e
    rw [if_neg (by decide), if_pos rfl, show (5 : Int32) = oN 5 from rfl, count_in _ (by decide), bs]
    rfl
  · rw [if_pos (show oN (q + 1) < 3 from (oN_lt (y := 3) (by omega) (by decide)).mpr (by omega)), if_neg e]
theorem digit_eq {j : Nat} {a : KS} {b : MS} (h : Rel j a b) (m2 : Khi a 10 6 = 2) {i : Nat} (hc : f_X2_chosenItem a = some (some i)) (hm : f_X9_itemAt b (Mhi b 100 12) = some (oN i)) (hi : i < Kn a) : ∃ (r : Int32) (a' : KS) (b' : MS), f_X2_endDigit a (some i) = some (r, a') ∧ f_X9_codeDone b = some (r, b') ∧ Mhi b' 100 0 = Mhi b 100 0 ∧ Rel j a' b' := by
  have it := it_at h.1 hi
  have h0 := mode0 h
  obtain ⟨p, p1, p2, p3⟩ := h.2.1.2.2.2.1
  obtain ⟨w, w1, w2, w3⟩ := h.2.1.2.2.2.2.2.2.1
  have dg := h.2.1.2.2.2.2.2.2.2.1
  have ev := h.2.1.2.2.2.2.2.2.2.2.2
  unfold f_X2_endDigit f_X9_codeDone
  rw [p2, p3]
  by_cases g : 3 ≤ p
  · rw [if_pos (show (3 : Int32) ≤ oN p from (oN_le (x := 3) (by decide) (by omega)).mpr g), if_pos (show (3 : Int32) ≤ oN p from (oN_le (x := 3) (by decide) (by omega)).mpr g), code_K, bs, odr_s (show i < Kn (sKhi a 10 6 0) from hi), hm, bs, gd_t (in24 h.1 hi), gd_t (by decide), gd_t (by decide), gd_t (by decide), gd_t (by decide), cl_n h.1 hi]
    rw [code_eq]
    have hd : ∀ k, k < 4 → Mhi b 114 k = Khi a 11 k := fun k hk => (dg k hk).1.symm
    have c0 : (0 : Int32).toNatClampNeg = 0 := rfl
    have c1 : (1 : Int32).toNatClampNeg = 1 := rfl
    have c2 : (2 : Int32).toNatClampNeg = 2 := rfl
    have c3 : (3 : Int32).toNatClampNeg = 3 := rfl
    have c4 : (4 : Int32).toNatClampNeg = 4 := rfl
    have c5 : (5 : Int32).toNatClampNeg = 5 := rfl
    have b4 : inb 4 8 = true := by decide
    have b5 : inb 5 8 = true := by decide
    simp (disch := decide) only [Mhi_np, Mhi_se, Mhi_sn, Khi_np, c0, c1, c2, c3, c4, c5, hd 0 (by decide), hd 1 (by decide), hd 2 (by decide), hd 3 (by decide), gd_t b4, gd_t b5, w3]
    generalize 1000 * Khi a 11 0 + 100 * Khi a 11 1 + 10 * Khi a 11 2 + Khi a 11 3 = X
    rw [show Kit (sKhi a 10 6 0) i 11 = Kit a i 11 from rfl, it.2.2.2.2.2.2.1]
    by_cases e : X = Mhi b 108 i
    · rw [if_neg (fun z => z e), if_neg (fun z => z e.symm), gd_t (by decide), gd_t (in24 h.1 hi)]
      exact ⟨_, _, _, rfl, rfl, rfl, wrong_rel (open_rel h0 hi (Or.inr rfl)) (q := 0) (by decide) rfl⟩
    · rw [if_pos e, if_pos (fun z => e z.symm), wrongs_K (a := sKhi a 10 6 0) w1 w2, bs, oN_succ]
      by_cases q2 : w = 2
      · subst q2
        rw [if_pos rfl, if_neg (show ¬ ¬ oN (2 + 1) = 3 from fun z => z rfl)]
        exact ⟨_, _, _, rfl, rfl, rfl, bump (bar_rel (show Rel j (sKhi (sKhi (sKhi (sKhi a 10 6 0) 13 4 (Khi (sKhi a 10 6 0) 13 4 + 1)) 10 12 (oN 3)) 10 12 0) (sMhi (sMhi (sMhi (sMhi b 100 10 0) 120 4 (Mhi b 120 4 + 1)) 100 18 (oN 3)) 100 18 0) from wrong_rel (bump h0 (e := 4) (by decide) 1) (q := 0) (by decide) rfl) (q := 30) (by decide) rfl) (e := 5) (by decide) 1⟩
      · rw [if_neg q2, if_pos (show ¬ oN (w + 1) = 3 from fun z => q2 (by have := oN_inj (y := 3) (by omega) (by decide) z; omega))]
        exact ⟨_, _, _, rfl, rfl, rfl, wrong_rel (bump h0 (e := 4) (by decide) 1) (q := w + 1) (by omega) rfl⟩
  · have g3 : ¬ (3 : Int32) ≤ oN p := fun z => g ((oN_le (x := 3) (by decide) (by omega)).mp z)
    rw [if_neg g3, if_neg g3, oN_succ]
    exact ⟨_, _, _, rfl, rfl, rfl, place_rel h (by omega) rfl⟩
