/-! ===== the end of a digit ===== -/
theorem open_rel {j : Nat} {a : KS} {b : MS} (h : Rel j a b) {i : Nat} (hi : i < Kn a) {v : Int32} (hv : v = 0 ∨ v = 1) : Rel j (sKit a i 12 v) (sMhi b 109 i v) := by
  have hc : core (Kit a) (Kit (sKit a i 12 v)) := fun k m m1 m2 m3 => by rw [Kit_n m3]
  obtain ⟨hT, hD, hG, ⟨hP1, hP2⟩, hX⟩ := h
  refine ⟨RT_cg hT hc (fun k hk => ?_) (fun k k1 k2 => ?_), RD_cg hc hD, RG_cg hc hG, ⟨RP_cg hc hP1, RP_cg hc hP2⟩, hX⟩
  · have it := it_at hT hk
    refine ⟨?_, ?_, ?_, ?_, ?_⟩
    · rw [Kit_n (by decide)]; exact it.2.2.2.2.2.1
    · rw [Kit_n (by decide)]; exact it.2.2.2.2.2.2.1
    · rw [Kit_e, Mhi_s]
      by_cases g : k = i
      · rw [if_pos g, if_pos g]
      · rw [if_neg g, if_neg g]; exact it.2.2.2.2.2.2.2.1
    · rw [Kit_e]
      by_cases g : k = i
      · rw [if_pos g]; exact hv
      · rw [if_neg g]; exact it.2.2.2.2.2.2.2.2
    · rw [Kit_n (by decide)]
      exact (hT.2.2.2.2.2.2.2.1 k hk).2
  · have t9 := hT.2.2.2.2.2.2.2.2 k k1 k2
    have k1 : Kn a ≤ k := k1
    refine ⟨t9.2.2.2.1, ?_⟩
    rw [Mhi_s, if_neg (by omega)]
    exact t9.2.2.2.2
theorem wrong_rel {j : Nat} {a : KS} {b : MS} (h : Rel j a b) {x : Int32} {q : Nat} (hq : q < 3) (hx : x = oN q) : Rel j (sKhi a 10 12 x) (sMhi b 100 18 x) := by
  obtain ⟨hT, ⟨d1, d2, d3, d4, d5, d6, -, dr⟩, hr⟩ := h
  exact ⟨hT, ⟨d1, d2, d3, d4, d5, d6, ⟨q, hq, hx, hx⟩, dr⟩, hr⟩
theorem bar_rel {j : Nat} {a : KS} {b : MS} (h : Rel j a b) {x : Int32} {q : Nat} (hq : q ≤ 30) (hx : x = oN q) : Rel j (sKhi a 10 11 x) (sMhi b 100 17 x) := by
  obtain ⟨hT, ⟨d1, d2, d3, d4, d5, -, d7⟩, hr⟩ := h
  exact ⟨hT, ⟨d1, d2, d3, d4, d5, ⟨q, hq, hx, hx⟩, d7⟩, hr⟩
theorem place_rel {j : Nat} {a : KS} {b : MS} (h : Rel j a b) {x : Int32} {q : Nat} (hq : q < 4) (hx : x = oN q) : Rel j (sKhi a 10 9 x) (sMhi b 100 15 x) := by
  obtain ⟨hT, ⟨d1, d2, d3, -, d5⟩, hr⟩ := h
  exact ⟨hT, ⟨d1, d2, d3, ⟨q, hq, hx, hx⟩, d5⟩, hr⟩
