/-! ===== what a turn would lead to ===== -/
theorem clamp_eq {b : MS} {x lo hi : Int32} (h : lo ≤ hi) : f_X9_within b x lo hi = some (mmax lo (mmin hi x)) ∧ lo ≤ mmax lo (mmin hi x) ∧ mmax lo (mmin hi x) ≤ hi := by
  unfold f_X9_within mmax mmin
  rw [Int32.le_iff_toInt_le] at h
  by_cases g1 : lo ≤ x
  · have g1' := Int32.le_iff_toInt_le.mp g1
    rw [if_pos g1]
    by_cases g2 : x ≤ hi
    · have g2' := Int32.le_iff_toInt_le.mp g2
      rw [if_pos g2]
      by_cases g3 : x < hi
      · rw [if_pos g3]
        by_cases g4 : lo < x
        · rw [if_pos g4]; exact ⟨rfl, g1, g2⟩
        · rw [if_neg g4, Int32.le_antisymm g1 (Int32.not_lt.mp g4)]; exact ⟨rfl, Int32.le_refl _, g2⟩
      · rw [if_neg g3, Int32.le_antisymm g2 (Int32.not_lt.mp g3)]
        by_cases g4 : lo < hi
        · rw [if_pos g4]; exact ⟨rfl, Int32.le_iff_toInt_le.mpr h, Int32.le_refl _⟩
        · rw [if_neg g4, Int32.le_antisymm (Int32.le_iff_toInt_le.mpr h) (Int32.not_lt.mp g4)]; exact ⟨rfl, Int32.le_refl _, Int32.le_refl _⟩
    · have g3 : ¬ x < hi := fun q => g2 (Int32.le_of_lt q)
      rw [if_neg g2, if_neg g3]
      by_cases g4 : lo < hi
      · rw [if_pos g4]; exact ⟨rfl, Int32.le_iff_toInt_le.mpr h, Int32.le_refl _⟩
      · rw [if_neg g4, Int32.le_antisymm (Int32.le_iff_toInt_le.mpr h) (Int32.not_lt.mp g4)]; exact ⟨rfl, Int32.le_refl _, Int32.le_refl _⟩
  · have g2 : x < hi := by
      have := Int32.not_le.mp g1
      rw [Int32.lt_iff_toInt_lt] at this ⊢
      omega
    have g3 : ¬ lo < x := fun q => g1 (Int32.le_of_lt q)
    rw [if_neg g1, if_pos g2, if_neg g3]
    exact ⟨rfl, Int32.le_refl _, Int32.le_iff_toInt_le.mpr h⟩
theorem oN_of {r : Int32} (h : 0 ≤ r.toInt) : r = oN r.toInt.toNat := by
  have := Int32.toInt_lt r
  apply i32_ext
  rw [ofNat_i32 (by omega)]
  omega
theorem add_v {c : Nat} {v : Int32} (hc : c ≤ 10000) (h1 : -200 ≤ v.toInt) (h2 : v.toInt ≤ 200) : (oN c + v).toInt = c + v.toInt := by
  rw [Int32.toInt_add, ofNat_i32 (by omega), Int.bmod_eq_of_le (by omega) (by omega)]
theorem nn00 : ¬ ¬ (0 : Int32) = 0 := fun z => z rfl
theorem nn11 : ¬ ¬ (1 : Int32) = 1 := fun z => z rfl
theorem nn22 : ¬ ¬ (2 : Int32) = 2 := fun z => z rfl
section TU
variable {a : KS} {b : MS} {j : Nat} {v : Int32} {ev mev : Nat → Int32}
theorem mabs_5 (h1 : -50 ≤ v.toInt) (h2 : v.toInt ≤ 50) : (mabs v < 5 ∧ f_X9_in b v (-4) 4 = some 1) ∨ (¬ mabs v < 5 ∧ f_X9_in b v (-4) 4 = some 0) := by
  have z0 : (0 : Int32).toInt = 0 := by decide
  have z5 : (5 : Int32).toInt = 5 := by decide
  have z4 : (4 : Int32).toInt = 4 := by decide
  have zm : (-4 : Int32).toInt = -4 := by decide
  have hm : (mabs v).toInt = if 0 ≤ v.toInt then v.toInt else - v.toInt := by
    unfold mabs
    by_cases g : 0 ≤ v
    · have g' := Int32.le_iff_toInt_le.mp g
      rw [z0] at g'
      rw [if_pos g, if_pos g']
    · have g' : ¬ 0 ≤ v.toInt := fun q => g (Int32.le_iff_toInt_le.mpr (by rw [z0]; exact q))
      rw [if_neg g, if_neg g', Int32.toInt_sub, z0, Int.bmod_eq_of_le (by omega) (by omega)]
      omega
  by_cases g : -4 ≤ v.toInt ∧ v.toInt ≤ 4
  · refine Or.inl ⟨?_, in_t (fun q => ?_) (fun q => ?_)⟩
    · rw [Int32.lt_iff_toInt_lt, hm, z5]; split <;> omega
    · rw [Int32.lt_iff_toInt_lt, zm] at q; omega
    · rw [Int32.lt_iff_toInt_lt, z4] at q; omega
  · refine Or.inr ⟨fun q => ?_, in_f ?_⟩
    · rw [Int32.lt_iff_toInt_lt, hm, z5] at q; split at q <;> omega
    · rw [Int32.lt_iff_toInt_lt, Int32.lt_iff_toInt_lt, zm, z4]; omega
/-- both say alike what a turn would lead to -/
theorem turned_eq (h : RTs a b) (hd : RDx ev mev j a b) (h1 : -50 ≤ v.toInt) (h2 : v.toInt ≤ 50) : ∃ r, f_X2_turned a v = some r ∧ f_X9_turned b v = some r ∧ (Khi a 10 6 = 0 → ∃ s c, Ksh a = some s ∧ r = oN c ∧ (c < cnt (Kmn a) s (Kn a) ∨ (c = cnt (Kmn a) s (Kn a) ∧ (1 ≤ s ∨ c = 0)))) ∧ (Khi a 10 6 = 1 → ∀ i, f_X2_chosenItem a = some (some i) → ¬ Kit a i 1 = 0 ∧ VR (Kit a i) r) ∧ (Khi a 10 6 = 2 → ∃ d, d < 10 ∧ r = oN d) := by
  have hn := rt_n h
  have n01 : ¬ (0 : Int32) = 1 := by decide
  have n02 : ¬ (0 : Int32) = 2 := by decide
  have n12 : ¬ (1 : Int32) = 2 := by decide
  have n21 : ¬ (2 : Int32) = 1 := by decide
  obtain ⟨s, c, d1, d2, d2b, d3, d4, d5, d6, ch⟩ := chosen_eq h hd
  have h9 := (h.2.2.2.2.2.2.1 s d2).2
  obtain ⟨⟨s', c', d1', -, -, -, d4', -, d6', -, dv⟩, ⟨m1, m2⟩, m8, ⟨q, q1, q2, q3⟩, -, -, -, dg, ⟨-, -, w1, w2⟩, -⟩ := hd
  obtain rfl : s' = s := Option.some.inj (d1'.symm.trans d1)
  have ec : c' = c := by
    have : c' < 2147483648 := by omega
    exact oN_inj this (by omega) (d4'.symm.trans d4)
  subst ec
  unfold f_X2_turned f_X9_turned
  rw [← m1]
  rcases m2 with m | m | m
  · -- browsing
    have em : ∃ z2, f_X9_itemAt b (Mhi b 100 12) = some z2 := by
      rcases ch with ⟨i, -, -, -, -, -, -, i6, -⟩ | ⟨-, -, -, i6, -⟩
      · exact ⟨_, i6⟩
      · exact ⟨_, i6⟩
    obtain ⟨z2, ez⟩ := em
    clear ch dv
    rw [m, if_pos n01, if_pos n02, if_pos n02, lt_e, d1, odr_s d2, entries_K h d2, bs, show f_X2_setting a 2 = some (Khi a 12 2) from rfl, bs, ez, bs, if_pos n01, d3, entries_M h d2, bs, w1, show (2 : Int32).toNatClampNeg = 2 from rfl, d4, d5]
    have hE : ∃ E, E = cnt (Kmn a) s' (Kn a) + (if s' = 0 then 0 else 1) := ⟨_, rfl⟩
    obtain ⟨E, hE⟩ := hE
    rw [← hE]
    have hE2 : (s' = 0 ∧ E = cnt (Kmn a) s' (Kn a)) ∨ (1 ≤ s' ∧ E = cnt (Kmn a) s' (Kn a) + 1) := by
      by_cases e : s' = 0
      · rw [if_pos e] at hE; exact Or.inl ⟨e, by omega⟩
      · rw [if_neg e] at hE; exact Or.inr ⟨by omega, hE⟩
    have xv : (oN c' + v).toInt = c' + v.toInt := add_v (by omega) (by omega) (by omega)
    have z0 : (0 : Int32).toInt = 0 := by decide
    have fin : ∀ r : Int32, (0 ≤ r.toInt ∧ r.toInt < E) ∨ (E = 0 ∧ r = 0) → ∃ s c, some s' = some s ∧ r = oN c ∧ (c < cnt (Kmn a) s (Kn a) ∨ (c = cnt (Kmn a) s (Kn a) ∧ (1 ≤ s ∨ c = 0))) := by
      intro r hr
      rcases hr with ⟨g1, g2⟩ | ⟨g1, g2⟩
      · exact ⟨s', r.toInt.toNat, rfl, oN_of g1, by omega⟩
      · exact ⟨s', 0, rfl, g2, by omega⟩
    by_cases e0 : E = 0
    · subst e0
      rw [if_neg (show ¬ ¬ oN 0 = 0 from fun z => z rfl)]
      by_cases w : Mhi b 119 2 = 1
      · rw [if_neg (fun z => z w)]
        unfold f_X2_around
        rw [if_pos (show oN 0 ≤ 0 from Int32.le_refl 0), bs]
        exact ⟨0, rfl, rfl, fun _ => fin 0 (Or.inr ⟨rfl, rfl⟩), fun z => absurd z n01, fun z => absurd z n02⟩
      · rw [if_pos w]
        have k : mmax 0 (mmin (oN 0 - 1) (oN c' + v)) = 0 := by
          have zz : (oN 0 - 1).toInt = -1 := by decide
          unfold mmax mmin
          by_cases g : oN c' + v < oN 0 - 1
          · rw [if_pos g, if_neg (by rw [Int32.lt_iff_toInt_lt] at g ⊢; rw [zz] at g; rw [z0]; omega)]
          · rw [if_neg g, if_neg (by decide)]
        rw [k]
        exact ⟨0, rfl, rfl, fun _ => fin 0 (Or.inr ⟨rfl, rfl⟩), fun z => absurd z n01, fun z => absurd z n02⟩
    · rw [if_pos (show ¬ oN E = 0 from fun z => e0 (oN_inj (by omega) (by omega) z)), gd_t (by decide)]
      by_cases w : Mhi b 119 2 = 1
      · rw [if_neg (fun z => z w), if_neg (fun z => z w)]
        unfold f_X2_around
        have hEi : (oN E).toInt = E := ofNat_i32 (by omega)
        rw [if_neg (show ¬ oN E ≤ 0 by rw [Int32.le_iff_toInt_le, z0, hEi]; omega)]
        obtain ⟨r, r1, r2, r3, r4⟩ := ring_eq (b := b) (x := oN c' + v) (y := oN E) (by omega) (by omega) (by omega) (by omega)
        rw [r1, r2]
        simp only [bs]
        exact ⟨r, rfl, rfl, fun _ => fin r (Or.inl ⟨r3, by omega⟩), fun z => absurd z n01, fun z => absurd z n02⟩
      · rw [if_pos w, if_pos w, oN_pred (by omega)]
        have hEi : (oN (E - 1)).toInt = ((E - 1 : Nat) : Int) := ofNat_i32 (by omega)
        obtain ⟨r1, r2, r3⟩ := clamp_eq (b := b) (x := oN c' + v) (lo := 0) (hi := oN (E - 1)) (by rw [Int32.le_iff_toInt_le, z0, hEi]; omega)
        rw [r1, bs]
        rw [Int32.le_iff_toInt_le, z0] at r2
        rw [Int32.le_iff_toInt_le, hEi] at r3
        exact ⟨_, rfl, rfl, fun _ => fin _ (Or.inl ⟨r2, by omega⟩), fun z => absurd z n01, fun z => absurd z n02⟩
  · -- editing
    rcases ch with ⟨i, i1, i2, i3, i4, i5, i5b, i6, i7⟩ | ⟨z, -⟩
    · have hk := dv m i (by exact i5b)
      have it := it_at h i2
      have k9 := (h.2.2.2.2.2.2.2.1 i i2).1
      unfold f_X2_turnedDraft
      rw [m, if_neg (fun z => z rfl), if_pos n12, i7, bs, ocs_s, gd_d i2, i6, bs, if_neg (show ¬ ¬ (1 : Int32) = 1 from fun z => z rfl), gd_t (in24 h i2), cl_n h i2, ← it.2.1]
      have fin : ∀ r : Int32, VR (Kit a i) r → (((1 : Int32) = 0 → ∃ s c, Ksh a = some s ∧ r = oN c ∧ (c < cnt (Kmn a) s (Kn a) ∨ (c = cnt (Kmn a) s (Kn a) ∧ (1 ≤ s ∨ c = 0)))) ∧ ((1 : Int32) = 1 → ∀ i', some (some i) = some (some i') → ¬ Kit a i' 1 = 0 ∧ VR (Kit a i') r) ∧ ((1 : Int32) = 2 → ∃ d, d < 10 ∧ r = oN d)) := by
        intro r hr
        refine ⟨fun z => absurd z n10, fun _ i' e => ?_, fun z => absurd z n12⟩
        cases e
        exact ⟨hk.1, hr⟩
      rcases k9 with ⟨k, -⟩ | ⟨k, k1, k2, k3, k4, k5⟩ | ⟨k, k1, k2, k3, k4⟩
      · exact absurd k hk.1
      · rw [k, if_pos n12, if_neg nn11]
        have hlh : Kit a i 5 ≤ Kit a i 6 := Int32.le_iff_toInt_le.mpr (by omega)
        rcases mabs_5 (b := b) h1 h2 with ⟨g1, g2⟩ | ⟨g1, g2⟩
        · rw [if_pos g1, g2, bs, if_pos n10]
          unfold f_X2_turnedDraft_51 f_X9_turned_68 f_X9_turned_69
          obtain ⟨r1, r2, r3⟩ := clamp_eq (b := b) (x := Mhi b 100 13 + v * Mhi b 106 i) hlh
          rw [gd_d i2, lt_e, gd_t (in24 h i2), cl_n h i2, ← it.2.1, k, if_neg nn11, gd_t (in24 h i2), gd_t (in24 h i2), gd_t (in24 h i2), ← it.2.2.1, ← it.2.2.2.1, r1, bs, bs, m8, it.2.2.2.2.1, Int32.mul_one]
          exact ⟨_, rfl, rfl, fin _ ⟨Int32.le_iff_toInt_le.mp r2, Int32.le_iff_toInt_le.mp r3⟩⟩
        · rw [if_neg g1, g2, bs, if_neg nn00]
          unfold f_X2_turnedDraft_51 f_X9_turned_69
          obtain ⟨r1, r2, r3⟩ := clamp_eq (b := b) (x := Mhi b 100 13 + 2 * v * Mhi b 106 i) hlh
          rw [gd_d i2, lt_e, gd_t (in24 h i2), cl_n h i2, ← it.2.1, k, if_neg nn11, gd_t (in24 h i2), gd_t (in24 h i2), gd_t (in24 h i2), ← it.2.2.1, ← it.2.2.2.1, r1, bs, bs, m8, it.2.2.2.2.1, Int32.mul_comm v 2]
          exact ⟨_, rfl, rfl, fin _ ⟨Int32.le_iff_toInt_le.mp r2, Int32.le_iff_toInt_le.mp r3⟩⟩
      · have zz : (0 : Int32).toInt = 0 := by decide
        have z1 : (1 : Int32).toInt = 1 := by decide
        have dr := hk.2
        unfold VR at dr
        rw [k1, zz] at dr
        have e6 : (Kit a i 6 + 1).toInt = (Kit a i 6).toInt + 1 := by
          rw [Int32.toInt_add, z1, Int.bmod_eq_of_le (by omega) (by omega)]
        have e8 : (Khi a 10 8 + v).toInt = (Khi a 10 8).toInt + v.toInt := by
          rw [Int32.toInt_add, Int.bmod_eq_of_le (by omega) (by omega)]
        obtain ⟨r, r1, r2, r3, r4⟩ := ring_eq (b := b) (x := Khi a 10 8 + v) (y := Kit a i 6 + 1) (by omega) (by omega) (by omega) (by omega)
        rw [k, if_neg nn22, if_pos n21]
        unfold f_X2_around f_X9_turned_68 f_X9_turned_69
        rw [if_neg (show ¬ Kit a i 6 + 1 ≤ 0 by rw [Int32.le_iff_toInt_le, zz, e6]; omega), r1, bs, bs, gd_t (in24 h i2), cl_n h i2, ← it.2.1, k, if_pos n21, gd_t (in24 h i2), ← it.2.2.2.1, ← m8, r2, bs]
        exact ⟨_, rfl, rfl, fin _ ⟨by rw [k1, zz]; exact r3, by omega⟩⟩
    · rw [m] at z; exact absurd z n10
  · -- asking
    obtain ⟨e1, d, dl, e2⟩ := dg q q1
    rw [m, if_pos n21, if_neg (fun z => z rfl), if_neg (fun z => z rfl), q2, q3]
    unfold f_X2_digit
    have hq : ¬ 4 ≤ oN q := fun z => by rw [show (4 : Int32) = oN 4 from rfl, oN_le (by decide) (by omega)] at z; omega
    rw [if_neg (oN_nn (by omega)), if_neg hq, gd_t (inb_oN q1 (by decide)), gd_t (inb_oN q1 (by decide)), ofNat_cl (by omega), bs, ← e1, e2]
    have xv : (oN d + v).toInt = d + v.toInt := add_v (by omega) (by omega) (by omega)
    have z10 : (10 : Int32).toInt = 10 := by decide
    obtain ⟨r, r1, r2, r3, r4⟩ := ring_eq (b := b) (x := oN d + v) (y := 10) (by omega) (by omega) (by decide) (by decide)
    unfold f_X2_around
    rw [if_neg (by decide), r1, r2]
    simp only [bs]
    exact ⟨r, rfl, rfl, fun z => absurd z n20, fun z => absurd z n21, fun _ => ⟨r.toInt.toNat, by omega, oN_of r3⟩⟩
end TU
