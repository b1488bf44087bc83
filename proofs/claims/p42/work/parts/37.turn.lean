/-! ===== turning ===== -/
theorem ring_eq {b : MS} {x y : Int32} (h1 : -1000 ≤ x.toInt) (h2 : x.toInt ≤ 1000) (h3 : 0 < y.toInt) (h4 : y.toInt ≤ 100) : ∃ r : Int32, f_J9_floorMod_7cf53 x y = some r ∧ f_X9_inRing b x y = some r ∧ 0 ≤ r.toInt ∧ r.toInt < y.toInt := by
  have z0 : (0 : Int32).toInt = 0 := by decide
  have hy0 : ¬ y = 0 := fun q => by rw [q, z0] at h3; omega
  have hnz : nz y = true := decide_eq_true hy0
  obtain ⟨t, ht⟩ : ∃ t, t = x.toInt.tdiv y.toInt := ⟨_, rfl⟩
  obtain ⟨m, hm⟩ : ∃ m, m = x.toInt.tmod y.toInt := ⟨_, rfl⟩
  have e : y.toInt * t + m = x.toInt := by rw [ht, hm]; exact Int.mul_tdiv_add_tmod _ _
  have tb : t.natAbs ≤ x.toInt.natAbs := by rw [ht]; exact Int.natAbs_tdiv_le_natAbs _ _
  have mb : m < y.toInt := by rw [hm]; exact Int.tmod_lt_of_pos _ h3
  have mn : 0 ≤ x.toInt → 0 ≤ m := fun q => by rw [hm]; exact Int.tmod_nonneg _ q
  have mp : x.toInt ≤ 0 → m ≤ 0 ∧ - y.toInt < m := fun q => by
    have k1 : (-x.toInt).tmod y.toInt = -m := by rw [hm]; exact Int.neg_tmod _ _
    have k2 : 0 ≤ (-x.toInt).tmod y.toInt := Int.tmod_nonneg _ (by omega)
    have k3 : (-x.toInt).tmod y.toInt < y.toInt := Int.tmod_lt_of_pos _ h3
    omega
  have d1 : (x / y).toInt = t := by
    rw [Int32.toInt_div, ← ht, Int.bmod_eq_of_le (by omega) (by omega)]
  have hmul : y.toInt * t = x.toInt - m := by omega
  have d2 : (x / y * y).toInt = x.toInt - m := by
    rw [Int32.toInt_mul, d1, Int.mul_comm, hmul, Int.bmod_eq_of_le (by omega) (by omega)]
  have d3 : (x - x / y * y).toInt = m := by
    rw [Int32.toInt_sub, d2, Int.bmod_eq_of_le (by omega) (by omega)]
    omega
  have d4 : (x - x / y * y + y).toInt = m + y.toInt := by
    rw [Int32.toInt_add, d3, Int.bmod_eq_of_le (by omega) (by omega)]
  have hx : (0 ≤ (x ^^^ y)) ↔ 0 ≤ x.toInt := by
    rw [Int32.le_iff_toInt_le, z0]
    have k1 : (x ^^^ y).toInt = (x.toBitVec ^^^ y.toBitVec).toInt := rfl
    have k2 : x.toInt = x.toBitVec.toInt := rfl
    have k3 : y.toInt = y.toBitVec.toInt := rfl
    rw [k3] at h3
    have ym : y.toBitVec.msb = false := by
      rw [BitVec.msb_eq_toInt]
      exact decide_eq_false (by omega)
    have xm : (x.toBitVec ^^^ y.toBitVec).msb = x.toBitVec.msb := by
      rw [BitVec.msb_xor, ym, Bool.xor_false]
    have k4 := BitVec.msb_eq_toInt (x := x.toBitVec)
    have k5 := BitVec.msb_eq_toInt (x := x.toBitVec ^^^ y.toBitVec)
    rw [xm, k4] at k5
    have k6 := decide_eq_decide.mp k5
    rw [k1, k2]
    omega
  unfold f_J9_floorMod_7cf53 f_X9_inRing
  rw [gd_t hnz, gd_t hnz, lt_e, lt_e]
  by_cases g : 0 ≤ x.toInt
  · have g1 := mn g
    rw [if_pos (hx.mpr g), if_pos (show 0 ≤ x - x / y * y by rw [Int32.le_iff_toInt_le, z0, d3]; exact g1)]
    exact ⟨_, rfl, rfl, by rw [d3]; exact g1, by rw [d3]; exact mb⟩
  · have g1 := mp (by omega)
    rw [if_neg (fun q => g (hx.mp q))]
    by_cases g2 : x - x / y * y = 0
    · rw [if_pos g2, if_pos (by rw [g2]; exact Int32.le_refl 0)]
      exact ⟨_, rfl, rfl, by rw [g2, z0]; omega, by rw [g2, z0]; omega⟩
    · have g3 : ¬ m = 0 := fun q => g2 (i32_ext (by rw [d3, z0]; exact q))
      rw [if_neg g2, if_neg (show ¬ 0 ≤ x - x / y * y by rw [Int32.le_iff_toInt_le, z0, d3]; omega)]
      exact ⟨_, rfl, rfl, by rw [d4]; omega, by rw [d4]; omega⟩
