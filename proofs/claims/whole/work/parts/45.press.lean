/-! ===== pressing ===== -/
theorem zero_K (a : KS) : l_X2_beginCode_22 FU a 0 = some (5, sKhi (sKhi (sKhi (sKhi a 11 0 0) 11 1 0) 11 2 0) 11 3 0) := rfl
theorem zero_M (b : MS) : l_X9_goesOn_84 FU b 0 = some (5, sMhi (sMhi (sMhi (sMhi b 114 0 0) 114 1 0) 114 2 0) 114 3 0) := rfl
theorem code_K (a : KS) : f_X2_enteredCode a = some (10 * (10 * (10 * (10 * 0 + Khi a 11 0) + Khi a 11 1) + Khi a 11 2) + Khi a 11 3) := rfl
theorem code_eq (x y z w : Int32) : 10 * (10 * (10 * (10 * 0 + x) + y) + z) + w = 1000 * x + 100 * y + 10 * z + w := by
  rw [Int32.mul_zero, Int32.zero_add, Int32.mul_add, Int32.mul_add, Int32.mul_add, ← Int32.mul_assoc, ← Int32.mul_assoc, ← Int32.mul_assoc]
  rfl
