/-! ===== a quotient of whole numbers is at most 1 ===== -/
theorem div_le1 {f : FP.Core.Fmt} (hf : FP.Core.Good f) {x y K : Nat} (hxy : FP.Core.mag f x ≤ FP.Core.mag f y) (hyf : FP.Core.mag f y < FP.Core.infBits f) (hy0 : 0 < FP.Core.mag f y) (hK : 1 ≤ K) (h : (-f.qmin).toNat ≤ f.p - 1 + (K - 1)) : FP.Core.mag f (FP.Core.div f x y) ≤ K * f.tails := by
  obtain ⟨s, c, q, x1, x2, x3⟩ := FP.Core.fin_of_mag hf (Nat.lt_of_le_of_lt hxy hyf)
  obtain ⟨t, d, r, y1, y2, y3⟩ := FP.Core.fin_of_mag hf hyf
  have hq := FP.Core.qmin_neg hf
  have hd0 : d ≠ 0 := by
    rintro rfl
    have h1 : FP.Core.zmag f (.fin t 0 r) = 0 := Nat.zero_mul _
    rw [h1] at y3
    have := FP.Core.unitsOf_eq_zero.mp y3.symm
    omega
  have hd : FP.Core.decode f (FP.Core.div f x y) = FP.Core.roundRatio f (s != t) c d (q - r) := by
    unfold FP.Core.div
    rw [FP.Core.decode_enc hf (FP.Core.quotient_fits hf _ _), x1, y1]
    simp only [FP.Core.quotient, if_neg hd0]
  have hx1 := x2.2.1
  have hy1 := y2.2.1
  refine FP.Core.mag_le hf hd (by omega) (e0 := 2 * f.qmin - r) (by omega) (by omega) ?_
  have l2 : FP.Core.zmag f (.fin s c q) ≤ FP.Core.zmag f (.fin t d r) := by
    rw [x3, y3]; exact FP.Core.unitsOf_le_iff.mpr hxy
  rw [FP.Core.unitsOf_start hK]
  have e1 : FP.Core.inUnits c (q - r) (2 * f.qmin - r) = FP.Core.zmag f (.fin s c q) * 2 ^ (-f.qmin).toNat := by
    show c * _ = c * _ * _
    rw [Nat.mul_assoc, ← Nat.pow_add]; congr 2; omega
  have e2 : 2 ^ (f.qmin - (2 * f.qmin - r)).toNat * d = FP.Core.zmag f (.fin t d r) := by
    show _ = d * _
    rw [Nat.mul_comm]; congr 2; omega
  rw [e1, Nat.mul_assoc, e2]
  calc FP.Core.zmag f (.fin s c q) * 2 ^ (-f.qmin).toNat ≤ FP.Core.zmag f (.fin t d r) * 2 ^ (f.p - 1 + (K - 1)) := Nat.mul_le_mul l2 (Nat.pow_le_pow_right (by decide) h)
    _ = f.tails * 2 ^ (K - 1) * FP.Core.zmag f (.fin t d r) := by rw [Nat.pow_add, show 2 ^ (f.p - 1) = f.tails from rfl]; ac_rfl
theorem i2d_lt {x : Nat} (hx : x ≤ 65536) : (FP.Core.i2d (oN x)).toNat < 2 ^ 63 := by
  have h := i2d_sgn hx
  have nn := (FP.Core.notNaN_iff _).mp (FP.Core.DFin.notNaN (FP.Core.i2d_fin (oN x)))
  rw [FP.Core.sgn_bits nn] at h
  have := of_decide_eq_false h
  omega
theorem quo_lt {x y : Nat} (hx2 : x ≤ 65536) (hy : 1 ≤ y) (hy2 : y ≤ 65536) : (FP.Core.ddiv (FP.Core.i2d (oN x)) (FP.Core.i2d (oN y))).toNat < 2 ^ 63 := by
  have h := quo_sgn hx2 hy hy2
  have nn := (FP.Core.notNaN_iff _).mp (quo_fin (oN x) hy hy2)
  rw [FP.Core.sgn_bits nn] at h
  have := of_decide_eq_false h
  omega
theorem quo_le {x y : Nat} (hxy : x ≤ y) (hy : 1 ≤ y) (hy2 : y ≤ 65536) : (FP.Core.ddiv (FP.Core.i2d (oN x)) (FP.Core.i2d (oN y))).toNat ≤ 1023 * 2 ^ 52 := by
  have ex : (oN x).toInt = (x : Int) := ofNat_i32 (by omega)
  have ey : (oN y).toInt = (y : Int) := ofNat_i32 (by omega)
  have lx := i2d_lt (show x ≤ 65536 by omega)
  have ly := i2d_lt hy2
  have nx := (FP.Core.notNaN_iff _).mp (FP.Core.DFin.notNaN (FP.Core.i2d_fin (oN x)))
  have ny := (FP.Core.notNaN_iff _).mp (FP.Core.DFin.notNaN (FP.Core.i2d_fin (oN y)))
  have hc := FP.Core.dcmp_int (FP.Core.i2d_int (oN x)) (FP.Core.i2d_int (oN y))
  have hm := FP.Core.mono_bits nx ny lx ly
  have hle : (FP.Core.i2d (oN x)).toNat ≤ (FP.Core.i2d (oN y)).toNat := by
    refine Nat.le_of_not_lt fun z => ?_
    have h1 := hm.2.2.mpr z
    rw [hc] at h1
    have h2 := Option.some.inj h1
    rw [ex, ey, Int.compare_eq_gt] at h2
    omega
  have by1 := FP.Core.i2d_big (v := oN y) (by omega)
  have by2 := FP.Core.fromInt_mag (FP.Core.toNat_i2d (oN y)) (j := 16) (K := 1039) (by rw [ey]; omega) (by decide) (by decide)
  have h1 : (FP.Core.ddiv (FP.Core.i2d (oN x)) (FP.Core.i2d (oN y))).toNat = FP.Core.div FP.Core.b64 (FP.Core.i2d (oN x)).toNat (FP.Core.i2d (oN y)).toNat := FP.Core.toNat_of64 (FP.Core.quotient_fits FP.Core.good_b64 _ _)
  have h2 := div_le1 FP.Core.good_b64 (x := (FP.Core.i2d (oN x)).toNat) (y := (FP.Core.i2d (oN y)).toNat) (K := 1023)
    (by rw [FP.Core.mag_toNat64, FP.Core.mag_toNat64]; omega)
    (by rw [FP.Core.mag_toNat64, FP.Core.infBits_b64]; omega)
    (by rw [FP.Core.mag_toNat64]; omega)
    (by decide) (by rw [FP.Core.p_b64, FP.Core.qmin_b64]; decide)
  rw [← h1, FP.Core.mag_toNat64, FP.Core.tails_b64] at h2
  have := quo_lt (show x ≤ 65536 by omega) hy hy2
  omega
theorem FR_01 {x y : Nat} (hxy : x ≤ y) (hy2 : y ≤ 65536) : ¬ Op.cmpValue (FP.dcmp (FR x y) FP.dconst0) .l < 0 ∧ ¬ 0 < Op.cmpValue (FP.dcmp (FR x y) FP.dconst1) .g := by
  unfold FR
  by_cases g : y = 0
  · rw [if_pos g]
    exact ⟨by decide +kernel, by decide +kernel⟩
  · rw [if_neg g]
    have n0 : FP.Core.val64 FP.dconst0 ≠ .nan := (FP.Core.notNaN_iff _).mp (by decide +kernel)
    have n1 : FP.Core.val64 FP.dconst1 ≠ .nan := (FP.Core.notNaN_iff _).mp (by decide +kernel)
    have nq := (FP.Core.notNaN_iff _).mp (quo_fin (oN x) (show 1 ≤ y by omega) hy2)
    have lq := quo_lt (show x ≤ 65536 by omega) (show 1 ≤ y by omega) hy2
    have le := quo_le hxy (show 1 ≤ y by omega) hy2
    have t0 : FP.dconst0.toNat = 0 := by decide +kernel
    have t1 : FP.dconst1.toNat = 1023 * 2 ^ 52 := by decide +kernel
    have m0 := FP.Core.mono_bits nq n0 lq (by rw [t0]; decide)
    have m1 := FP.Core.mono_bits nq n1 lq (by rw [t1]; decide)
    show ¬ Op.cmpValue (FP.Core.dcmp (FP.Core.ddiv (FP.Core.i2d (oN x)) (FP.Core.i2d (oN y))) FP.dconst0) .l < 0 ∧ ¬ 0 < Op.cmpValue (FP.Core.dcmp (FP.Core.ddiv (FP.Core.i2d (oN x)) (FP.Core.i2d (oN y))) FP.dconst1) .g
    generalize FP.Core.ddiv (FP.Core.i2d (oN x)) (FP.Core.i2d (oN y)) = Z at *
    rw [t0] at m0
    rw [t1] at m1
    constructor
    · by_cases z : Z.toNat = 0
      · rw [m0.2.1.mpr z]; decide
      · rw [m0.2.2.mpr (by omega)]; decide
    · by_cases z : Z.toNat = 1023 * 2 ^ 52
      · rw [m1.2.1.mpr z]; decide
      · rw [m1.1.mpr (by omega)]; decide
theorem q_frac {a : KS} {b : MS} (h : RTs a b) : ∃ z, f_X8_fraction a = some z ∧ ¬ Op.cmpValue (FP.dcmp z FP.dconst0) .l < 0 ∧ ¬ 0 < Op.cmpValue (FP.dcmp z FP.dconst1) .g := by
  have hn := rt_n h
  obtain ⟨x, y, h1, h2, h3, -⟩ := share_l h FU 0 0 0 (Nat.zero_le _) (by rw [FU_e]; omega) (Nat.le_refl _) (Nat.zero_le _)
  exact ⟨FR x y, h3, FR_01 h1 h2⟩
