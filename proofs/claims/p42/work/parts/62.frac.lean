/-! ===== floats: what the library lacks, bounds from below ===== -/
theorem nn64_in {r : UInt64} (h : FP.Core.dIsNaN r = false) : nn64 r = true := by
  have h1 := (FP.Core.ne_nan r).mp ((FP.Core.notNaN_iff r).mp h)
  unfold nn64
  refine decide_eq_true ?_
  rw [UInt64.le_iff_toNat_le, FP.Core.mask_toNat]
  exact h1
theorem nn32_in {r : UInt32} (h : FP.Core.fIsNaN r = false) : nn32 r = true := by
  have h1 := (FP.Core.ne_nan32 r).mp ((FP.Core.notNaN_iff32 r).mp h)
  unfold nn32
  refine decide_eq_true ?_
  rw [UInt32.le_iff_toNat_le, FP.Core.mask_toNat32]
  exact h1
theorem div_ge {f : FP.Core.Fmt} (hf : FP.Core.Good f) {x y Ka L K : Nat} (hx : Ka * f.tails ≤ FP.Core.mag f x) (hxf : FP.Core.mag f x < FP.Core.infBits f) (hy : FP.Core.mag f y < L * f.tails) (hy0 : 0 < FP.Core.mag f y) (hL : L ≤ f.exps - 1) (ha : 1 ≤ Ka) (hK : 1 ≤ K) (hK2 : K ≤ f.exps - 1) (h : K + (f.p - 1) + L ≤ Ka + 1 + (-f.qmin).toNat) : K * f.tails ≤ FP.Core.mag f (FP.Core.div f x y) := by
  obtain ⟨s, c, q, x1, x2, x3⟩ := FP.Core.fin_of_mag hf hxf
  obtain ⟨t, d, r, y1, y2, y3⟩ := FP.Core.fin_of_mag hf (FP.Core.mag_lt_inf hy hL)
  have hq := FP.Core.qmin_neg hf
  have hd0 : d ≠ 0 := by
    rintro rfl
    have h1 : FP.Core.zmag f (.fin t 0 r) = 0 := Nat.zero_mul _
    rw [h1] at y3
    have := FP.Core.unitsOf_eq_zero.mp y3.symm
    omega
  have hd : FP.Core.decode f (FP.Core.div f x y) = FP.Core.roundRatio f (s != t) c d (q - r) := by
    unfold FP.Core.div
    rw [FP.Core.decode_enc hf (FP.Core.quotient_fits hf _ _), x1, y1]
    simp only [FP.Core.quotient, if_neg hd0]
  have hx1 := x2.2.1
  have hy1 := y2.2.1
  refine FP.Core.mag_ge hf hd (by omega) (e0 := 2 * f.qmin - r) (by omega) (by omega) (Nat.mul_le_mul_right _ hK2) ?_
  obtain ⟨k1, l1⟩ := FP.Core.units_lt_start hy
  have l2 : f.tails * 2 ^ (Ka - 1) ≤ FP.Core.zmag f (.fin s c q) := by
    rw [x3, ← FP.Core.unitsOf_start ha]; exact FP.Core.unitsOf_le_iff.mpr hx
  rw [FP.Core.unitsOf_start hK]
  have e1 : FP.Core.inUnits c (q - r) (2 * f.qmin - r) = FP.Core.zmag f (.fin s c q) * 2 ^ (-f.qmin).toNat := by
    show c * _ = c * _ * _
    rw [Nat.mul_assoc, ← Nat.pow_add]; congr 2; omega
  have e2 : 2 ^ (f.qmin - (2 * f.qmin - r)).toNat * d = FP.Core.zmag f (.fin t d r) := by
    show _ = d * _
    rw [Nat.mul_comm]; congr 2; omega
  rw [e1, Nat.mul_assoc, e2, y3]
  calc f.tails * 2 ^ (K - 1) * FP.Core.unitsOf f (FP.Core.mag f y) ≤ f.tails * 2 ^ (K - 1) * (f.tails * 2 ^ (L - 1)) :=
        Nat.mul_le_mul_left _ (Nat.le_of_lt l1)
    _ = f.tails * 2 ^ (K - 1 + (f.p - 1) + (L - 1)) := by
      rw [Nat.pow_add, Nat.pow_add, show 2 ^ (f.p - 1) = f.tails from rfl]; ac_rfl
    _ ≤ f.tails * 2 ^ (Ka - 1 + (-f.qmin).toNat) := Nat.mul_le_mul_left _ (Nat.pow_le_pow_right (by decide) (by omega))
    _ = f.tails * 2 ^ (Ka - 1) * 2 ^ (-f.qmin).toNat := by rw [Nat.pow_add, Nat.mul_assoc]
    _ ≤ FP.Core.zmag f (.fin s c q) * 2 ^ (-f.qmin).toNat := Nat.mul_le_mul_right _ l2
theorem mul_ge {f : FP.Core.Fmt} (hf : FP.Core.Good f) {x y Ka Kb K : Nat} (hx : Ka * f.tails ≤ FP.Core.mag f x) (hxf : FP.Core.mag f x < FP.Core.infBits f) (hy : Kb * f.tails ≤ FP.Core.mag f y) (hyf : FP.Core.mag f y < FP.Core.infBits f) (ha : 1 ≤ Ka) (hb : 1 ≤ Kb) (hK : 1 ≤ K) (hK2 : K ≤ f.exps - 1) (h : K + 1 + (-f.qmin).toNat ≤ f.p - 1 + Ka + Kb) : K * f.tails ≤ FP.Core.mag f (FP.Core.mul f x y) := by
  obtain ⟨s, c, q, x1, x2, x3⟩ := FP.Core.fin_of_mag hf hxf
  obtain ⟨t, d, r, y1, y2, y3⟩ := FP.Core.fin_of_mag hf hyf
  obtain ⟨p1, p2, p3⟩ := FP.Core.product_units x2 y2
  have hq := FP.Core.qmin_neg hf
  have hd : FP.Core.decode f (FP.Core.mul f x y) = FP.Core.roundRatio f (s != t) (c * d) 1 (q + r) := by
    unfold FP.Core.mul
    rw [FP.Core.decode_enc hf (FP.Core.round_fits hf _), x1, y1, p1]; rfl
  refine FP.Core.mag_ge hf hd (by decide) (e0 := 2 * f.qmin) (by omega) p2 (Nat.mul_le_mul_right _ hK2) ?_
  have l1 : f.tails * 2 ^ (Ka - 1) ≤ FP.Core.unitsOf f (FP.Core.mag f x) := by
    rw [← FP.Core.unitsOf_start ha]; exact FP.Core.unitsOf_le_iff.mpr hx
  have l2 : f.tails * 2 ^ (Kb - 1) ≤ FP.Core.unitsOf f (FP.Core.mag f y) := by
    rw [← FP.Core.unitsOf_start hb]; exact FP.Core.unitsOf_le_iff.mpr hy
  rw [p3, x3, y3, FP.Core.unitsOf_start hK, Nat.mul_one]
  calc f.tails * 2 ^ (K - 1) * 2 ^ (f.qmin - 2 * f.qmin).toNat = f.tails * 2 ^ (K - 1 + (f.qmin - 2 * f.qmin).toNat) := by rw [Nat.pow_add, Nat.mul_assoc]
    _ ≤ f.tails * 2 ^ (f.p - 1 + (Ka - 1) + (Kb - 1)) := Nat.mul_le_mul_left _ (Nat.pow_le_pow_right (by decide) (by omega))
    _ = (f.tails * 2 ^ (Ka - 1)) * (f.tails * 2 ^ (Kb - 1)) := by rw [Nat.pow_add, Nat.pow_add, show 2 ^ (f.p - 1) = f.tails from rfl]; ac_rfl
    _ ≤ FP.Core.unitsOf f (FP.Core.mag f x) * FP.Core.unitsOf f (FP.Core.mag f y) := Nat.mul_le_mul l1 l2
/-- a quotient of two whole numbers -/
theorem quo_fin {y : Nat} (x : Int32) (hy : 1 ≤ y) (hy2 : y ≤ 65536) : FP.Core.dIsNaN (FP.Core.ddiv (FP.Core.i2d x) (FP.Core.i2d (oN y))) = false := by
  have ny : ¬ oN y = 0 := fun z => absurd (oN_inj (y := 0) (by omega) (by decide) z) (by omega)
  refine FP.Core.ddiv_out (FP.Core.DFin.notNaN (FP.Core.i2d_fin x)) (FP.Core.i2d_fin _) ?_
  rw [FP.Core.zero_bits2]
  exact FP.Core.i2d_ne_zero ny
theorem quo_ge {x y : Nat} (hx : 1 ≤ x) (hx2 : x ≤ 65536) (hy : 1 ≤ y) (hy2 : y ≤ 65536) : 1006 * 2 ^ 52 ≤ (FP.Core.ddiv (FP.Core.i2d (oN x)) (FP.Core.i2d (oN y))).toNat % 2 ^ 63 := by
  have ex : (oN x).toInt = (x : Int) := ofNat_i32 (by omega)
  have ey : (oN y).toInt = (y : Int) := ofNat_i32 (by omega)
  have bx := FP.Core.i2d_big (v := oN x) (by omega)
  have by1 := FP.Core.i2d_big (v := oN y) (by omega)
  have by2 := FP.Core.fromInt_mag (FP.Core.toNat_i2d (oN y)) (j := 16) (K := 1039) (by rw [ey]; omega) (by decide) (by decide)
  have h1 : (FP.Core.ddiv (FP.Core.i2d (oN x)) (FP.Core.i2d (oN y))).toNat = FP.Core.div FP.Core.b64 (FP.Core.i2d (oN x)).toNat (FP.Core.i2d (oN y)).toNat := FP.Core.toNat_of64 (FP.Core.quotient_fits FP.Core.good_b64 _ _)
  have h2 := div_ge FP.Core.good_b64 (x := (FP.Core.i2d (oN x)).toNat) (y := (FP.Core.i2d (oN y)).toNat) (Ka := 1023) (L := 1040) (K := 1006)
    (by rw [FP.Core.mag_toNat64, FP.Core.tails_b64]; exact bx.1)
    (by rw [FP.Core.mag_toNat64, FP.Core.infBits_b64]; omega)
    (by rw [FP.Core.mag_toNat64, FP.Core.tails_b64]; omega)
    (by rw [FP.Core.mag_toNat64]; omega)
    (by rw [FP.Core.exps_b64]; decide) (by decide) (by decide) (by rw [FP.Core.exps_b64]; decide) (by rw [FP.Core.p_b64, FP.Core.qmin_b64]; decide)
  rw [← h1, FP.Core.mag_toNat64, FP.Core.tails_b64] at h2
  exact h2
theorem i2d_sgn {x : Nat} (hx : x ≤ 65536) : FP.Core.sgn (FP.Core.val64 (FP.Core.i2d (oN x))) = false := by
  have ex : (oN x).toInt = (x : Int) := ofNat_i32 (by omega)
  have hd : FP.Core.decode FP.Core.b64 (FP.Core.fromInt FP.Core.b64 (oN x).toInt) = FP.Core.roundRatio FP.Core.b64 (decide ((oN x).toInt < 0)) (oN x).toInt.natAbs 1 0 := FP.Core.decode_enc FP.Core.good_b64 (FP.Core.round_fits FP.Core.good_b64 _)
  unfold FP.Core.val64
  rw [FP.Core.toNat_i2d, hd, FP.Core.sgn_roundRatio, ex]
  exact decide_eq_false (by omega)
theorem sgn_round (f : FP.Core.Fmt) (d : FP.Core.Datum) (h : d ≠ .nan) : FP.Core.sgn (FP.Core.round f d) = FP.Core.sgn d := by
  cases d with
  | nan => exact absurd rfl h
  | inf s => rfl
  | fin s c q => exact FP.Core.sgn_roundRatio f s c 1 q
theorem quo_sgn {x y : Nat} (hx2 : x ≤ 65536) (hy : 1 ≤ y) (hy2 : y ≤ 65536) : FP.Core.sgn (FP.Core.val64 (FP.Core.ddiv (FP.Core.i2d (oN x)) (FP.Core.i2d (oN y)))) = false := by
  have sx := i2d_sgn hx2
  have sy := i2d_sgn hy2
  have nn := (FP.Core.notNaN_iff _).mp (quo_fin (oN x) hy hy2)
  rw [FP.Core.val64_ddiv] at nn ⊢
  obtain ⟨s, c, q, h1⟩ := FP.Core.i2d_fin (oN x)
  obtain ⟨t, d, r, h2⟩ := FP.Core.i2d_fin (oN y)
  rw [h1] at sx nn ⊢
  rw [h2] at sy nn ⊢
  have sx : s = false := sx
  have sy : t = false := sy
  subst sx
  subst sy
  simp only [FP.Core.quotient] at nn ⊢
  by_cases g : d = 0
  · rw [if_pos g] at nn ⊢
    by_cases g2 : c = 0
    · rw [if_pos g2] at nn; exact absurd rfl nn
    · rw [if_neg g2]; rfl
  · rw [if_neg g, FP.Core.sgn_roundRatio]; rfl
/-- the float of a double that is not too small -/
theorem d2f_ge {z : UInt64} (hz : FP.Core.dIsNaN z = false) (hs : FP.Core.sgn (FP.Core.val64 z) = false) (h : 1006 * 2 ^ 52 ≤ z.toNat % 2 ^ 63) (hfin : FP.Core.DFin z) : FP.Core.fIsNaN (FP.d2f z) = false ∧ (FP.d2f z).toNat < 2 ^ 31 ∧ 110 * 2 ^ 23 ≤ (FP.d2f z).toNat := by
  have e0 : FP.d2f z = FP.Core.d2f z := by
    unfold FP.d2f
    rw [hz]; rfl
  have nf := FP.Core.d2f_out hz
  have nn := (FP.Core.notNaN_iff z).mp hz
  have nv := (FP.Core.notNaN_iff32 _).mp nf
  have sg : FP.Core.sgn (FP.Core.val32 (FP.Core.d2f z)) = false := by
    rw [FP.Core.val32_d2f, sgn_round _ _ nn]; exact hs
  rw [FP.Core.sgn_bits32 nv] at sg
  have lt31 : (FP.Core.d2f z).toNat < 2 ^ 31 := by
    have := of_decide_eq_false sg
    omega
  obtain ⟨s, c, q, hv⟩ := hfin
  have hft := FP.Core.val64_fits z
  rw [hv] at hft
  have hq := hft.2.1
  rw [FP.Core.qmin_b64] at hq
  have hd : FP.Core.decode FP.Core.b32 (FP.Core.d2f z).toNat = FP.Core.roundRatio FP.Core.b32 s c 1 q := by
    have := FP.Core.val32_d2f z
    rw [hv] at this
    exact this
  have hu := FP.Core.zmag_bits nn
  rw [hv] at hu
  have hge : FP.Core.unitsOf FP.Core.b64 (1006 * FP.Core.b64.tails) ≤ FP.Core.unitsOf FP.Core.b64 (z.toNat % 2 ^ 63) := FP.Core.unitsOf_le_iff.mpr (by rw [FP.Core.tails_b64]; exact h)
  rw [FP.Core.unitsOf_start (by decide), ← hu] at hge
  have hm := FP.Core.mag_ge FP.Core.good_b32 (m := 110 * FP.Core.b32.tails) hd (by decide) (e0 := FP.Core.b64.qmin) (by rw [FP.Core.qmin_b64, FP.Core.qmin_b32]; decide) (by rw [FP.Core.qmin_b64]; exact hq) (by rw [FP.Core.tails_b32, FP.Core.infBits_b32]; decide) (by
    rw [FP.Core.unitsOf_start (by decide), Nat.mul_one]
    refine Nat.le_trans ?_ hge
    rw [FP.Core.tails_b32, FP.Core.tails_b64, FP.Core.qmin_b64, FP.Core.qmin_b32]
    rw [show ((-149 : Int) - -1074).toNat = 925 by decide, ← Nat.pow_add, ← Nat.pow_add, ← Nat.pow_add]
    exact Nat.pow_le_pow_right (by decide) (by decide))
  rw [FP.Core.mag_toNat32, FP.Core.tails_b32] at hm
  rw [e0]
  refine ⟨nf, lt31, ?_⟩
  have : (FP.Core.d2f z).toNat % 2 ^ 31 = (FP.Core.d2f z).toNat := Nat.mod_eq_of_lt lt31
  omega
