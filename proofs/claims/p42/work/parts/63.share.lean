/-! ===== the share ===== -/
def FR (x y : Nat) : UInt64 := if y = 0 then FP.dconst0 else FP.ddiv (FP.i2d (oN x)) (FP.i2d (oN y))
theorem FR_nn {x y : Nat} (hy2 : y ≤ 65536) (hy : ¬ y = 0) : nn64 (FP.ddiv (FP.i2d (oN x)) (FP.i2d (oN y))) = true := nn64_in (quo_fin (oN x) (by omega) hy2)
/-- the float that the share becomes: zero, or not too small -/
def FV (v : UInt32) : Prop := FP.Core.fIsNaN v = false ∧ (FP.Core.fcmp v FP.fconst0 = some .eq ∨ (v.toNat < 2 ^ 31 ∧ 110 * 2 ^ 23 ≤ v.toNat))
theorem FR_v {x y : Nat} (hx : x ≤ y) (hy : y ≤ 65536) : FV (FP.d2f (FR x y)) := by
  unfold FR
  by_cases g : y = 0
  · rw [if_pos g]
    exact ⟨by decide +kernel, Or.inl (by decide +kernel)⟩
  · rw [if_neg g]
    have nz := quo_fin (oN x) (show 1 ≤ y by omega) hy
    by_cases h0 : x = 0
    · subst h0
      have nf := FP.Core.d2f_out nz
      have e0 : FP.d2f (FP.ddiv (FP.i2d (oN 0)) (FP.i2d (oN y))) = FP.Core.d2f (FP.Core.ddiv (FP.Core.i2d (oN 0)) (FP.Core.i2d (oN y))) := by
        show (if FP.Core.dIsNaN (FP.Core.ddiv (FP.Core.i2d (oN 0)) (FP.Core.i2d (oN y))) then _ else _) = _
        rw [nz]; rfl
      rw [e0]
      refine ⟨nf, Or.inl ?_⟩
      show FP.Core.fcmp _ 0 = _
      rw [FP.Core.zero_iff32]
      obtain ⟨t, d, r, h2⟩ := FP.Core.i2d_fin (oN y)
      have hd0 : ¬ d = 0 := by
        intro z
        have ny : ¬ oN y = 0 := fun z => absurd (oN_inj (y := 0) (by omega) (by decide) z) (by omega)
        have hz : FP.Core.DZero (FP.Core.i2d (oN y)) := ⟨t, r, by rw [h2, z]⟩
        rw [FP.Core.zero_bits2] at hz
        exact FP.Core.i2d_ne_zero ny hz
      have h1 : FP.Core.val64 (FP.Core.i2d (oN 0)) = .fin false 0 FP.Core.b64.qmin := by decide +kernel
      have h3 : FP.Core.val64 (FP.Core.ddiv (FP.Core.i2d (oN 0)) (FP.Core.i2d (oN y))) = .fin (false != t) 0 FP.Core.b64.qmin := by
        rw [FP.Core.val64_ddiv, h1, h2]
        simp only [FP.Core.quotient, if_neg hd0]
        rfl
      refine ⟨false != t, FP.Core.b32.qmin, ?_⟩
      rw [FP.Core.val32_d2f, h3]
      rfl
    · have q1 := quo_ge (x := x) (y := y) (by omega) (by omega) (by omega) hy
      have q2 := quo_sgn (x := x) (y := y) (by omega) (by omega) hy
      have ny : ¬ oN y = 0 := fun z => absurd (oN_inj (y := 0) (by omega) (by decide) z) (by omega)
      have bY := FP.Core.i2d_big (FP.Core.int32_ne ny)
      have q3 := FP.Core.ddiv_mag (K := 1056) (L := 1023) (FP.Core.i2d_mag (oN x)) bY.1 bY.2 (by decide) (by decide)
      have q4 : FP.Core.DFin (FP.Core.ddiv (FP.Core.i2d (oN x)) (FP.Core.i2d (oN y))) := (FP.Core.fin_bits _).mpr (by omega)
      obtain ⟨r1, r2, r3⟩ := d2f_ge nz q2 q1 q4
      exact ⟨r1, Or.inr ⟨r2, r3⟩⟩
section SH
variable {a : KS} {b : MS}
theorem diff_n {x y : Int32} (h1 : -999 ≤ x.toInt) (h2 : x.toInt ≤ y.toInt) (h3 : y.toInt ≤ 999) : ∃ d : Nat, d ≤ 1998 ∧ y - x = oN d ∧ (d : Int) = y.toInt - x.toInt := by
  refine ⟨(y.toInt - x.toInt).toNat, by omega, i32_ext ?_, by omega⟩
  rw [ofNat_i32 (by omega), Int32.toInt_sub, Int.bmod_eq_of_le (by omega) (by omega)]
  omega
theorem share_l (h : RTs a b) : ∀ (fuel k x y : Nat), k ≤ Kn a → Kn a - k < fuel → x ≤ y → y ≤ 1998 * k → ∃ x' y', x' ≤ y' ∧ y' ≤ 65536 ∧ l_X8_fraction_6 fuel a (oN x) (oN y) (oN k) = some (FR x' y') ∧ l_X9_share_6 fuel b (oN x) (oN y) (oN k) = some (FR x' y') := by
  have hn := rt_n h
  intro fuel
  induction fuel with
  | zero => intro k x y _ h; omega
  | succ f ih =>
    intro k x y h1 h2 h3 h4
    have e1 : l_X8_fraction_6 (f + 1) a (oN x) (oN y) (oN k) = f_X8_fraction_6 (l_X8_fraction_6 f) a (oN x) (oN y) (oN k) := rfl
    have e2 : l_X9_share_6 (f + 1) b (oN x) (oN y) (oN k) = f_X9_share_6 (l_X9_share_6 f) b (oN x) (oN y) (oN k) := rfl
    rw [e1, e2]
    unfold f_X8_fraction_6 f_X9_share_6
    rw [h.1.2.2.1, h.1.2.2.2]
    by_cases g : Kn a ≤ k
    · have gg : oN (Kn a) ≤ oN k := (oN_le (by omega) (by omega)).mpr g
      refine ⟨x, y, h3, by omega, ?_, ?_⟩
      · rw [if_pos gg]
        unfold FR
        by_cases z : y = 0
        · rw [if_pos z, if_pos (show oN y ≤ 0 from (oN_le (y := 0) (by omega) (by decide)).mpr (by omega))]
        · rw [if_neg z, if_neg (show ¬ oN y ≤ 0 from fun q => z (by have := (oN_le (y := 0) (by omega) (by decide)).mp q; omega)), gd_t (FR_nn (by omega) z)]
      · rw [if_pos gg]
        unfold FR
        by_cases z : y = 0
        · rw [if_pos z, if_neg (show ¬ ¬ oN y = 0 from fun q => q (by rw [z]; rfl))]
        · rw [if_neg z, if_pos (show ¬ oN y = 0 from fun q => z (oN_inj (y := 0) (by omega) (by decide) q)), gd_t (FR_nn (by omega) z)]
    · have gg : ¬ oN (Kn a) ≤ oN k := fun q => g ((oN_le (by omega) (by omega)).mp q)
      have hk : k < Kn a := by omega
      have it := it_at h hk
      unfold f_X8_fraction_69 f_X9_share_29 f_X9_share_54 f_X9_share_79
      rw [if_neg gg, if_neg gg, find_in h hk, bs, ocs_s, gd_d hk, gd_t (in24 h hk), cl_n h hk, ← it.2.1, ← it.2.2.1, ← it.2.2.2.1, ← it.2.2.2.2.2.1]
      by_cases kd : Kit a k 1 = 1
      · obtain ⟨k9, v1, v2⟩ := h.2.2.2.2.2.2.2.1 k hk
        rcases k9 with ⟨z, -⟩ | ⟨-, y1, y2, y3, -⟩ | ⟨z, -⟩
        · exact absurd (kd.symm.trans z) n10
        · obtain ⟨d1, p1, p2, p3⟩ := diff_n (x := Kit a k 5) (y := Kit a k 10) y1 v1 (by omega)
          obtain ⟨d2, p4, p5, p6⟩ := diff_n (x := Kit a k 5) (y := Kit a k 6) y1 (by omega) y3
          rw [if_neg (fun q => q kd), if_neg (fun q => q kd), if_neg n10, gd_t (in24 h hk), gd_t (in24 h hk)]
          simp only [lt_e]
          rw [if_neg n10, gd_t (in24 h hk), gd_t (in24 h hk), p2, p5, oN_add, oN_add, oN_succ]
          exact ih (k + 1) (x + d1) (y + d2) (by omega) (by omega) (by omega) (by omega)
        · exact absurd (kd.symm.trans z) (by decide)
      · rw [if_pos kd, if_pos kd, if_pos rfl, lt_e, if_pos rfl, lt_e, Int32.add_zero, Int32.add_zero, oN_succ]
        exact ih (k + 1) x y (by omega) (by omega) h3 (by omega)
theorem share_eq (h : RTs a b) : ∃ z, f_X8_fraction a = some z ∧ f_X9_share b = some z ∧ FV (FP.d2f z) := by
  have hn := rt_n h
  obtain ⟨x, y, h1, h2, h3, h4⟩ := share_l h FU 0 0 0 (Nat.zero_le _) (by rw [FU_e]; omega) (Nat.le_refl _) (Nat.zero_le _)
  exact ⟨FR x y, h3, h4, FR_v h1 h2⟩
end SH
theorem s_33 : S_33 Rel := by
  intro j a b v1 v2 v3 v4 hj h
  obtain ⟨z, z1, z2, -⟩ := share_eq (h.thr 0).1
  refine ⟨z, (z, sMhi b 100 0 0), z1, ?_, rfl, h.nx 0⟩
  unfold f_X9_fraction
  rw [z2]; rfl
/-! ===== the bits of a float ===== -/
theorem f_one : FP.Core.FFin FP.fconst1 := (FP.Core.fin_bits32 _).mpr (by decide)
theorem f_two : FP.Core.FFin FP.fconst2 := (FP.Core.fin_bits32 _).mpr (by decide)
theorem f_big : FP.Core.FFin 1258291200 := (FP.Core.fin_bits32 _).mpr (by decide)
theorem f_big0 : ¬ FP.Core.FZero 1258291200 := by rw [FP.Core.zero_bits232]; decide
theorem f_two0 : ¬ FP.Core.FZero FP.fconst2 := by rw [FP.Core.zero_bits232]; decide
theorem fmul2 {v : UInt32} {K : Nat} (hK : 1 ≤ K) (hv : v.toNat < 127 * 2 ^ 23) (hk : K * 2 ^ 23 ≤ v.toNat) : FP.Core.fIsNaN (FP.Core.fmul v FP.fconst2) = false ∧ (FP.Core.fmul v FP.fconst2).toNat < 2 ^ 31 ∧ (K + 1) * 2 ^ 23 ≤ (FP.Core.fmul v FP.fconst2).toNat := by
  have hm : v.toNat % 2 ^ 31 = v.toNat := Nat.mod_eq_of_lt (by omega)
  have ff : FP.Core.FFin v := (FP.Core.fin_bits32 _).mpr (by omega)
  have nn := FP.Core.fmul_out' (FP.Core.FFin.notNaN ff) f_two f_two0
  have nv := (FP.Core.notNaN_iff32 _).mp nn
  have t2 : (FP.fconst2).toNat % 2 ^ 31 = 128 * 2 ^ 23 := by decide
  have h1 : (FP.Core.fmul v FP.fconst2).toNat = FP.Core.mul FP.Core.b32 v.toNat (FP.fconst2).toNat := FP.Core.toNat_of32 (FP.Core.round_fits FP.Core.good_b32 _)
  have h2 := mul_ge FP.Core.good_b32 (x := v.toNat) (y := (FP.fconst2).toNat) (Ka := K) (Kb := 128) (K := K + 1)
    (by rw [FP.Core.mag_toNat32, FP.Core.tails_b32, hm]; exact hk)
    (by rw [FP.Core.mag_toNat32, FP.Core.infBits_b32]; omega)
    (by rw [FP.Core.mag_toNat32, FP.Core.tails_b32, t2]; exact Nat.le_refl _)
    (by rw [FP.Core.mag_toNat32, FP.Core.infBits_b32, t2]; decide)
    hK (by decide) (by omega) (by rw [FP.Core.exps_b32]; omega) (by rw [FP.Core.p_b32, FP.Core.qmin_b32]; omega)
  rw [← h1, FP.Core.mag_toNat32, FP.Core.tails_b32] at h2
  have sg : FP.Core.sgn (FP.Core.val32 (FP.Core.fmul v FP.fconst2)) = false := by
    have sv : FP.Core.sgn (FP.Core.val32 v) = false := by
      rw [FP.Core.sgn_bits32 ((FP.Core.notNaN_iff32 _).mp (FP.Core.FFin.notNaN ff))]
      exact decide_eq_false (by omega)
    have s2 : FP.Core.sgn (FP.Core.val32 FP.fconst2) = false := by
      rw [FP.Core.sgn_bits32 ((FP.Core.notNaN_iff32 _).mp (FP.Core.FFin.notNaN f_two))]
      decide
    obtain ⟨s, c, q, y1⟩ := ff
    obtain ⟨t, d, r, y2⟩ := f_two
    rw [y1] at sv
    rw [y2] at s2
    have sv : s = false := sv
    have s2 : t = false := s2
    rw [FP.Core.val32_fmul, y1, y2]
    show FP.Core.sgn (FP.Core.roundRatio FP.Core.b32 (s != t) (c * d) 1 (q + r)) = false
    rw [FP.Core.sgn_roundRatio, sv, s2]; rfl
  rw [FP.Core.sgn_bits32 nv] at sg
  have lt31 : (FP.Core.fmul v FP.fconst2).toNat < 2 ^ 31 := by
    have := of_decide_eq_false sg
    omega
  have hm2 : (FP.Core.fmul v FP.fconst2).toNat % 2 ^ 31 = (FP.Core.fmul v FP.fconst2).toNat := Nat.mod_eq_of_lt lt31
  exact ⟨nn, lt31, by rw [← hm2]; exact h2⟩
theorem shl_q : ∀ m : Nat, m < 128 → oN m <<< (23 &&& 31) = oN m * 8388608 := by decide +kernel
theorem bits_l {a : KS} {b : MS} : ∀ (fuel K : Nat) (v : UInt32), 110 ≤ K → K ≤ 127 → 127 - K < fuel → FP.Core.fIsNaN v = false → v.toNat < 2 ^ 31 → K * 2 ^ 23 ≤ v.toNat → ∃ r, l_X8_floatBits_13 fuel a v (oN (237 - K)) = some r ∧ l_X9_bits_13 fuel b v (oN (237 - K)) = some r := by
  intro fuel
  induction fuel with
  | zero => intro K v _ _ h; omega
  | succ f ih =>
    intro K v h1 h2 h3 hn hl hk
    have e1 : l_X8_floatBits_13 (f + 1) a v (oN (237 - K)) = f_X8_floatBits_13 (l_X8_floatBits_13 f) a v (oN (237 - K)) := rfl
    have e2 : l_X9_bits_13 (f + 1) b v (oN (237 - K)) = f_X9_bits_13 (l_X9_bits_13 f) b v (oN (237 - K)) := rfl
    rw [e1, e2]
    unfold f_X8_floatBits_13 f_X9_bits_13 f_X8_floatBits_34
    by_cases g : 0 ≤ cmpValue (FP.fcmp v FP.fconst1) .g
    · have n1 : nn32 (FP.fsub v FP.fconst1) = true := nn32_in (FP.Core.fsub_out hn f_one)
      have n2 : nn32 (FP.fmul (FP.fsub v FP.fconst1) 1258291200) = true := nn32_in (FP.Core.fmul_out' (FP.Core.fsub_out hn f_one) f_big f_big0)
      rw [if_pos g, if_pos g, gd_t n1, gd_t n2, gd_t n1, gd_t n2, shl_q _ (by omega)]
      exact ⟨_, rfl, rfl⟩
    · have nv := (FP.Core.notNaN_iff32 v).mp hn
      have n1 : FP.Core.val32 FP.fconst1 ≠ .nan := (FP.Core.notNaN_iff32 _).mp (FP.Core.FFin.notNaN f_one)
      have hc : FP.Core.fcmp v FP.fconst1 = some .lt := by
        have g' : ¬ 0 ≤ cmpValue (FP.Core.fcmp v FP.fconst1) .g := g
        cases o : FP.Core.fcmp v FP.fconst1 with
        | none => rw [o] at g'; exact absurd (by decide) g'
        | some x =>
          rw [o] at g'
          cases x with
          | lt => rfl
          | eq => exact absurd (by decide) g'
          | gt => exact absurd (by decide) g'
      have hkey := (FP.Core.fcmp_lt_key nv n1).mp hc
      have k1 : FP.Core.fkey FP.fconst1 = 1065353216 := by decide
      have kv : FP.Core.fkey v = (v.toNat : Int) := by
        unfold FP.Core.fkey
        rw [if_neg (by omega)]
      rw [k1, kv] at hkey
      have hv : v.toNat < 127 * 2 ^ 23 := by omega
      obtain ⟨m1, m2, m3⟩ := fmul2 (K := K) (by omega) hv hk
      have n2 : nn32 (FP.fmul v FP.fconst2) = true := nn32_in m1
      have gv : ¬ oN (237 - K) ≤ 1 := fun z => by rw [show (1 : Int32) = oN 1 from rfl, oN_le (by omega) (by decide)] at z; omega
      have e3 : oN (237 - K) + (-1) = oN (237 - (K + 1)) := by
        rw [show 237 - K = 237 - (K + 1) + 1 by omega, oN_m1]
      rw [if_neg g, if_neg g, if_neg gv, gd_t n2, gd_t n2, lt_e, lt_e, e3]
      exact ih (K + 1) _ (by omega) (by omega) (by omega) m1 m2 m3
theorem bits_eq {a : KS} {b : MS} {v : UInt32} (h : FV v) : ∃ r, f_X8_floatBits a v = some r ∧ f_X9_bits b v = some r := by
  unfold f_X8_floatBits f_X9_bits
  obtain ⟨h1, h2⟩ := h
  rcases h2 with h2 | ⟨h2, h3⟩
  · rw [show FP.fcmp v FP.fconst0 = some .eq from h2, if_neg (show ¬ (0 : Int32) < cmpValue (some .eq) .g by decide), if_neg (show ¬ ¬ cmpValue (some .eq) .l = 0 from fun z => z rfl)]
    exact ⟨0, rfl, rfl⟩
  · have nv := (FP.Core.notNaN_iff32 v).mp h1
    have n0 : FP.Core.val32 FP.fconst0 ≠ .nan := by rw [FP.Core.ne_nan32]; decide
    have k0 : FP.Core.fkey FP.fconst0 = 0 := by decide
    have kv : FP.Core.fkey v = (v.toNat : Int) := by
      unfold FP.Core.fkey
      rw [if_neg (by omega)]
    have hc : FP.fcmp v FP.fconst0 = some .gt := (FP.Core.fcmp_gt_key nv n0).mpr (by rw [k0, kv]; omega)
    rw [hc, if_pos (show (0 : Int32) < cmpValue (some .gt) .g by decide), if_pos (show ¬ cmpValue (some .gt) .l = 0 by decide)]
    exact bits_l FU 110 v (by decide) (by decide) (by decide) h1 h2 h3
