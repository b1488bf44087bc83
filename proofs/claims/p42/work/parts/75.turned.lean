/-! ===== where a turn leads to ===== -/
theorem fm_K {x y : Int32} (h1 : -1000 ≤ x.toInt) (h2 : x.toInt ≤ 1000) (h3 : 0 < y.toInt) (h4 : y.toInt ≤ 100) : ∃ r : Int32, f_J9_floorMod_7cf53 x y = some r ∧ 0 ≤ r.toInt ∧ r.toInt < y.toInt ∧ ∃ k : Int, r.toInt = x.toInt + y.toInt * k := by
  have z0 : (0 : Int32).toInt = 0 := by decide
  have hy0 : ¬ y = 0 := fun q => by rw [q, z0] at h3; omega
  have hnz : nz y = true := decide_eq_true hy0
  obtain ⟨t, ht⟩ : ∃ t, t = x.toInt.tdiv y.toInt := ⟨_, rfl⟩
  obtain ⟨m, hm⟩ : ∃ m, m = x.toInt.tmod y.toInt := ⟨_, rfl⟩
  have e : y.toInt * t + m = x.toInt := by rw [ht, hm]; exact Int.mul_tdiv_add_tmod _ _
  have tb : t.natAbs ≤ x.toInt.natAbs := by rw [ht]; exact Int.natAbs_tdiv_le_natAbs _ _
  have mb : m < y.toInt := by rw [hm]; exact Int.tmod_lt_of_pos _ h3
  have mn : 0 ≤ x.toInt → 0 ≤ m := fun q => by rw [hm]; exact Int.tmod_nonneg _ q
  have mp : x.toInt ≤ 0 → m ≤ 0 ∧ - y.toInt < m := fun q => by
    have k1 : (-x.toInt).tmod y.toInt = -m := by rw [hm]; exact Int.neg_tmod _ _
    have k2 : 0 ≤ (-x.toInt).tmod y.toInt := Int.tmod_nonneg _ (by omega)
    have k3 : (-x.toInt).tmod y.toInt < y.toInt := Int.tmod_lt_of_pos _ h3
    omega
  have d1 : (x / y).toInt = t := by
    rw [Int32.toInt_div, ← ht, Int.bmod_eq_of_le (by omega) (by omega)]
  have hmul : y.toInt * t = x.toInt - m := by omega
  have d2 : (x / y * y).toInt = x.toInt - m := by
    rw [Int32.toInt_mul, d1, Int.mul_comm, hmul, Int.bmod_eq_of_le (by omega) (by omega)]
  have d3 : (x - x / y * y).toInt = m := by
    rw [Int32.toInt_sub, d2, Int.bmod_eq_of_le (by omega) (by omega)]
    omega
  have d4 : (x - x / y * y + y).toInt = m + y.toInt := by
    rw [Int32.toInt_add, d3, Int.bmod_eq_of_le (by omega) (by omega)]
  have hx : (0 ≤ (x ^^^ y)) ↔ 0 ≤ x.toInt := by
    rw [Int32.le_iff_toInt_le, z0]
    have k1 : (x ^^^ y).toInt = (x.toBitVec ^^^ y.toBitVec).toInt := rfl
    have k2 : x.toInt = x.toBitVec.toInt := rfl
    have k3 : y.toInt = y.toBitVec.toInt := rfl
    rw [k3] at h3
    have ym : y.toBitVec.msb = false := by
      rw [BitVec.msb_eq_toInt]
      exact decide_eq_false (by omega)
    have xm : (x.toBitVec ^^^ y.toBitVec).msb = x.toBitVec.msb := by
      rw [BitVec.msb_xor, ym, Bool.xor_false]
    have k4 := BitVec.msb_eq_toInt (x := x.toBitVec)
    have k5 := BitVec.msb_eq_toInt (x := x.toBitVec ^^^ y.toBitVec)
    rw [xm, k4] at k5
    have k6 := decide_eq_decide.mp k5
    rw [k1, k2]
    omega
  have n1 : m = x.toInt + y.toInt * (-t) := by rw [Int.mul_neg]; omega
  have n2 : m + y.toInt = x.toInt + y.toInt * (1 - t) := by rw [Int.mul_sub, Int.mul_one]; omega
  unfold f_J9_floorMod_7cf53
  rw [gd_t hnz, lt_e]
  by_cases g : 0 ≤ x.toInt
  · have g1 := mn g
    rw [if_pos (hx.mpr g)]
    exact ⟨_, rfl, by rw [d3]; exact g1, by rw [d3]; exact mb, -t, by rw [d3]; exact n1⟩
  · have g1 := mp (by omega)
    rw [if_neg (fun q => g (hx.mp q))]
    by_cases g2 : x - x / y * y = 0
    · have g3 : m = 0 := by rw [← d3, g2, z0]
      rw [if_pos g2]
      exact ⟨_, rfl, by rw [g2, z0]; omega, by rw [g2, z0]; omega, -t, by rw [d3]; exact n1⟩
    · have g3 : ¬ m = 0 := fun q => g2 (i32_ext (by rw [d3, z0]; exact q))
      rw [if_neg g2]
      exact ⟨_, rfl, by rw [d4]; omega, by rw [d4]; omega, 1 - t, by rw [d4]; exact n2⟩
theorem around_K (a : KS) {x : Int32} {E r0 : Nat} {k : Int} (h1 : -1000 ≤ x.toInt) (h2 : x.toInt ≤ 1000) (hE : E ≤ 100) (hr : r0 < E) (hx : (r0 : Int) = x.toInt + E * k) : f_X2_around a x (oN E) = some (oN r0) := by
  have z0 : (0 : Int32).toInt = 0 := by decide
  have eE : (oN E).toInt = E := ofNat_i32 (by omega)
  obtain ⟨r, r1, r2, r3, k', r4⟩ := fm_K (x := x) (y := oN E) h1 h2 (by omega) (by omega)
  unfold f_X2_around
  rw [if_neg (show ¬ oN E ≤ 0 by rw [Int32.le_iff_toInt_le, z0, eE]; omega), r1, bs]
  rw [eE] at r3 r4
  have e1 : r.toInt = x.toInt % E := by
    rw [← Int.emod_eq_of_lt r2 r3, r4, Int.add_mul_emod_self_left]
  have e2 : (r0 : Int) = x.toInt % E := by
    have h5 : (r0 : Int) % E = r0 := Int.emod_eq_of_lt (by omega) (by omega)
    rw [← h5, hx, Int.add_mul_emod_self_left]
  refine congrArg some (i32_ext ?_)
  rw [ofNat_i32 (by omega), e1, e2]
theorem mmin_N {x y : Nat} (hx : x < 2147483648) (hy : y < 2147483648) : mmin (oN x) (oN y) = oN (min x y) := by
  unfold mmin
  by_cases g : y < x
  · rw [if_pos ((oN_lt hy hx).mpr g), Nat.min_eq_right (by omega)]
  · rw [if_neg (fun z => g ((oN_lt hy hx).mp z)), Nat.min_eq_left (by omega)]
theorem mmax_N {x y : Nat} (hx : x < 2147483648) (hy : y < 2147483648) : mmax (oN x) (oN y) = oN (max x y) := by
  unfold mmax
  by_cases g : x < y
  · rw [if_pos ((oN_lt hx hy).mpr g), Nat.max_eq_right (by omega)]
  · rw [if_neg (fun z => g ((oN_lt hx hy).mp z)), Nat.max_eq_left (by omega)]
/-- how many entries the menu has -/
def ent (a : KS) (s : Nat) : Nat := cnt (Kmn a) s (Kn a) + (if s = 0 then 0 else 1)
theorem ent_le {a : KS} {b : MS} (h : RTs a b) {s : Nat} (hs : s < Kn a) : ent a s ≤ 9 := by
  have := (h.2.2.2.2.2.2.1 s hs).2
  unfold ent
  split <;> omega
section TD
variable {a : KS} {b : MS} {j : Nat}
theorem turned_b (hb : Rel j a b) (m : Khi a 10 6 = 0) {s : Nat} (d1 : Ksh a = some s) (d2 : s < Kn a) (v : Int32) : f_X2_turned a v = if ¬ Khi a 12 2 = 1 then some (mmax 0 (mmin (oN (ent a s) - 1) (Khi a 10 7 + v))) else f_X2_around a (Khi a 10 7 + v) (oN (ent a s)) := by
  have n01 : ¬ (0 : Int32) = 1 := by decide
  have n02 : ¬ (0 : Int32) = 2 := by decide
  unfold f_X2_turned
  rw [m, if_pos n01, if_pos n02, lt_e, d1, odr_s d2, show f_X4_entries a s = some (oN (ent a s)) from entries_K hb.1 d2, bs, show f_X2_setting a 2 = some (Khi a 12 2) from rfl, bs]
  by_cases k : Khi a 12 2 = 1
  · rw [if_neg (fun z => z k), if_neg (fun z => z k), bind_some']
  · rw [if_pos k, if_pos k]
theorem clamp_N {E x : Nat} (hE : 1 ≤ E) (hE2 : E ≤ 100) (hx : x < 1000) : mmax 0 (mmin (oN E - 1) (oN x)) = oN (min (E - 1) x) := by
  rw [oN_pred hE, mmin_N (by omega) (by omega), show (0 : Int32) = oN 0 from rfl, mmax_N (by omega) (by omega), Nat.max_eq_right (Nat.zero_le _)]
/-- to the entry c + w -/
theorem turned_f (hb : Rel j a b) (m : Khi a 10 6 = 0) {s c w : Nat} (d1 : Ksh a = some s) (d2 : s < Kn a) (d3 : Khi a 10 7 = oN c) (hw : c + w < ent a s) : f_X2_turned a (oN w) = some (oN (c + w)) := by
  have he := ent_le hb.1 d2
  rw [turned_b hb m d1 d2, d3, oN_add]
  by_cases k : Khi a 12 2 = 1
  · rw [if_neg (fun z => z k)]
    have e : (oN (c + w)).toInt = ((c + w : Nat) : Int) := ofNat_i32 (by omega)
    exact around_K a (k := 0) (by omega) (by omega) (by omega) hw (by rw [e]; omega)
  · rw [if_pos k, clamp_N (by omega) (by omega) (by omega), Nat.min_eq_right (by omega)]
/-- a turn by nothing, while browsing -/
theorem turned_0b (hb : Rel j a b) (m : Khi a 10 6 = 0) : f_X2_turned a 0 = some (Khi a 10 7) := by
  obtain ⟨s, c, d1, d2, d3, d4, hcase⟩ := chos_c hb
  have he := ent_le hb.1 d2
  by_cases g : c < ent a s
  · have := turned_f hb m d1 d2 d4 (w := 0) (by omega)
    rw [d4]
    exact this
  · have h0 : ent a s = 0 ∧ c = 0 := by
      unfold ent at g ⊢
      rcases hcase with ⟨i, i1, i2, i3, i4, i5, -⟩ | ⟨m0, e1, e2, -⟩
      · omega
      · by_cases z : s = 0
        · rw [if_pos z] at g ⊢; omega
        · rw [if_neg z] at g; omega
    rw [turned_b hb m d1 d2, d4, h0.1, h0.2, Int32.add_zero]
    by_cases k : Khi a 12 2 = 1
    · rw [if_neg (fun z => z k)]; rfl
    · rw [if_pos k]; rfl
theorem turned_0e (hb : Rel j a b) (m : Khi a 10 6 = 1) : f_X2_turned a 0 = some (Khi a 10 8) := by
  obtain ⟨s, c, d1, d2, d3, d4, ⟨i, i1, i2, i3, i4, i5, i6, i7, i8⟩ | ⟨m0, -⟩⟩ := chos_c hb
  · have n12 : ¬ (1 : Int32) = 2 := by decide
    have zz : (0 : Int32).toInt = 0 := by decide
    obtain ⟨k0, v1, v2⟩ := i8 m
    unfold f_X2_turned f_X2_turnedDraft
    rw [m, if_neg nn11, i7, bs, ocs_s, gd_d i2, Int32.add_zero]
    rcases (hb.1.2.2.2.2.2.2.2.1 i i2).1 with ⟨k, -⟩ | ⟨k, k1, k2, k3, k4, k5⟩ | ⟨k, k1, k2, k3, k4⟩
    · exact absurd k k0
    · rw [k, if_pos n12, if_pos (by decide)]
      unfold f_X2_turnedDraft_51
      rw [gd_d i2, lt_e, Int32.zero_mul, Int32.zero_mul, Int32.add_zero, bs]
      refine congrArg some ?_
      unfold mmax mmin
      by_cases g : Khi a 10 8 < Kit a i 6
      · rw [if_pos g]
        by_cases g2 : Kit a i 5 < Khi a 10 8
        · rw [if_pos g2]
        · rw [if_neg g2]
          refine i32_ext ?_
          rw [Int32.lt_iff_toInt_lt] at g2
          omega
      · rw [if_neg g]
        have e : Kit a i 6 = Khi a 10 8 := i32_ext (by rw [Int32.lt_iff_toInt_lt] at g; omega)
        rw [e]
        by_cases g2 : Kit a i 5 < Khi a 10 8
        · rw [if_pos g2]
        · rw [if_neg g2]
          refine i32_ext ?_
          rw [Int32.lt_iff_toInt_lt] at g2
          omega
    · rw [k, if_neg nn22]
      rw [k1, zz] at v1
      have e6 : Kit a i 6 = oN (Kit a i 6).toInt.toNat := oN_of (by omega)
      have e8 : Khi a 10 8 = oN (Khi a 10 8).toInt.toNat := oN_of v1
      have e7 : Kit a i 6 + 1 = oN ((Kit a i 6).toInt.toNat + 1) := by rw [← oN_succ, ← e6]
      rw [e7, around_K a (x := Khi a 10 8) (r0 := (Khi a 10 8).toInt.toNat) (k := 0) (by omega) (by omega) (by omega) (by omega) (by omega), bs, bs, ← e8]
  · exact absurd (m.symm.trans m0) n10
/-- .. while a code is asked for; ten detents lead there as well -/
theorem turned_0d (hb : Rel j a b) (m : Khi a 10 6 = 2) : ∃ d : Nat, d < 10 ∧ f_X2_turned a 0 = some (oN d) ∧ f_X2_turned a 10 = some (oN d) := by
  have n21 : ¬ (2 : Int32) = 1 := by decide
  obtain ⟨q, q1, q2⟩ := place_c hb
  obtain ⟨-, d, dl, e2⟩ := hb.2.1.2.2.2.2.2.2.2.1 q q1
  have hq : ¬ 4 ≤ oN q := fun z => by rw [show (4 : Int32) = oN 4 from rfl, oN_le (by decide) (by omega)] at z; omega
  have ed : f_X2_digit a (oN q) = some (oN d) := by
    unfold f_X2_digit
    rw [if_neg (oN_nn (by omega)), if_neg hq, gd_t (inb_oN q1 (by decide)), ofNat_cl (by omega), e2]
  have step : ∀ v : Int32, f_X2_turned a v = f_X2_around a (oN d + v) (oN 10) := by
    intro v
    unfold f_X2_turned
    rw [m, if_pos n21, if_neg nn22, q2, ed, bs, bind_some']; rfl
  refine ⟨d, dl, ?_, ?_⟩
  · rw [step, Int32.add_zero]
    have e : (oN d).toInt = d := ofNat_i32 (by omega)
    exact around_K a (k := 0) (by omega) (by omega) (by decide) dl (by rw [e]; omega)
  · rw [step, show (10 : Int32) = oN 10 from rfl, oN_add]
    have e : (oN (d + 10)).toInt = ((d + 10 : Nat) : Int) := ofNat_i32 (by omega)
    exact around_K a (k := -1) (by omega) (by omega) (by decide) dl (by rw [e]; omega)
/-- a turn leads to what the display can show -/
theorem turned_r (hb : Rel j a b) {v : Int32} (h1 : -50 ≤ v.toInt) (h2 : v.toInt ≤ 50) : ∃ r, f_X2_turned a v = some r ∧ ¬ r < -999 ∧ ¬ 999 < r := by
  have e1 : (-999 : Int32).toInt = -999 := by decide
  have e2 : (999 : Int32).toInt = 999 := by decide
  obtain ⟨r, r1, -, r3, r4, r5⟩ := turned_eq hb.1 hb.2.1 h1 h2
  refine ⟨r, r1, ?_⟩
  rw [Int32.lt_iff_toInt_lt, Int32.lt_iff_toInt_lt, e1, e2]
  rcases mode_c hb with m | m | m
  · obtain ⟨s, c, d1, rfl, d3⟩ := r3 m
    obtain ⟨s', c', d1', d2', -⟩ := chos_c hb
    obtain rfl : s' = s := Option.some.inj (d1'.symm.trans d1)
    have h9 := (hb.1.2.2.2.2.2.2.1 s' d2').2
    rw [ofNat_i32 (by omega)]
    omega
  · obtain ⟨s, c, d1, d2, d3, d4, ⟨i, i1, i2, i3, i4, i5, i6, i7, i8⟩ | ⟨m0, -⟩⟩ := chos_c hb
    · obtain ⟨k0, v1, v2⟩ := r4 m i i7
      have k9 := (hb.1.2.2.2.2.2.2.2.1 i i2).1
      have zz : (0 : Int32).toInt = 0 := by decide
      rcases k9 with ⟨k, -⟩ | ⟨k, k1, k2, k3, k4, k5⟩ | ⟨k, k1, k2, k3, k4⟩
      · exact absurd k k0
      · omega
      · rw [k1, zz] at v1; omega
    · exact absurd (m.symm.trans m0) n10
  · obtain ⟨d, d1, rfl⟩ := r5 m
    rw [ofNat_i32 (by omega)]
    omega
end TD
