/-! ===== the display, the digest, the share ===== -/
theorem div_N {x y : Nat} (hx : x < 2147483648) (hy : y < 2147483648) : oN x / oN y = oN (x / y) := by
  apply i32_ext
  rw [Int32.toInt_div, ofNat_i32 hy, ofNat_i32 hx, ofNat_i32 (Nat.lt_of_le_of_lt (Nat.div_le_self _ _) hx)]
  have : ((x : Int).tdiv y) = ((x / y : Nat) : Int) := by
    rw [Int.tdiv_eq_ediv_of_nonneg (by omega)]; rfl
  rw [this]
  have h4 := Nat.div_le_self x y
  generalize x / y = w at h4 ⊢
  exact Int.bmod_eq_of_le (by omega) (by omega)
theorem q_disp {j : Nat} {a : KS} {b : MS} (h : Rel j a b) {r c : Nat} (hr : r < 2) (hc : c < 16) : ∃ (f : Nat → Int32) (x : Nat), f_X8_display a (oN r) (oN c) = some (0, oN x, sc a f) ∧ CB x := by
  obtain ⟨f, g0, g1, e1, e2, -⟩ := draw_eq h
  obtain ⟨x, x1, x2⟩ := e2 (16 * r + c) (by omega)
  refine ⟨f, x, ?_, x1⟩
  unfold f_X8_display
  rw [if_neg (oN_nn (by omega)), if_neg (show ¬ (2 : Int32) ≤ oN r from fun z => by rw [show (2 : Int32) = oN 2 from rfl, oN_le (by decide) (by omega)] at z; omega), if_neg (oN_nn (by omega)), if_pos (show oN c < 16 from (oN_lt (y := 16) (by omega) (by decide)).mpr hc), e1, bs, sign_in e2 hr hc, bs, x2]
theorem disp_l {a : KS} {b : MS} {j : Nat} (h : Rel j a b) (v1 : Int32) (H : Int64) : ∀ (fuel k : Nat) (f0 : Nat → Int32), k ≤ 32 → 32 - k < fuel → ∃ f, l_L_holds_131 fuel (sc a f0) v1 H 1 (oN k) = l_L_holds_197 FU (sc a f) v1 H 1 1 := by
  intro fuel
  induction fuel with
  | zero => intro k f0 _ q; omega
  | succ n ih =>
    intro k f0 h1 h2
    have e1 : l_L_holds_131 (n + 1) (sc a f0) v1 H 1 (oN k) = f_L_holds_131 (l_L_holds_131 n) (sc a f0) v1 H 1 (oN k) := rfl
    rw [e1]
    unfold f_L_holds_131
    by_cases g : k = 32
    · subst g
      rw [if_pos (show (32 : Int32) ≤ oN 32 from Int32.le_refl _)]
      exact ⟨f0, rfl⟩
    · have g32 : ¬ (32 : Int32) ≤ oN k := fun z => by rw [show (32 : Int32) = oN 32 from rfl, oN_le (by decide) (by omega)] at z; omega
      have ed : oN k / 16 = oN (k / 16) := div_N (y := 16) (by omega) (by decide)
      have em : oN k - oN (k / 16) * 16 = oN (k % 16) := by
        rw [show (16 : Int32) = oN 16 from rfl, oN_mul, oN_sub (Nat.div_mul_le_self k 16)]
        congr 1
        have := Nat.div_add_mod k 16
        omega
      rw [if_neg g32, if_neg n10, ed, em]
      obtain ⟨f1, x1, p1, p2⟩ := q_disp (show Rel j (sc a f0) b from h) (r := k / 16) (c := k % 16) (by omega) (by omega)
      obtain ⟨f2, x2, p3, p4⟩ := q_disp (show Rel j (sc a f1) b from h) (r := k / 16) (c := k % 16) (by omega) (by omega)
      rw [p1, bs, gd_d rfl, if_neg (show ¬ oN x1 < 32 by rw [show (32 : Int32) = oN 32 from rfl, oN_lt (by omega) (by decide)]; omega), sc_sc, p3, bs, gd_d rfl, if_neg (show ¬ 126 < oN x2 by rw [show (126 : Int32) = oN 126 from rfl, oN_lt (by decide) (by omega)]; omega), sc_sc]
      unfold f_L_holds_186
      rw [oN_succ]
      exact ih (k + 1) f2 (by omega) (by omega)
theorem dig_st {a : KS} : ∀ (fuel : Nat) (H : Int64) (v : Int32) (z : Int64 × KS), l_X8_digest_16 fuel a H v = some z → f_X6_draw a = some z.2 := by
  intro fuel
  induction fuel with
  | zero => intro H v z h; cases h
  | succ n ih =>
    intro H v z h
    have h : f_X8_digest_16 (l_X8_digest_16 n) a H v = some z := h
    unfold f_X8_digest_16 at h
    by_cases g : 8 ≤ v
    · rw [if_pos g] at h
      obtain ⟨x, x1, h⟩ := bnd_some h
      obtain ⟨y, -, h⟩ := bnd_some h
      obtain ⟨w, -, h⟩ := bnd_some h
      obtain ⟨-, h⟩ := gd_some h
      obtain ⟨u, -, h⟩ := bnd_some h
      obtain ⟨t, -, h⟩ := bnd_some h
      obtain rfl := Option.some.inj h
      exact x1
    · rw [if_neg g] at h
      obtain ⟨x, -, h⟩ := bnd_some h
      obtain ⟨y, -, h⟩ := bnd_some h
      exact ih _ _ _ h
/-- the digest: only the display is drawn anew; it doesn't depend on what was drawn before -/
theorem q_dig {a : KS} {b : MS} (h : Rel 500 a b) : ∃ H : Int64, ∀ f0, ∃ f, f_X8_digest (sc a f0) = some (H, sc a f) := by
  have key : ∀ f0, ∃ (z : Int64 × KS) (w : Int64 × MS), f_X8_digest (sc a f0) = some z ∧ f_X9_digest b = some w ∧ z.1 = w.1 ∧ ∃ f, z.2 = sc a f := by
    intro f0
    obtain ⟨z, w, z1, z2, z3, -⟩ := s_38 500 (sc a f0) b 0 0 0 0 (by decide) h
    refine ⟨z, w, z1, z2, z3, ?_⟩
    unfold f_X8_digest at z1
    obtain ⟨x, -, z1⟩ := bnd_some z1
    obtain ⟨y, -, z1⟩ := bnd_some z1
    have e := dig_st _ _ _ _ z1
    obtain ⟨f, g0, g1, e1, -⟩ := draw_eq (show Rel 500 (sc a f0) b from h)
    rw [e1, sc_sc] at e
    exact ⟨f, (Option.some.inj e).symm⟩
  obtain ⟨z, w, -, w1, -, -⟩ := key (Khi a 15)
  refine ⟨w.1, fun f0 => ?_⟩
  obtain ⟨z', w', p1, p2, p3, f, p4⟩ := key f0
  obtain rfl := Option.some.inj (w1.symm.trans p2)
  exact ⟨f, by rw [p1, ← p3, ← p4]⟩
/-- the share lies from 0 to 1 -/
theorem FR_dn {x y : Nat} (hy2 : y ≤ 65536) : FP.Core.dIsNaN (FR x y) = false := by
  unfold FR
  by_cases g : y = 0
  · rw [if_pos g]; decide
  · rw [if_neg g]; exact quo_fin (oN x) (by omega) hy2
