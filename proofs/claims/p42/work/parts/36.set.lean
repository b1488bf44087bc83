/-! ===== settings, the text's beginnings, locks ===== -/
theorem rng2 {v : Int32} {lo hi : Nat} (hb : hi < 2147483648) (hlo : lo < 2147483648) (h1 : ¬ v < oN lo) (h2 : ¬ oN hi < v) : ∃ q : Nat, lo ≤ q ∧ q ≤ hi ∧ v = oN q := by
  rw [Int32.lt_iff_toInt_lt, ofNat_i32 hlo] at h1
  rw [Int32.lt_iff_toInt_lt, ofNat_i32 hb] at h2
  refine ⟨v.toInt.toNat, by omega, by omega, ?_⟩
  apply i32_ext
  rw [ofNat_i32 (by omega)]
  omega
theorem set_i {j : Nat} {a : KS} {b : MS} {v2 : Int32} (h : Rel j a b) {i : Nat} (hi3 : i < 3) {lo hi : Int32} (k1 : f_X8_leastOf a (oN i) = some lo) (k2 : f_X8_mostOf a (oN i) = some hi) (k3 : f_X9_set b (oN i) v2 = f_X9_set_47 b (oN i) v2 v2 lo hi) (hs : Khi a 12 i = Mhi b 119 i) (hr : ¬ v2 < lo → ¬ hi < v2 → Rel (j + 1) (sKhi a 12 i v2) (sMhi (sMhi b 100 0 0) 119 i v2)) : ∃ (z : Int32 × KS) (w : Int32 × MS) (t : Int32), (f_L_set a (oN i) v2 = some z) ∧ (f_X9_set b (oN i) v2 = some w) ∧ (f_X9_thrown w.2 = some t) ∧ (t = z.1) ∧ (z.1 = 0 → (Kou z.2 0) = w.1.toInt64) ∧ Rel (j + 1) z.2 w.2 := by
  have c1 : ¬ oN i < 0 := oN_nn (by omega)
  have c2 : oN i < 3 := (oN_lt (y := 3) (by omega) (by decide)).mpr hi3
  have c3 : ¬ 3 ≤ oN i := Int32.not_le.mpr c2
  have e0 : f_X8_set a (oN i) v2 = if v2 < lo then some (2, 0, a) else if v2 ≤ hi then some (0, Khi a 12 i, sKhi a 12 i v2) else some (2, 0, a) := by
    unfold f_X8_set f_X8_set_35
    rw [if_neg c1, if_pos c2, k1, bs]
    by_cases g1 : v2 < lo
    · rw [if_pos g1, if_pos g1]
    · rw [if_neg g1, if_neg g1, k2, bs]
      by_cases g2 : v2 ≤ hi
      · rw [if_pos g2, if_pos g2]
        unfold f_X2_setting f_X2_changeSetting
        rw [if_neg c1, if_neg c3, if_neg c1, if_neg c3, gd_t (inb_oN hi3 (by decide)), gd_t (inb_oN hi3 (by decide)), ofNat_cl (by omega)]; rfl
      · rw [if_neg g2, if_neg g2]
  have e1 : f_X9_set b (oN i) v2 = if v2 < lo ∨ hi < v2 then some (0, sMhi b 100 0 2) else some (Mhi b 119 i, sMhi (sMhi b 100 0 0) 119 i v2) := by
    rw [k3]
    unfold f_X9_set_47 f_X9_set_58
    by_cases g : v2 < lo ∨ hi < v2
    · rw [if_pos g, in_f g, bs, if_neg (fun q => q rfl), holds_n b n20, bs, if_neg (fun q => q rfl)]
    · rw [if_neg g, in_t (fun q => g (Or.inl q)) (fun q => g (Or.inr q)), bs, if_pos n10, holds_0, bs, if_pos n10, gd_t (inb_oN hi3 (by decide)), lt_e, gd_t (inb_oN hi3 (by decide)), ofNat_cl (by omega)]; rfl
  by_cases g : v2 < lo ∨ hi < v2
  · refine ⟨(2, a), (0, sMhi b 100 0 2), 2, ?_, ?_, rfl, rfl, fun q => absurd q n20, h.nx 2⟩
    · unfold f_L_set
      rw [e0]
      by_cases g1 : v2 < lo
      · rw [if_pos g1]; rfl
      · rw [if_neg g1, if_neg (Int32.not_le.mpr (g.resolve_left g1))]; rfl
    · rw [e1, if_pos g]
  · have g1 : ¬ v2 < lo := fun q => g (Or.inl q)
    have g2 : ¬ hi < v2 := fun q => g (Or.inr q)
    refine ⟨(0, sKou (sKhi a 12 i v2) 0 (Khi a 12 i).toInt64), (Mhi b 119 i, sMhi (sMhi b 100 0 0) 119 i v2), 0, ?_, ?_, rfl, rfl, fun _ => ?_, (hr g1 g2).kou 0 _⟩
    · unfold f_L_set
      rw [e0, if_neg g1, if_pos (Int32.not_lt.mp g2)]; rfl
    · rw [e1, if_neg g]
    · show (Khi a 12 i).toInt64 = _
      rw [hs]
theorem s_13 : S_13 Rel := by
  intro j a b v1 v2 v3 v4 hj h
  rcases rng v1 (N := 3) (by decide) with o | ⟨i, hi, rfl⟩
  · refine ⟨(1, a), (0, sMhi b 100 0 1), 1, ?_, ?_, rfl, rfl, fun q => absurd q n10, h.nx 1⟩
    · unfold f_L_set f_X8_set f_X8_set_9
      have o : v1 < 0 ∨ (3 : Int32) ≤ v1 := o
      by_cases h0 : v1 < 0
      · rw [if_pos h0]; rfl
      · rw [if_neg h0, if_neg (Int32.not_lt.mpr (o.resolve_left h0))]; rfl
    · unfold f_X9_set f_X9_set_58
      rw [in_f (hi := 2) (o.imp id (fun q => (i32_succ_le (N := 2) (by decide)).mpr q))]; rfl
  · have hr := h.up
    obtain ⟨h1, ⟨d1, d2, d3, d4, d5, d6, d7, d8, ⟨d90, d91, d92⟩, d10⟩, h3⟩ := hr
    match i, hi with
    | 0, hi =>
      refine set_i h hi (lo := 1) (hi := 60) rfl rfl rfl d90.1 (fun g1 g2 => ?_)
      obtain ⟨q, q1, q2, q3⟩ := rng2 (lo := 1) (hi := 60) (by decide) (by decide) g1 g2
      exact ⟨h1, ⟨d1, d2, d3, d4, d5, d6, d7, d8, ⟨⟨rfl, q, q1, q2, q3⟩, d91, d92⟩, d10⟩, h3⟩
    | 1, hi =>
      refine set_i h hi (lo := 1) (hi := 99) rfl rfl rfl d91.1 (fun g1 g2 => ?_)
      obtain ⟨q, q1, q2, q3⟩ := rng2 (lo := 1) (hi := 99) (by decide) (by decide) g1 g2
      exact ⟨h1, ⟨d1, d2, d3, d4, d5, d6, d7, d8, ⟨d90, ⟨rfl, q, q1, q2, q3⟩, d92⟩, d10⟩, h3⟩
    | 2, hi =>
      refine set_i h hi (lo := 0) (hi := 1) rfl rfl rfl d92.1 (fun g1 g2 => ?_)
      obtain ⟨q, q1, q2, q3⟩ := rng2 (lo := 0) (hi := 1) (by decide) (by decide) g1 g2
      refine ⟨h1, ⟨d1, d2, d3, d4, d5, d6, d7, d8, ⟨d90, d91, rfl, ?_⟩, d10⟩, h3⟩
      show v2 = 0 ∨ v2 = 1
      rw [q3]
      match q, q2 with
      | 0, _ => exact Or.inl rfl
      | 1, _ => exact Or.inr rfl
    | i + 3, hi => omega
theorem sub_i32 {x y : Nat} (hx : x < 1073741824) (hy : y < 1073741824) : (oN x - oN y).toInt = (x : Int) - y := by
  rw [Int32.toInt_sub, ofNat_i32 (by omega), ofNat_i32 (by omega), Int.bmod_eq_of_le (by omega) (by omega)]
theorem ticks_eq {j : Nat} {a : KS} {b : MS} {ev mev : Nat → Int32} (hj : j ≤ 512) (h : RTs a b) (hd : RDx ev mev j a b) : ∃ r, f_X2_ticksUntilHome a = some r ∧ f_X9_ticksLeft b = some r := by
  have hn := rt_n h
  have hh := home_eq h hd
  have hw := wbh_eq h hd
  have ha := any_eq h
  obtain ⟨⟨s, c, d1, d2, d2b, d3, d4, d5, d6, -⟩, ⟨m1, -⟩, -, -, ⟨q, q1, q2, q3⟩, -, -, -, ⟨⟨s0, e, e1, e2, e3⟩, ⟨s1, f, f1, f2, f3⟩, -⟩, -⟩ := hd
  have z0 : (0 : Int32).toInt = 0 := by decide
  have zm : (-1 : Int32).toInt = -1 := by decide
  have de : (oN e - oN q).toInt = (e : Int) - q := sub_i32 (by omega) (by omega)
  have df : (oN f - oN q).toInt = (f : Int) - q := sub_i32 (by omega) (by omega)
  unfold f_X2_ticksUntilHome f_X9_ticksLeft
  rcases hh with ⟨k1, k2, -⟩ | ⟨k1, k2, k3⟩
  · rw [k1, k2, bs, bs, if_neg n10, if_neg n10]
    exact ⟨0, rfl, rfl⟩
  · rw [k1, k2, bs, bs, if_pos rfl, if_pos rfl, ← m1, d3, d5, ← d4]
    have c0 : (0 : Int32).toNatClampNeg = 0 := rfl
    have c1 : (1 : Int32).toNatClampNeg = 1 := rfl
    have hidle : ∀ x : Nat, x ≤ 99 → (oN x ≤ oN q ↔ x ≤ q) := fun x hx => oN_le (by omega) (by omega)
    -- the reference when the edit's timeout doesn't bring it home
    have M0 : f_X9_ticksLeft_55 b 0 = some (if f ≤ q then -1 else oN f - oN q) := by
      unfold f_X9_ticksLeft_55 f_X9_ticksLeft_84
      rw [gd_t (by decide), gd_t (by decide), c1, ← s1, f3, q3]
      by_cases g : f ≤ q
      · rw [if_pos ((hidle f f2).mpr g), if_pos rfl, if_pos g]
      · rw [if_neg (fun z => g ((hidle f f2).mp z)), if_pos rfl, if_neg g]; rfl
    have M1 : f_X9_ticksLeft_55 b 1 = some (if f ≤ q then oN e - oN q else if oN f - oN q ≤ oN e - oN q then oN f - oN q else oN e - oN q) := by
      unfold f_X9_ticksLeft_55 f_X9_ticksLeft_84 f_X9_ticksLeft_109
      rw [gd_t (by decide), gd_t (by decide), gd_t (by decide), gd_t (by decide), c1, c0, ← s1, ← s0, f3, e3, q3]
      by_cases g : f ≤ q
      · rw [if_pos ((hidle f f2).mpr g), if_neg n10, if_pos rfl, if_pos g]
      · rw [if_neg (fun z => g ((hidle f f2).mp z)), if_neg n10, if_neg (show ¬ oN f - oN q = -1 from fun z => by have := congrArg Int32.toInt z; rw [df, zm] at this; omega), if_neg g]
        by_cases g2 : oN f - oN q ≤ oN e - oN q
        · rw [if_pos g2, if_pos g2]; rfl
        · rw [if_neg g2, if_neg g2]; rfl
    have K0 : f_X2_ticksUntilHome_30 a 0 = some (if f ≤ q then -1 else oN f - oN q) := by
      unfold f_X2_ticksUntilHome_30 f_X2_ticksUntilHome_56
      rw [show f_X2_setting a 1 = some (Khi a 12 1) from rfl, bs, f3, q2, lt_e, if_pos (show (0 : Int32) ≤ 0 from Int32.le_refl 0), lt_e]
      unfold mmax
      by_cases g : f ≤ q
      · rw [if_pos g]
        by_cases g1 : 0 < oN f - oN q
        · rw [Int32.lt_iff_toInt_lt, z0, df] at g1; omega
        · rw [if_neg g1, if_pos (Int32.le_refl 0)]
      · have g1 : 0 < oN f - oN q := by rw [Int32.lt_iff_toInt_lt, z0, df]; omega
        rw [if_neg g, if_pos g1, if_neg (Int32.not_le.mpr g1)]
    by_cases m0 : Khi a 10 6 = 0
    · rw [if_pos m0]
      rcases hw with ⟨w1, w2, w3, w4⟩ | ⟨w1, w2⟩
      · exact absurd ⟨m0, w2, w3, w4⟩ k3
      · rw [w1, bs, if_pos rfl]
        exact ⟨_, K0, M0⟩
    · rw [if_neg m0]
      rcases hw with ⟨w1, w2, w3, w4⟩ | ⟨w1, w2⟩
      · obtain rfl : s = 0 := Option.some.inj (d1.symm.trans w2)
        rw [w1, bs, if_neg n10, if_neg (show ¬ ¬ oN 0 = 0 from fun z => z rfl), if_neg (fun z => z w3)]
        rcases ha with ⟨-, -, i, i1, i2⟩ | ⟨-, a2, -⟩
        · exact absurd i2 (w4 i i1)
        · rw [a2, bs, if_neg (fun z => z rfl), gd_t (by decide), c0, ← s0, e3, q3, show f_X2_setting a 0 = some (Khi a 12 0) from rfl, bs, e3, q2]
          by_cases g : e ≤ q
          · rw [if_pos ((hidle e (by omega)).mpr g)]
            refine ⟨_, ?_, M0⟩
            unfold f_X2_ticksUntilHome_30 f_X2_ticksUntilHome_56
            rw [show f_X2_setting a 1 = some (Khi a 12 1) from rfl, bs, f3, q2, lt_e, if_pos (show oN e - oN q ≤ 0 by rw [Int32.le_iff_toInt_le, z0, de]; omega), lt_e]
            unfold mmax
            by_cases g2 : f ≤ q
            · rw [if_pos g2]
              by_cases g1 : oN e - oN q < oN f - oN q
              · rw [if_pos g1, if_pos (by rw [Int32.le_iff_toInt_le, z0, df]; omega)]
              · rw [if_neg g1, if_pos (by rw [Int32.le_iff_toInt_le, z0, de]; omega)]
            · rw [if_neg g2, if_pos (show oN e - oN q < oN f - oN q by rw [Int32.lt_iff_toInt_lt, de, df]; omega), if_neg (by rw [Int32.le_iff_toInt_le, z0, df]; omega)]
          · rw [if_neg (fun z => g ((hidle e (by omega)).mp z))]
            refine ⟨_, ?_, M1⟩
            unfold f_X2_ticksUntilHome_30 f_X2_ticksUntilHome_56
            rw [show f_X2_setting a 1 = some (Khi a 12 1) from rfl, bs, f3, q2, lt_e, if_neg (show ¬ oN e - oN q ≤ 0 by rw [Int32.le_iff_toInt_le, z0, de]; omega), lt_e]
            unfold mmax mmin
            by_cases g2 : f ≤ q
            · rw [if_pos g2, if_pos (show oN f - oN q ≤ 0 by rw [Int32.le_iff_toInt_le, z0, df]; omega)]
              rw [if_neg (show ¬ oN e - oN q < oN f - oN q by rw [Int32.lt_iff_toInt_lt, de, df]; omega), if_neg (show ¬ oN e - oN q ≤ 0 by rw [Int32.le_iff_toInt_le, z0, de]; omega)]
            · rw [if_neg g2, if_neg (show ¬ oN f - oN q ≤ 0 by rw [Int32.le_iff_toInt_le, z0, df]; omega)]
              by_cases g3 : oN f - oN q ≤ oN e - oN q
              · rw [if_pos g3]
                by_cases g4 : oN f - oN q < oN e - oN q
                · rw [if_pos g4]
                · rw [if_neg g4]
                  rw [Int32.le_antisymm g3 (Int32.not_lt.mp g4)]
              · rw [if_neg g3, if_neg (fun z => g3 (Int32.le_of_lt z))]
      · rw [w1, bs, if_pos rfl]
        refine ⟨_, K0, ?_⟩
        by_cases e9 : s = 0
        · subst e9
          rw [if_neg (show ¬ ¬ oN 0 = 0 from fun z => z rfl)]
          by_cases e8 : Khi a 10 7 = 0
          · rw [if_neg (fun z => z e8)]
            rcases ha with ⟨-, a2, -⟩ | ⟨-, -, a3⟩
            · rw [a2, bs, if_pos n10]; exact M0
            · exact absurd ⟨d1, e8, a3⟩ w2
          · rw [if_pos e8]; exact M0
        · rw [if_pos (show ¬ oN s = 0 from fun q => e9 (oN_inj (by omega) (by omega) q))]; exact M0
theorem s_32 : S_32 Rel := by
  intro j a b v1 v2 v3 v4 hj h
  obtain ⟨r, r1, r2⟩ := ticks_eq (by omega) (h.thr 0).1 (h.thr 0).2.1
  refine ⟨r, (r, sMhi b 100 0 0), ?_, ?_, rfl, h.nx 0⟩
  · unfold f_X8_ticksToHome; rw [r1]; rfl
  · unfold f_X9_ticksToHome; rw [r2]; rfl
