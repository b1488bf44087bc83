/-! ===== adding, the operations ===== -/
theorem gdp_t {α : Type} {P : Prop} {x : Option α} (h : P) : gdp P x = x := if_pos h
theorem added_K {j p c : Nat} {a : KS} {b : MS} {kd lo hi st : Int32} (h : Rel j a b) (home : f_X2_atHome a = some 1) (hn : Kn a < 24) (hp : p < Kn a) (hc : Kit a p 9 = oN c) (c8 : c < 8) : f_X8_added a (some p) kd lo hi st = some (0, oN (Kn a), adA a p c kd lo hi st) := by
  have n1 := h.1.1.2.2.1
  obtain ⟨F, hF⟩ : ∃ F, F = itF (oN (Kn a)) kd (Kit a p 3 + 1) (oN c) lo hi st := ⟨_, rfl⟩
  have g1 : oN (Kn a) < 24 := (oN_lt (y := 24) (by omega) (by decide)).mpr hn
  have g2 : oN c < 8 := (oN_lt (y := 8) (by omega) (by decide)).mpr c8
  have g3 : ¬ 8 ≤ oN c := Int32.not_le.mpr g2
  have g4 : ¬ 24 ≤ oN (Kn a) := Int32.not_le.mpr g1
  have q1 : p < Kn (sNew a F (some p)) := Nat.lt_succ_of_lt hp
  have q2 : Kn a < Kn (sNew a F (some p)) := Nat.lt_succ_self _
  have q3 : Kn a < Kn (sKit (sKch (sNew a F (some p)) p c (some (Kn a))) p 9 (oN (c + 1))) := Nat.lt_succ_self _
  have q4 : Kn a < Kn (sKhi (sKti (sKit (sKch (sNew a F (some p)) p c (some (Kn a))) p 9 (oN (c + 1))) (Kn a) (some (Kn a))) 1 2 (oN (Kn a + 1))) := Nat.lt_succ_self _
  have k9 : Kit (sNew a F (some p)) p 9 = oN c := by
    show (if p = Kn a then F 9 else Kit a p 9) = _
    rw [if_neg (by omega)]; exact hc
  have k9' : Kit (sKch (sNew a F (some p)) p c (some (Kn a))) p 9 = oN c := k9
  have kk : f_X4_keepChild (sNew a F (some p)) p (some (Kn a)) = some (sKit (sKch (sNew a F (some p)) p c (some (Kn a))) p 9 (oN (c + 1))) := by
    unfold f_X4_keepChild
    rw [gd_d q1, k9, if_neg (oN_nn (by omega)), if_neg g3, odr_s q2, gd_t (inb_oN c8 (by decide)), ofNat_cl (by omega), k9', oN_succ]
  have tk : f_X7_keep (sKit (sKch (sNew a F (some p)) p c (some (Kn a))) p 9 (oN (c + 1))) (some (Kn a)) = some (sKhi (sKti (sKit (sKch (sNew a F (some p)) p c (some (Kn a))) p 9 (oN (c + 1))) (Kn a) (some (Kn a))) 1 2 (oN (Kn a + 1))) := by
    unfold f_X7_keep
    rw [show Khi (sKit (sKch (sNew a F (some p)) p c (some (Kn a))) p 9 (oN (c + 1))) 1 2 = Khi a 1 2 from rfl, n1, if_neg (oN_nn (by omega)), if_neg g4, odr_s q3, gd_t (inb_oN hn (by decide)), ofNat_cl (by omega)]
    rw [show Khi (sKti (sKit (sKch (sNew a F (some p)) p c (some (Kn a))) p 9 (oN (c + 1))) (Kn a) (some (Kn a))) 1 2 = Khi a 1 2 from rfl, n1, oN_succ]
  unfold f_X8_added f_X8_requireHome
  rw [home, bs, if_pos n10, bs, if_pos rfl, n1, if_pos g1, odr_s hp, hc, if_pos g2, gdp_t h.rok, ← hF, gd_d q1, kk, bs, tk, bs, gd_d q4]
  have e : Kit (sKhi (sKti (sKit (sKch (sNew a F (some p)) p c (some (Kn a))) p 9 (oN (c + 1))) (Kn a) (some (Kn a))) 1 2 (oN (Kn a + 1))) (Kn a) 0 = oN (Kn a) := by
    show (if Kn a = p ∧ 0 = 9 then oN (c + 1) else if Kn a = Kn a then F 0 else Kit a (Kn a) 0) = _
    rw [if_neg (by omega), if_pos rfl, hF]; rfl
  rw [e, hF]
  rfl
theorem can_eq {j p : Nat} {a : KS} {b : MS} (h : Rel j a b) (hp : p < Kn a) : (f_X2_atHome a = some 1 ∧ Kn a < 24 ∧ cnt (Kmn a) p (Kn a) < 8 ∧ f_X9_canAdd b (oN p) = some 1 ∧ Khi a 10 6 = 0 ∧ Ksh a = some 0 ∧ Khi a 10 7 = 0) ∨ (f_X9_canAdd b (oN p) = some 0 ∧ ∀ kd lo hi st, f_X8_added a (some p) kd lo hi st = some (3, 0, a)) := by
  have hn := rt_n h.1
  have n1 := h.1.1.2.2.1
  have n2 := h.1.1.2.2.2
  obtain ⟨c1, c2⟩ := h.1.2.2.2.2.2.2.1 p hp
  unfold f_X9_canAdd f_X8_added f_X8_requireHome
  rcases home_eq h.1 h.2.1 with ⟨m1, m2, m3, m4, m5, -⟩ | ⟨m1, m2, -⟩
  · rw [m1, m2, bs, if_neg n10, n2]
    by_cases g : Kn a < 24
    · have g1 : oN (Kn a) < 24 := (oN_lt (y := 24) (by omega) (by decide)).mpr g
      rw [if_neg (Int32.not_le.mpr g1), itemsOf_in h.1 hp, bs]
      by_cases e : cnt (Kmn a) p (Kn a) < 8
      · have e1 : oN (cnt (Kmn a) p (Kn a)) < 8 := (oN_lt (y := 8) (by omega) (by decide)).mpr e
        rw [if_neg (Int32.not_le.mpr e1)]
        exact Or.inl ⟨rfl, g, e, rfl, m3, m4, m5⟩
      · have e1 : 8 ≤ oN (cnt (Kmn a) p (Kn a)) := (oN_le (x := 8) (by decide) (by omega)).mpr (by omega)
        rw [if_pos e1]
        refine Or.inr ⟨rfl, fun kd lo hi st => ?_⟩
        rw [bs, if_pos n10, bs, if_pos rfl, n1, if_pos g1, odr_s hp, c1, if_neg (Int32.not_lt.mpr e1)]
    · have g1 : 24 ≤ oN (Kn a) := (oN_le (x := 24) (by decide) (by omega)).mpr (by omega)
      rw [if_pos g1]
      refine Or.inr ⟨rfl, fun kd lo hi st => ?_⟩
      rw [bs, if_pos n10, bs, if_pos rfl, n1, if_neg (Int32.not_lt.mpr g1)]
  · rw [m1, m2, bs, if_pos rfl]
    refine Or.inr ⟨rfl, fun kd lo hi st => ?_⟩
    rw [bs, if_neg nn00, bs, if_neg (by decide)]
theorem men_out {a : KS} {v : Int32} (o : v < 0 ∨ Khi a 1 2 ≤ v) : f_X8_menuNumbered a v = some (1, none) := by
  unfold f_X8_menuNumbered
  rw [num_out o]; rfl
theorem men_no {a : KS} {b : MS} (h : RTs a b) {i : Nat} (hi : i < Kn a) (k : ¬ Kit a i 1 = 0) : f_X8_menuNumbered a (oN i) = some (2, none) := by
  unfold f_X8_menuNumbered
  rw [num_in h hi, bs, if_pos rfl, lt_e, odr_s hi, if_neg k]
theorem men_in {a : KS} {b : MS} (h : RTs a b) {i : Nat} (hi : i < Kn a) (k : Kit a i 1 = 0) : f_X8_menuNumbered a (oN i) = some (0, some i) := by
  unfold f_X8_menuNumbered
  rw [num_in h hi, bs, if_pos rfl, lt_e, odr_s hi, if_pos k]
theorem adds_M {b : MS} {n : Nat} {kd x : Int32} (hn : n < 24) (h : Mhi b 100 1 = oN n) : f_X9_adds b kd x = some (oN n, sMhi (sMhi (sMhi (sMhi b 102 n kd) 103 n x) 108 n (-1)) 100 1 (oN (n + 1))) := by
  have cn : (oN n).toNatClampNeg = n := ofNat_cl (by omega)
  have bn : inb (oN n) 24 = true := inb_oN hn (by decide)
  have e1 : oN (n + 1) - 1 = oN n := oN_pred (by omega)
  unfold f_X9_adds
  simp (disch := decide) only [Mhi_np, Mhi_se, h, cn, gd_t bn, oN_succ, e1]
theorem row_0 {a : KS} {b : MS} (h : RTs a b) (hn : Kn a < 24) : Mhi b 104 (Kn a) = 0 ∧ Mhi b 105 (Kn a) = 0 ∧ Mhi b 106 (Kn a) = 0 ∧ Mhi b 107 (Kn a) = 0 ∧ Mhi b 109 (Kn a) = 0 := h.2.2.2.2.2.2.2.2 (Kn a) (Nat.le_refl _) hn
/-- the answers of the three, where nothing is added -/
theorem s_0 : S_0 Rel := by
  intro j a b v1 v2 v3 v4 hj h
  have n01 : ¬ (0 : Int32) = 1 := by decide
  rcases num_cases h.1 v1 with o | ⟨i, hi, rfl⟩
  · refine ⟨(1, a), (0, sMhi b 100 0 1), 1, ?_, ?_, rfl, rfl, fun q => absurd q n10, h.nx 1⟩
    · unfold f_L_addMenu f_X8_addMenu
      rw [men_out o]; rfl
    · unfold f_X9_addMenu f_X9_addMenu_47
      rw [isItem_out h.1 o, bs, if_neg nn00]; rfl
  · by_cases k : Kit a i 1 = 0
    · obtain ⟨lv, l1, l2, l3⟩ := h.1.2.2.2.2.2.1 i hi
      have l3 := l3 k
      have c9 := h.1.2.2.2.2.2.2.1 i hi
      rcases can_eq h hi with ⟨m1, m2, m3, m4, m5, m6, m7⟩ | ⟨m1, m2⟩
      · by_cases e : lv = 3
        · subst e
          refine ⟨(3, a), (0, sMhi b 100 0 3), 3, ?_, ?_, rfl, rfl, fun q => absurd q n30, h.nx 3⟩
          · unfold f_L_addMenu f_X8_addMenu
            rw [men_in h.1 hi k, bs, if_pos rfl, lt_e, odr_s hi, l2, if_neg (by decide)]; rfl
          · unfold f_X9_addMenu f_X9_addMenu_42 f_X9_addMenu_47
            rw [isItem_in h.1 hi, bs, if_pos n10, isMenu_in h.1 hi, bs, if_pos k, if_pos n10, m4, bs, if_neg n10, levelOf_in h.1 hi, bs, l2, if_neg (show ¬ ¬ oN 3 = 3 from fun z => z rfl)]; rfl
        · have g3 : oN lv < 3 := (oN_lt (y := 3) (by omega) (by decide)).mpr (by omega)
          have g4 : ¬ oN lv = 3 := fun z => e (oN_inj (y := 3) (by omega) (by decide) z)
          obtain ⟨r1, r2, r3, r4, -⟩ := row_0 h.1 m2
          have hk9 : K9 (itF (oN (Kn a)) 0 (Kit a i 3 + 1) (oN (cnt (Kmn a) i (Kn a))) 0 0 0) := Or.inl ⟨rfl, rfl, rfl, rfl⟩
          have hr := add_rel (h.thr 0) m5 m6 m7 m2 hi k rfl m3 hk9 (by decide) (fun _ => ⟨lv, by omega, l2⟩)
          refine ⟨(0, sKou (adA a i (cnt (Kmn a) i (Kn a)) 0 0 0 0) 0 (oN (Kn a)).toInt64), (oN (Kn a), adB (sMhi b 100 0 0) (Kn a) 0 0 0 0 (oN i)), 0, ?_, ?_, rfl, rfl, fun _ => rfl, (hr.kou 0 _).up⟩
          · unfold f_L_addMenu f_X8_addMenu
            rw [men_in h.1 hi k, bs, if_pos rfl, lt_e, odr_s hi, l2, if_pos g3, added_K h m1 m2 hi c9.1 m3]; rfl
          · unfold f_X9_addMenu f_X9_addMenu_42 f_X9_addMenu_47
            rw [isItem_in h.1 hi, bs, if_pos n10, isMenu_in h.1 hi, bs, if_pos k, if_pos n10, m4, bs, if_neg n10, levelOf_in h.1 hi, bs, l2, if_pos g4, holds_0, bs, if_pos n10]
            rw [adds_M (b := sMhi b 100 0 0) m2 h.1.1.2.2.2]
            unfold adB
            rw [Mhi_id (b := sMhi b 100 0 0) (p := 104) (i := Kn a) r1, Mhi_id (b := sMhi b 100 0 0) (p := 105) (i := Kn a) r2, Mhi_id (b := sMhi b 100 0 0) (p := 106) (i := Kn a) r3, Mhi_id (b := sMhi b 100 0 0) (p := 107) (i := Kn a) r4]
            rfl
      · refine ⟨(3, a), (0, sMhi b 100 0 3), 3, ?_, ?_, rfl, rfl, fun q => absurd q n30, h.nx 3⟩
        · unfold f_L_addMenu f_X8_addMenu
          rw [men_in h.1 hi k, bs, if_pos rfl, lt_e, odr_s hi, m2]
          by_cases g : Kit a i 3 < 3
          · rw [if_pos g]; rfl
          · rw [if_neg g]; rfl
        · unfold f_X9_addMenu f_X9_addMenu_42 f_X9_addMenu_47
          rw [isItem_in h.1 hi, bs, if_pos n10, isMenu_in h.1 hi, bs, if_pos k, if_pos n10, m1, bs, if_pos rfl]; rfl
    · refine ⟨(2, a), (0, sMhi b 100 0 2), 2, ?_, ?_, rfl, rfl, fun q => absurd q n20, h.nx 2⟩
      · unfold f_L_addMenu f_X8_addMenu
        rw [men_no h.1 hi k]; rfl
      · unfold f_X9_addMenu f_X9_addMenu_47
        rw [isItem_in h.1 hi, bs, if_pos n10, isMenu_in h.1 hi, bs, if_neg k, if_neg nn00]; rfl
/-- the checks of a number's limits -/
theorem lim_eq (b : MS) (v2 v3 v4 : Int32) : (∃ v1, v1 = 1 ∧ ¬ v2 < -999 ∧ ¬ 999 < v3 ∧ v2 < v3 ∧ ¬ v4 < 1 ∧ v4 ≤ 100 ∧ f_X9_in b v2 (-999) 998 = some v1 ∧ ¬ v3 ≤ v2 ∧ f_X9_in b v4 1 100 = some v1) ∨ ((v2 < -999 ∨ 999 < v3 ∨ ¬ v2 < v3 ∨ v4 < 1 ∨ ¬ v4 ≤ 100) ∧ (f_X9_in b v2 (-999) 998 = some 0 ∨ v3 ≤ v2 ∨ 999 < v3 ∨ f_X9_in b v4 1 100 = some 0)) := by
  by_cases a1 : v2 < -999
  · exact Or.inr ⟨Or.inl a1, Or.inl (in_f (Or.inl a1))⟩
  · by_cases a2 : 999 < v3
    · exact Or.inr ⟨Or.inr (Or.inl a2), Or.inr (Or.inr (Or.inl a2))⟩
    · by_cases a3 : v2 < v3
      · by_cases a4 : v4 < 1
        · exact Or.inr ⟨Or.inr (Or.inr (Or.inr (Or.inl a4))), Or.inr (Or.inr (Or.inr (in_f (Or.inl a4))))⟩
        · by_cases a5 : v4 ≤ 100
          · refine Or.inl ⟨1, rfl, a1, a2, a3, a4, a5, in_t a1 ?_, Int32.not_le.mpr a3, in_t a4 (Int32.not_lt.mpr a5)⟩
            intro z
            rw [Int32.lt_iff_toInt_lt] at z a2 a3
            have y1 : (998 : Int32).toInt = 998 := by decide
            have y2 : (999 : Int32).toInt = 999 := by decide
            omega
          · exact Or.inr ⟨Or.inr (Or.inr (Or.inr (Or.inr a5))), Or.inr (Or.inr (Or.inr (in_f (Or.inr (Int32.not_le.mp a5)))))⟩
      · exact Or.inr ⟨Or.inr (Or.inr (Or.inl a3)), Or.inr (Or.inl (Int32.not_lt.mp a3))⟩
theorem num_bad {b : MS} {v1 v2 v3 v4 : Int32} (h : f_X9_in b v2 (-999) 998 = some 0 ∨ v3 ≤ v2 ∨ 999 < v3 ∨ f_X9_in b v4 1 100 = some 0) : f_X9_addNumber b v1 v2 v3 v4 = f_X9_addNumber_41 b v1 v2 v3 v4 0 := by
  unfold f_X9_addNumber f_X9_addNumber_40
  by_cases a1 : v2 < -999 ∨ 998 < v2
  · rw [in_f a1]; rfl
  · rw [in_t (fun z => a1 (Or.inl z)) (fun z => a1 (Or.inr z)), bs, if_neg n10]
    by_cases a2 : v3 ≤ v2
    · rw [if_pos a2]
    · rw [if_neg a2]
      by_cases a3 : 999 < v3
      · rw [if_pos a3]
      · rw [if_neg a3]
        rcases h with z | z | z | z
        · rw [in_t (fun z => a1 (Or.inl z)) (fun z => a1 (Or.inr z))] at z
          exact absurd (Option.some.inj z) n10
        · exact absurd z a2
        · exact absurd z a3
        · rw [z]; rfl
theorem num_K2 {a : KS} {v1 v2 v3 v4 : Int32} {i : Nat} (hm : f_X8_menuNumbered a v1 = some (0, some i)) (h : v2 < -999 ∨ 999 < v3 ∨ ¬ v2 < v3 ∨ v4 < 1 ∨ ¬ v4 ≤ 100) : f_X8_addNumber a v1 v2 v3 v4 = some (2, 0, a) := by
  unfold f_X8_addNumber f_X8_addNumber_26 f_X8_addNumber_49
  rw [hm, bs, if_pos rfl, lt_e]
  by_cases a1 : v2 < -999
  · rw [if_pos a1]
  · rw [if_neg a1]
    by_cases a2 : 999 < v3
    · rw [if_pos a2]
    · rw [if_neg a2]
      by_cases a3 : v2 < v3
      · rw [if_pos a3]
        by_cases a4 : v4 < 1
        · rw [if_pos a4]
        · rw [if_neg a4, if_neg]
          rcases h with z | z | z | z | z
          · exact absurd z a1
          · exact absurd z a2
          · exact absurd a3 z
          · exact absurd z a4
          · exact z
      · rw [if_neg a3]
theorem num_K3 {a : KS} {v1 v2 v3 v4 : Int32} {i : Nat} (hm : f_X8_menuNumbered a v1 = some (0, some i)) (a1 : ¬ v2 < -999) (a2 : ¬ 999 < v3) (a3 : v2 < v3) (a4 : ¬ v4 < 1) (a5 : v4 ≤ 100) : f_X8_addNumber a v1 v2 v3 v4 = (f_X8_added a (some i) 1 v2 v3 v4).bind (fun z10 => if z10.1 = 0 then (some (0, z10.2.1, z10.2.2)) else (some (z10.1, 0, z10.2.2))) := by
  unfold f_X8_addNumber
  rw [hm, bs, if_pos rfl, lt_e, if_neg a1, if_neg a2, if_pos a3, if_neg a4, if_pos a5]
theorem s_1 : S_1 Rel := by
  intro j a b v1 v2 v3 v4 hj h
  have n01 : ¬ (0 : Int32) = 1 := by decide
  have kx : ∀ s0, (v1 < 0 ∨ Khi a 1 2 ≤ v1) → f_X9_addNumber_41 b v1 v2 v3 v4 s0 = some (0, sMhi b 100 0 1) := fun s0 o => by
    unfold f_X9_addNumber_41 f_X9_addNumber_86
    rw [isItem_out h.1 o, bs, if_neg nn00]; rfl
  have ky : ∀ s0 i, i < Kn a → v1 = oN i → (¬ Kit a i 1 = 0 ∨ s0 = 0) → f_X9_addNumber_41 b v1 v2 v3 v4 s0 = some (0, sMhi b 100 0 2) := fun s0 i hi e o => by
    unfold f_X9_addNumber_41 f_X9_addNumber_69 f_X9_addNumber_86
    rw [e, isItem_in h.1 hi, bs, if_pos n10, isMenu_in h.1 hi, bs]
    by_cases k : Kit a i 1 = 0
    · rw [if_pos k, if_neg n10, if_neg (fun z => z (o.resolve_left (fun y => y k)))]; rfl
    · rw [if_neg k, if_pos rfl]; rfl
  have kz : f_X9_addNumber b v1 v2 v3 v4 = f_X9_addNumber_41 b v1 v2 v3 v4 0 ∨ (f_X9_addNumber b v1 v2 v3 v4 = f_X9_addNumber_41 b v1 v2 v3 v4 1 ∧ ¬ v2 < -999 ∧ ¬ 999 < v3 ∧ v2 < v3 ∧ ¬ v4 < 1 ∧ v4 ≤ 100) := by
    rcases lim_eq b v2 v3 v4 with ⟨w, rfl, a1, a2, a3, a4, a5, a6, a7, a8⟩ | ⟨-, a2⟩
    · refine Or.inr ⟨?_, a1, a2, a3, a4, a5⟩
      unfold f_X9_addNumber
      rw [a6, bs, if_neg n10, if_neg a7, if_neg a2, a8, bs, if_neg n10]
    · exact Or.inl (num_bad a2)
  rcases num_cases h.1 v1 with o | ⟨i, hi, e⟩
  · refine ⟨(1, a), (0, sMhi b 100 0 1), 1, ?_, ?_, rfl, rfl, fun q => absurd q n10, h.nx 1⟩
    · unfold f_L_addNumber f_X8_addNumber
      rw [men_out o]; rfl
    · rcases kz with z | ⟨z, -⟩
      · rw [z, kx 0 o]
      · rw [z, kx 1 o]
  · by_cases k : Kit a i 1 = 0
    · have hm := men_in h.1 hi k
      rw [← e] at hm
      rcases lim_eq b v2 v3 v4 with ⟨w, rfl, a1, a2, a3, a4, a5, a6, a7, a8⟩ | ⟨b1, b2⟩
      · have eM : f_X9_addNumber b v1 v2 v3 v4 = f_X9_addNumber_41 b v1 v2 v3 v4 1 := by
          unfold f_X9_addNumber
          rw [a6, bs, if_neg n10, if_neg a7, if_neg a2, a8, bs, if_neg n10]
        have c9 := h.1.2.2.2.2.2.2.1 i hi
        rcases can_eq h hi with ⟨m1, m2, m3, m4, m5, m6, m7⟩ | ⟨m1, m2⟩
        · have y1 : (1 : Int32).toInt = 1 := by decide
          have y2 : (999 : Int32).toInt = 999 := by decide
          have y3 : (-999 : Int32).toInt = -999 := by decide
          have y4 : (100 : Int32).toInt = 100 := by decide
          have q1 := a1; have q2 := a2; have q3 := a3; have q4 := a4; have q5 := a5
          rw [Int32.lt_iff_toInt_lt] at q1 q2 q3 q4
          rw [Int32.le_iff_toInt_le] at q5
          have hk9 : K9 (itF (oN (Kn a)) 1 (Kit a i 3 + 1) (oN (cnt (Kmn a) i (Kn a))) v2 v3 v4) := by
            refine Or.inr (Or.inl ⟨rfl, ?_, ?_, ?_, ?_, ?_⟩)
            · show -999 ≤ v2.toInt; omega
            · show v2.toInt < v3.toInt; omega
            · show v3.toInt ≤ 999; omega
            · show 1 ≤ v4.toInt; omega
            · show v4.toInt ≤ 100; omega
          have hr := add_rel (h.thr 0) m5 m6 m7 m2 hi k rfl m3 hk9 (by omega) (fun z => absurd z n10)
          refine ⟨(0, sKou (adA a i (cnt (Kmn a) i (Kn a)) 1 v2 v3 v4) 0 (oN (Kn a)).toInt64), (oN (Kn a), adB (sMhi b 100 0 0) (Kn a) 1 v2 v3 v4 (oN i)), 0, ?_, ?_, rfl, rfl, fun _ => rfl, (hr.kou 0 _).up⟩
          · unfold f_L_addNumber
            rw [num_K3 hm a1 a2 a3 a4 a5, added_K h m1 m2 hi c9.1 m3]; rfl
          · have cn : (oN (Kn a)).toNatClampNeg = Kn a := ofNat_cl (by omega)
            have bn : inb (oN (Kn a)) 24 = true := inb_oN m2 (by decide)
            have n2 : Mhi b 100 1 = oN (Kn a) := h.1.1.2.2.2
            rw [eM]
            unfold f_X9_addNumber_41 f_X9_addNumber_86
            rw [e, isItem_in h.1 hi, bs, if_pos n10, isMenu_in h.1 hi, bs, if_pos k, if_neg n10, if_pos n10, m4, bs, if_pos n10, holds_0, bs, if_pos n10]
            have n2' : Mhi (sMhi b 100 0 0) 100 1 = oN (Kn a) := n2
            simp (disch := decide) only [Mhi_np, n2', cn, gd_t bn]
            rw [adds_M (b := sMhi (sMhi (sMhi (sMhi (sMhi b 100 0 0) 104 (Kn a) v2) 105 (Kn a) v3) 106 (Kn a) v4) 107 (Kn a) v2) m2 n2]
            rfl
        · refine ⟨(3, a), (0, sMhi b 100 0 3), 3, ?_, ?_, rfl, rfl, fun q => absurd q n30, h.nx 3⟩
          · unfold f_L_addNumber
            rw [num_K3 hm a1 a2 a3 a4 a5, m2]; rfl
          · rw [eM]
            unfold f_X9_addNumber_41 f_X9_addNumber_86
            rw [e, isItem_in h.1 hi, bs, if_pos n10, isMenu_in h.1 hi, bs, if_pos k, if_neg n10, if_pos n10, m1, bs, if_neg nn00]; rfl
      · refine ⟨(2, a), (0, sMhi b 100 0 2), 2, ?_, ?_, rfl, rfl, fun q => absurd q n20, h.nx 2⟩
        · unfold f_L_addNumber
          rw [num_K2 hm b1]; rfl
        · rw [num_bad b2, ky 0 i hi e (Or.inr rfl)]
    · refine ⟨(2, a), (0, sMhi b 100 0 2), 2, ?_, ?_, rfl, rfl, fun q => absurd q n20, h.nx 2⟩
      · unfold f_L_addNumber f_X8_addNumber
        rw [e, men_no h.1 hi k]; rfl
      · rcases kz with z | ⟨z, -⟩
        · rw [z, ky 0 i hi e (Or.inl k)]
        · rw [z, ky 1 i hi e (Or.inl k)]
theorem s_2 : S_2 Rel := by
  intro j a b v1 v2 v3 v4 hj h
  have n01 : ¬ (0 : Int32) = 1 := by decide
  rcases num_cases h.1 v1 with o | ⟨i, hi, rfl⟩
  · refine ⟨(1, a), (0, sMhi b 100 0 1), 1, ?_, ?_, rfl, rfl, fun q => absurd q n10, h.nx 1⟩
    · unfold f_L_addChoice f_X8_addChoice
      rw [men_out o]; rfl
    · unfold f_X9_addChoice f_X9_addChoice_48
      rw [isItem_out h.1 o, bs, if_neg nn00]; rfl
  · by_cases k : Kit a i 1 = 0
    · have c9 := h.1.2.2.2.2.2.2.1 i hi
      by_cases a1 : v2 < 2
      · refine ⟨(2, a), (0, sMhi b 100 0 2), 2, ?_, ?_, rfl, rfl, fun q => absurd q n20, h.nx 2⟩
        · unfold f_L_addChoice f_X8_addChoice f_X8_addChoice_17
          rw [men_in h.1 hi k, bs, if_pos rfl, lt_e, if_pos a1]; rfl
        · unfold f_X9_addChoice f_X9_addChoice_31 f_X9_addChoice_48
          rw [isItem_in h.1 hi, bs, if_pos n10, isMenu_in h.1 hi, bs, if_pos k, if_neg n10, in_f (Or.inl a1), bs, if_neg nn00]; rfl
      · by_cases a2 : 9 < v2
        · refine ⟨(2, a), (0, sMhi b 100 0 2), 2, ?_, ?_, rfl, rfl, fun q => absurd q n20, h.nx 2⟩
          · unfold f_L_addChoice f_X8_addChoice f_X8_addChoice_17
            rw [men_in h.1 hi k, bs, if_pos rfl, lt_e, if_neg a1, if_neg (Int32.not_le.mpr a2)]; rfl
          · unfold f_X9_addChoice f_X9_addChoice_31 f_X9_addChoice_48
            rw [isItem_in h.1 hi, bs, if_pos n10, isMenu_in h.1 hi, bs, if_pos k, if_neg n10, in_f (Or.inr a2), bs, if_neg nn00]; rfl
        · obtain ⟨q, q1, q2, rfl⟩ := rng2 (lo := 2) (hi := 9) (by decide) (by decide) a1 a2
          have ep : oN q - 1 = oN (q - 1) := oN_pred (by omega)
          rcases can_eq h hi with ⟨m1, m2, m3, m4, m5, m6, m7⟩ | ⟨m1, m2⟩
          · have y1 : (oN (q - 1)).toInt = ((q - 1 : Nat) : Int) := ofNat_i32 (by omega)
            have y0 : (0 : Int32).toInt = 0 := by decide
            have hk9 : K9 (itF (oN (Kn a)) 2 (Kit a i 3 + 1) (oN (cnt (Kmn a) i (Kn a))) 0 (oN (q - 1)) 1) := by
              refine Or.inr (Or.inr ⟨rfl, rfl, ?_, ?_, rfl⟩)
              · show 1 ≤ (oN (q - 1)).toInt; omega
              · show (oN (q - 1)).toInt ≤ 8; omega
            have hr := add_rel (h.thr 0) m5 m6 m7 m2 hi k rfl m3 hk9 (by omega) (fun z => absurd z n20)
            obtain ⟨r1, r2, r3, r4, -⟩ := row_0 h.1 m2
            refine ⟨(0, sKou (adA a i (cnt (Kmn a) i (Kn a)) 2 0 (oN (q - 1)) 1) 0 (oN (Kn a)).toInt64), (oN (Kn a), adB (sMhi b 100 0 0) (Kn a) 2 0 (oN (q - 1)) 1 (oN i)), 0, ?_, ?_, rfl, rfl, fun _ => rfl, (hr.kou 0 _).up⟩
            · unfold f_L_addChoice f_X8_addChoice
              rw [men_in h.1 hi k, bs, if_pos rfl, lt_e, if_neg a1, if_pos (Int32.not_lt.mp a2), ep, added_K h m1 m2 hi c9.1 m3]; rfl
            · have cn : (oN (Kn a)).toNatClampNeg = Kn a := ofNat_cl (by omega)
              have bn : inb (oN (Kn a)) 24 = true := inb_oN m2 (by decide)
              have n2 : Mhi b 100 1 = oN (Kn a) := h.1.1.2.2.2
              unfold f_X9_addChoice f_X9_addChoice_48
              rw [isItem_in h.1 hi, bs, if_pos n10, isMenu_in h.1 hi, bs, if_pos k, if_neg n10, in_t a1 a2, bs, if_pos n10, m4, bs, if_pos n10, holds_0, bs, if_pos n10]
              have n2' : Mhi (sMhi b 100 0 0) 100 1 = oN (Kn a) := n2
              simp (disch := decide) only [Mhi_np, n2', cn, gd_t bn, ep]
              rw [adds_M (b := sMhi (sMhi (sMhi b 100 0 0) 105 (Kn a) (oN (q - 1))) 106 (Kn a) 1) m2 n2]
              unfold adB
              rw [Mhi_id (b := sMhi b 100 0 0) (p := 104) (i := Kn a) r1, Mhi_id (b := sMhi (sMhi (sMhi b 100 0 0) 105 (Kn a) (oN (q - 1))) 106 (Kn a) 1) (p := 107) (i := Kn a) r4]
              rfl
          · refine ⟨(3, a), (0, sMhi b 100 0 3), 3, ?_, ?_, rfl, rfl, fun q => absurd q n30, h.nx 3⟩
            · unfold f_L_addChoice f_X8_addChoice
              rw [men_in h.1 hi k, bs, if_pos rfl, lt_e, if_neg a1, if_pos (Int32.not_lt.mp a2), m2]; rfl
            · unfold f_X9_addChoice f_X9_addChoice_48
              rw [isItem_in h.1 hi, bs, if_pos n10, isMenu_in h.1 hi, bs, if_pos k, if_neg n10, in_t a1 a2, bs, if_pos n10, m1, bs, if_neg nn00]; rfl
    · refine ⟨(2, a), (0, sMhi b 100 0 2), 2, ?_, ?_, rfl, rfl, fun q => absurd q n20, h.nx 2⟩
      · unfold f_L_addChoice f_X8_addChoice
        rw [men_no h.1 hi k]; rfl
      · unfold f_X9_addChoice f_X9_addChoice_31 f_X9_addChoice_48
        rw [isItem_in h.1 hi, bs, if_pos n10, isMenu_in h.1 hi, bs, if_neg k, if_pos rfl]; rfl
