/-! ===== adding ===== -/
/-- the state while items are added -/
def AI (n : Nat) (a : KS) : Prop := (∃ b, Rel 500 a b) ∧ Khi a 10 10 = 0 ∧ HM a ∧ Kit a 0 11 = -1 ∧ Kn a ≤ n
theorem AI.li {n : Nat} {a : KS} (h : AI n a) : LI 0 a := ⟨h.1, ⟨0, Nat.le_refl _, h.2.1⟩, EO.m (by rw [h.2.2.1.1]; decide)⟩
theorem home_at {a : KS} {b : MS} (h : Rel 500 a b) (hm : HM a) : f_X2_atHome a = some 1 := by
  rcases home_K h.1 h.2.1 with ⟨k1, -⟩ | ⟨-, k2⟩
  · exact k1
  · exact absurd hm k2
theorem add_gen {n p : Nat} {a : KS} (h : AI n a) (hn : n < 24) (hp : p < Kn a) (hk : Kit a p 1 = 0) (c8 : cnt (Kmn a) p (Kn a) < 8) {kd lo hi st : Int32} (k9 : K9 (itF (oN (Kn a)) kd (Kit a p 3 + 1) (oN (cnt (Kmn a) p (Kn a))) lo hi st)) (hv : lo.toInt ≤ hi.toInt) (hl : kd = 0 → ∃ lv : Nat, lv ≤ 2 ∧ Kit a p 3 = oN lv) : ∃ A, f_X8_added a (some p) kd lo hi st = some (0, oN (Kn a), A) ∧ AI (n + 1) A ∧ Kn A = Kn a + 1 ∧ Kmn A (Kn a) = some p ∧ Kit A (Kn a) 11 = -1 := by
  obtain ⟨⟨b, hb⟩, h2, h3, h4, h5⟩ := h
  have hr := rt_n hb.1
  have hc9 := (hb.1.2.2.2.2.2.2.1 p hp).1
  have e := added_K (kd := kd) (lo := lo) (hi := hi) (st := st) hb (home_at hb h3) (by omega) hp hc9 c8
  have r := add_rel (st := st) hb h3.1 h3.2.1 h3.2.2.1 (by omega) hp hk rfl c8 k9 hv hl
  obtain ⟨A, hA⟩ : ∃ A, A = adA a p (cnt (Kmn a) p (Kn a)) kd lo hi st := ⟨_, rfl⟩
  rw [← hA] at e r
  have hkit : ∀ i m, Kit A i m = if i = p ∧ m = 9 then oN (cnt (Kmn a) p (Kn a) + 1) else if i = Kn a then itF (oN (Kn a)) kd (Kit a p 3 + 1) (oN (cnt (Kmn a) p (Kn a))) lo hi st m else Kit a i m := fun i m => by rw [hA]; rfl
  have hkn : Kn A = Kn a + 1 := by rw [hA]; rfl
  have d10 : Khi A 10 = Khi a 10 := by rw [hA]; rfl
  have new : ∀ m, m ≠ 9 → Kit A (Kn a) m = itF (oN (Kn a)) kd (Kit a p 3 + 1) (oN (cnt (Kmn a) p (Kn a))) lo hi st m := fun m hm => by
    rw [hkit, if_neg (fun z => hm z.2), if_pos rfl]
  have old : ∀ i, i < Kn a → ∀ m, m ≠ 9 → Kit A i m = Kit a i m := fun i hi m hm => by
    rw [hkit, if_neg (fun z => hm z.2), if_neg (by omega)]
  obtain ⟨-, -, -, -, -, -, -, -, -, f11, f12⟩ := itF_at (oN (Kn a)) kd (Kit a p 3 + 1) (oN (cnt (Kmn a) p (Kn a))) lo hi st
  refine ⟨A, e, ⟨⟨_, r⟩, by rw [d10]; exact h2, ⟨by rw [d10]; exact h3.1, by rw [hA]; exact h3.2.1, by rw [d10]; exact h3.2.2.1, fun i hi q => ?_⟩, by rw [old 0 (by omega) 11 (by decide)]; exact h4, by omega⟩, hkn, ?_, by rw [new 11 (by decide)]; exact f11⟩
  · unfold isOp at q
    by_cases g : i = Kn a
    · rw [g, new 11 (by decide), f11] at q
      exact q.1 rfl
    · rw [old i (by omega) 11 (by decide), old i (by omega) 12 (by decide)] at q
      exact h3.2.2.2 i (by omega) q
  · rw [hA]
    show (if Kn a = Kn a then some p else _) = some p
    rw [if_pos rfl]
theorem adds_193 {n : Nat} {A : KS} (h : AI n A) {i p : Nat} (hi : Kn A = i + 1) (i1 : 1 ≤ i) (hm : Kmn A i = some p) (hc : Kit A i 11 = -1) (v1 : Int32) : ∃ a', f_L_adds_193 A v1 (oN i) = some (1, a') ∧ AI n a' := by
  have hA := h
  obtain ⟨⟨b, hb⟩, h2, h3, h4, h5⟩ := h
  unfold f_L_adds_193
  rw [q_items hb.1, bs, hi, oN_pred (by omega), Nat.add_sub_cancel, if_neg (fun z => z rfl)]
  by_cases g : ((v1 >>> (13 &&& 31)) &&& 3) = 0
  · rw [if_neg (fun z => z g)]
    obtain ⟨m, m1, m2⟩ := up_q (x := v1 >>> (15 &&& 31)) (n := 3) (by decide) (by decide) A
    have hlt : i < Kn A := by omega
    have em : (oN m).toInt = m := ofNat_i32 (by omega)
    have el : f_X8_lock A (oN i) (oN m) = some (0, -1, sKit (sKit A i 11 (oN m)) i 12 0) := by
      unfold f_X8_lock f_X8_requireHome
      rw [num_in hb.1 hlt, bs, if_pos rfl, lt_e, odr_s hlt, lt_e, hm, ocs_s, if_neg (show ¬ oN m < -1 by rw [Int32.lt_iff_toInt_lt, em, show (-1 : Int32).toInt = -1 by decide]; omega), if_pos (show oN m ≤ 9999 by rw [show (9999 : Int32) = oN 9999 from rfl, oN_le (by omega) (by decide)]; omega), home_at hb h3, bs, if_pos n10, bs, if_pos rfl, lt_e, gd_t (by decide), hc]
    rw [show f_L_up A (v1 >>> (15 &&& 31)) 3 = some (oN m) from m2, bs, el, bs, gd_d rfl, if_neg (show ¬ ¬ (-1 : Int32) = -1 from fun z => z rfl)]
    refine ⟨_, rfl, ⟨_, lock_rel hb hlt (oN m)⟩, h2, ⟨h3.1, h3.2.1, h3.2.2.1, fun k hk q => ?_⟩, ?_, h5⟩
    · unfold isOp at q
      by_cases g2 : k = i
      · rw [g2, Kit_e, if_pos rfl] at q
        exact q.2 rfl
      · rw [Kit_n (by decide), Kit_e, if_neg g2, Kit_e, if_neg g2, Kit_n (by decide)] at q
        exact h3.2.2.2 k hk q
    · rw [Kit_n (by decide), Kit_e, if_neg (by omega)]
      exact h4
  · rw [if_pos g]
    exact ⟨A, rfl, hA⟩
/-- the menu is chosen -/
theorem adds_7 {n : Nat} {a : KS} (h : AI n a) (v1 : Int32) : ∀ (fuel k p : Nat), k ≤ Kn a → Kn a - k < fuel → (p < Kn a ∧ Kit a p 1 = 0 ∧ ∃ l : Nat, l ≤ 2 ∧ Kit a p 3 = oN l) → ∃ p', (p' < Kn a ∧ Kit a p' 1 = 0 ∧ ∃ l : Nat, l ≤ 2 ∧ Kit a p' 3 = oN l) ∧ l_L_adds_7 fuel a v1 (oN p) 0 (oN k) = l_L_adds_61 FU a v1 (oN p') 0 1 := by
  obtain ⟨⟨b, hb⟩, -⟩ := h
  have hn := rt_n hb.1
  intro fuel
  induction fuel with
  | zero => intro k p _ q; omega
  | succ f ih =>
    intro k p k1 k2 hp
    have e1 : l_L_adds_7 (f + 1) a v1 (oN p) 0 (oN k) = f_L_adds_7 (l_L_adds_7 f) a v1 (oN p) 0 (oN k) := rfl
    rw [e1]
    unfold f_L_adds_7
    rw [q_items hb.1, bs]
    by_cases g : k = Kn a
    · subst g
      rw [if_pos (Int32.le_refl _)]
      exact ⟨p, hp, rfl⟩
    · have hk : k < Kn a := by omega
      have n50 : f_L_adds_50 (l_L_adds_7 f) a v1 (oN p) 0 (oN k) = l_L_adds_7 f a v1 (oN p) 0 (oN (k + 1)) := by
        unfold f_L_adds_50 f_L_adds_51
        rw [oN_succ]
      have n51 : f_L_adds_51 (l_L_adds_7 f) a v1 0 (oN k) (oN k) = l_L_adds_7 f a v1 (oN k) 0 (oN (k + 1)) := by
        unfold f_L_adds_51
        rw [oN_succ]
      obtain ⟨m, m1, m2⟩ := up_q (x := v1 >>> (3 &&& 31)) (n := 4) (by decide) (by decide) a
      obtain ⟨l, l1, l2, -⟩ := lev hb.1 hk
      rw [if_neg (show ¬ oN (Kn a) ≤ oN k by rw [oN_le (by omega) (by omega)]; omega), q_kind hb.1 hk, bs, gd_d rfl, n50, n51]
      by_cases g1 : Kit a k 1 = 0
      · rw [if_neg (fun z => z g1), q_presses hb.1 hk, bs, gd_d rfl]
        by_cases g2 : 3 ≤ l
        · rw [if_pos (show (3 : Int32) ≤ Kit a k 3 by rw [l2, show (3 : Int32) = oN 3 from rfl, oN_le (by decide) (by omega)]; exact g2)]
          exact ih (k + 1) p (by omega) (by omega) hp
        · rw [if_neg (show ¬ (3 : Int32) ≤ Kit a k 3 by rw [l2, show (3 : Int32) = oN 3 from rfl, oN_le (by decide) (by omega)]; exact g2), show f_L_up a (v1 >>> (3 &&& 31)) 4 = some (oN m) from m2, bs]
          by_cases g3 : oN m = 0
          · rw [if_pos g3]
            exact ih (k + 1) p (by omega) (by omega) hp
          · rw [if_neg g3]
            exact ih (k + 1) k (by omega) (by omega) ⟨hk, g1, l, by omega, l2⟩
      · rw [if_pos g1]
        exact ih (k + 1) p (by omega) (by omega) hp
/-- .. how many items it has; then the item is added -/
theorem adds_add {n : Nat} {a : KS} (h : AI n a) (hn : n < 24) (v1 : Int32) {p : Nat} (hp : p < Kn a ∧ Kit a p 1 = 0 ∧ ∃ l : Nat, l ≤ 2 ∧ Kit a p 3 = oN l) (c : KS → Int32 → Int32 → Int32 → Int32 → Option (Int32 × KS)) : ∃ a', f_L_adds_61 c a v1 (oN p) (oN (cnt (Kmn a) p (Kn a))) (oN (Kn a)) = some (1, a') ∧ AI (n + 1) a' := by
  have hA := h
  obtain ⟨⟨b, hb⟩, h2, h3, h4, h5⟩ := h
  have hr := rt_n hb.1
  obtain ⟨hp1, hp2, l, l1, l2⟩ := hp
  have c8 := (hb.1.2.2.2.2.2.2.1 p hp1).2
  unfold f_L_adds_61
  rw [q_items hb.1, bs, if_pos (Int32.le_refl _)]
  by_cases g : cnt (Kmn a) p (Kn a) = 8
  · rw [g, if_neg (show ¬ ¬ oN 8 = 8 from fun z => z rfl)]
    exact ⟨a, rfl, ⟨b, hb⟩, h2, h3, h4, by omega⟩
  · rw [if_pos (show ¬ oN (cnt (Kmn a) p (Kn a)) = 8 from fun z => g (oN_inj (y := 8) (by omega) (by decide) z))]
    obtain ⟨q, q1, q2⟩ := up_q (x := v1 >>> (5 &&& 31)) (n := 200) (by decide) (by decide) a
    obtain ⟨w, w1, w2⟩ := up_q (x := v1) (n := 3) (by decide) (by decide) a
    obtain ⟨x, x1, x2⟩ := up_q (x := v1 >>> (6 &&& 31)) (n := 8) (by decide) (by decide) a
    obtain ⟨y, y1, y2⟩ := up_q (x := v1 >>> (8 &&& 31)) (n := 300) (by decide) (by decide) a
    obtain ⟨z, z1, z2⟩ := up_q (x := v1 >>> (10 &&& 31)) (n := 9) (by decide) (by decide) a
    have zz : (0 : Int32).toInt = 0 := by decide
    have fin : ∀ {A : KS}, AI (n + 1) A → Kn A = Kn a + 1 → Kmn A (Kn a) = some p → Kit A (Kn a) 11 = -1 → ∃ a', gd (decide (Kn a ≤ Kn A)) (f_L_adds_193 A v1 (oN (Kn a))) = some (1, a') ∧ AI (n + 1) a' := by
      intro A k1 k2 k3 k4
      rw [gd_d (show Kn a ≤ Kn A by omega)]
      exact adds_193 k1 k2 hr.1 k3 k4 v1
    rw [show f_L_up a (v1 >>> (5 &&& 31)) 200 = some (oN q) from q2, bs, lt_e, show f_L_up a v1 3 = some (oN w) from w2, bs]
    by_cases g0 : w = 0
    · subst g0
      obtain ⟨A, e1, e2, e3, e4, e5⟩ := add_gen hA hn hp1 hp2 (by omega) (kd := 0) (lo := 0) (hi := 0) (st := 0) (Or.inl ⟨rfl, rfl, rfl, rfl⟩) (Int.le_refl _) (fun _ => ⟨l, l1, l2⟩)
      have ea : f_X8_addMenu a (oN p) = some (0, oN (Kn a), A) := by
        unfold f_X8_addMenu
        rw [men_in hb.1 hp1 hp2, bs, if_pos rfl, lt_e, odr_s hp1, l2, if_pos (show oN l < 3 from (oN_lt (y := 3) (by omega) (by decide)).mpr (by omega)), e1, bs, if_pos rfl]
      rw [if_neg (show ¬ ¬ oN 0 = 0 from fun z => z rfl), ea, bs, gd_d rfl]
      exact fin e2 e3 e4 e5
    · rw [if_pos (show ¬ oN w = 0 from fun z => g0 (oN_inj (y := 0) (by omega) (by decide) z)), bs]
      by_cases g1 : w = 1
      · subst g1
        have ex : (oN q - 100).toInt = (q : Int) - 100 := sub_i32 (y := 100) (by omega) (by decide)
        have ey : (oN q - 100 + 1 + oN y).toInt = (q : Int) - 100 + 1 + y := by
          rw [Int32.toInt_add, Int32.toInt_add, ex, ofNat_i32 (by omega), show (1 : Int32).toInt = 1 by decide, Int.bmod_eq_of_le (n := (q : Int) - 100 + 1) (by omega) (by omega), Int.bmod_eq_of_le (by omega) (by omega)]
        have ez : (1 : Int32) + oN z = oN (1 + z) := oN_add 1 z
        have ez2 : (oN (1 + z)).toInt = ((1 + z : Nat) : Int) := ofNat_i32 (by omega)
        have m9 : (-999 : Int32).toInt = -999 := by decide
        have p9 : (999 : Int32).toInt = 999 := by decide
        obtain ⟨lo, hlo⟩ : ∃ lo, lo = oN q - 100 := ⟨_, rfl⟩
        rw [← hlo] at ex ey
        obtain ⟨hi, hhi⟩ : ∃ hi, hi = lo + 1 + oN y := ⟨_, rfl⟩
        rw [← hhi] at ey
        obtain ⟨A, e1, e2, e3, e4, e5⟩ := add_gen hA hn hp1 hp2 (by omega) (kd := 1) (lo := lo) (hi := hi) (st := oN (1 + z)) (Or.inr (Or.inl ⟨rfl, by show -999 ≤ lo.toInt; omega, by show lo.toInt < hi.toInt; omega, by show hi.toInt ≤ 999; omega, by show 1 ≤ (oN (1 + z)).toInt; omega, by show (oN (1 + z)).toInt ≤ 100; omega⟩)) (by omega) (fun z => absurd z n10)
        have ea : f_X8_addNumber a (oN p) lo hi (oN (1 + z)) = some (0, oN (Kn a), A) := by
          unfold f_X8_addNumber
          rw [men_in hb.1 hp1 hp2, bs, if_pos rfl, lt_e, if_neg (show ¬ lo < -999 by rw [Int32.lt_iff_toInt_lt]; omega), if_neg (show ¬ 999 < hi by rw [Int32.lt_iff_toInt_lt]; omega), if_pos (show lo < hi by rw [Int32.lt_iff_toInt_lt]; omega), if_neg (show ¬ oN (1 + z) < 1 by rw [show (1 : Int32) = oN 1 from rfl, oN_lt (by omega) (by decide)]; omega), if_pos (show oN (1 + z) ≤ 100 by rw [show (100 : Int32) = oN 100 from rfl, oN_le (by omega) (by decide)]; omega), e1, bs, if_pos rfl]
        rw [if_neg (show ¬ ¬ oN 1 = 1 from fun z => z rfl), show f_L_up a (v1 >>> (8 &&& 31)) 300 = some (oN y) from y2, bs, show f_L_up a (v1 >>> (10 &&& 31)) 9 = some (oN z) from z2, bs, ez, ← hlo, ← hhi, ea, bs, gd_d rfl]
        exact fin e2 e3 e4 e5
      · have ex : (2 : Int32) + oN x = oN (2 + x) := oN_add 2 x
        have e1x : oN (2 + x) - 1 = oN (1 + x) := by rw [oN_pred (by omega), show 2 + x - 1 = 1 + x by omega]
        have ev : (oN (1 + x)).toInt = ((1 + x : Nat) : Int) := ofNat_i32 (by omega)
        obtain ⟨A, e1, e2, e3, e4, e5⟩ := add_gen hA hn hp1 hp2 (by omega) (kd := 2) (lo := 0) (hi := oN (1 + x)) (st := 1) (Or.inr (Or.inr ⟨rfl, rfl, by show 1 ≤ (oN (1 + x)).toInt; omega, by show (oN (1 + x)).toInt ≤ 8; omega, rfl⟩)) (by omega) (fun z => absurd z n20)
        have ea : f_X8_addChoice a (oN p) (oN (2 + x)) = some (0, oN (Kn a), A) := by
          unfold f_X8_addChoice
          rw [men_in hb.1 hp1 hp2, bs, if_pos rfl, lt_e, if_neg (show ¬ oN (2 + x) < 2 by rw [show (2 : Int32) = oN 2 from rfl, oN_lt (by omega) (by decide)]; omega), if_pos (show oN (2 + x) ≤ 9 by rw [show (9 : Int32) = oN 9 from rfl, oN_le (by omega) (by decide)]; omega), e1x, e1, bs, if_pos rfl]
        rw [if_pos (show ¬ oN w = 1 from fun z => g1 (oN_inj (y := 1) (by omega) (by decide) z)), show f_L_up a (v1 >>> (6 &&& 31)) 8 = some (oN x) from x2, bs, ex, ea, bs, gd_d rfl]
        exact fin e2 e3 e4 e5
theorem adds_61 {n : Nat} {a : KS} (h : AI n a) (hn : n < 24) (v1 : Int32) {p : Nat} (hp : p < Kn a ∧ Kit a p 1 = 0 ∧ ∃ l : Nat, l ≤ 2 ∧ Kit a p 3 = oN l) : ∀ (fuel k : Nat), 1 ≤ k → k ≤ Kn a → Kn a - k < fuel → ∃ a', l_L_adds_61 fuel a v1 (oN p) (oN (cnt (Kmn a) p k)) (oN k) = some (1, a') ∧ AI (n + 1) a' := by
  obtain ⟨b, hb⟩ := h.1
  have hr := rt_n hb.1
  intro fuel
  induction fuel with
  | zero => intro k _ _ q; omega
  | succ f ih =>
    intro k k1 k2 k3
    have e1 : l_L_adds_61 (f + 1) a v1 (oN p) (oN (cnt (Kmn a) p k)) (oN k) = f_L_adds_61 (l_L_adds_61 f) a v1 (oN p) (oN (cnt (Kmn a) p k)) (oN k) := rfl
    rw [e1]
    by_cases g : k = Kn a
    · rw [g]
      exact adds_add h hn v1 hp _
    · have hk : k < Kn a := by omega
      obtain ⟨m, p1, p2, -⟩ := par hb.1 k1 hk
      unfold f_L_adds_61 f_L_adds_86
      rw [q_items hb.1, bs, if_neg (show ¬ oN (Kn a) ≤ oN k by rw [oN_le (by omega) (by omega)]; omega), q_menu hb.1 hk (by omega) p2, bs, gd_d rfl]
      by_cases g2 : m = p
      · subst g2
        rw [if_neg (fun z => z rfl), lt_e, oN_succ, oN_succ, ← cnt_hit k1 p2]
        exact ih (k + 1) (by omega) (by omega) (by omega)
      · rw [if_pos (show ¬ oN m = oN p from fun z => g2 (oN_inj (by omega) (by have := hp.1; omega) z)), lt_e, Int32.add_zero, oN_succ, ← cnt_miss (mn := Kmn a) (p := p) (i := k) (fun z => g2 (Option.some.inj (p2.symm.trans z.2)))]
        exact ih (k + 1) (by omega) (by omega) (by omega)
theorem adds_ok {n : Nat} {a : KS} (h : AI n a) (hn : n < 24) (v1 : Int32) : ∃ a', f_L_adds a v1 = some (1, a') ∧ AI (n + 1) a' := by
  obtain ⟨b, hb⟩ := h.1
  have hr := rt_n hb.1
  unfold f_L_adds
  obtain ⟨p, hp, e⟩ := adds_7 h v1 FU 0 0 (Nat.zero_le _) (by rw [FU_e]; omega) ⟨by omega, hb.1.2.2.2.1.2.2.2, 0, by decide, hb.1.2.2.2.1.2.2.1⟩
  have e61 := adds_61 h hn v1 hp FU 1 (Nat.le_refl _) hr.1 (by rw [FU_e]; omega)
  rw [show l_L_adds_7 FU a v1 0 0 0 = _ from e]
  rw [cnt_one] at e61
  exact e61
