/-! ===== the display: names, lines ===== -/
theorem bind_some' {α : Type} (x : Option α) : x.bind (fun z => some z) = x := by cases x <;> rfl
theorem mabs_q {v : Int32} (h1 : -999 ≤ v.toInt) (h2 : v.toInt ≤ 999) : ∃ q, q < 1000 ∧ mabs v = oN q := by
  have z0 : (0 : Int32).toInt = 0 := by decide
  have hm : (mabs v).toInt = if 0 ≤ v.toInt then v.toInt else - v.toInt := by
    unfold mabs
    by_cases g : 0 ≤ v
    · have g' := Int32.le_iff_toInt_le.mp g
      rw [z0] at g'
      rw [if_pos g, if_pos g']
    · have g' : ¬ 0 ≤ v.toInt := fun q => g (Int32.le_iff_toInt_le.mpr (by rw [z0]; exact q))
      rw [if_neg g, if_neg g', Int32.toInt_sub, z0, Int.bmod_eq_of_le (by omega) (by omega)]
      omega
  refine ⟨v.toInt.natAbs, by omega, i32_ext ?_⟩
  rw [hm, ofNat_i32 (by omega)]
  by_cases g : 0 ≤ v.toInt
  · rw [if_pos g]; omega
  · rw [if_neg g]; omega
theorem val_q {it : Nat → Int32} {v : Int32} (h : K9 it) (hv : VR it v) : ∃ q, q < 1000 ∧ mabs v = oN q := by
  obtain ⟨v1, v2⟩ := hv
  have z0 : (0 : Int32).toInt = 0 := by decide
  rcases h with ⟨-, x1, x2, -⟩ | ⟨-, x1, x2, x3, -⟩ | ⟨-, x1, x2, x3, -⟩
  · rw [x1] at v1; rw [x2] at v2
    exact mabs_q (by omega) (by omega)
  · exact mabs_q (by omega) (by omega)
  · rw [x1] at v1
    exact mabs_q (by omega) (by omega)
theorem names_l {b : MS} {i s s0 : Nat} {kd : Int32} (hi : i < 24) (hs : s0 < 8) (hk : Mhi b 102 i = kd) (hg : ∀ (b : MS) (c : Nat), c < s0 → f_X9_signOf b kd (oN c) = some (ss s c)) : ∀ (fuel c : Nat) (g : Nat → Int32), c ≤ s0 → s0 - c < fuel → l_X9_names_17 fuel (sm b g) (oN i) (oN s0) (oN c) = f_X9_writes (sm b (wf 0 (ss s) c (s0 - c) g)) (oN i) (oN (s0 + 1)) := by
  intro fuel
  induction fuel with
  | zero => intro c g _ h; omega
  | succ n ih =>
    intro c g h1 h2
    have e0 : l_X9_names_17 (n + 1) (sm b g) (oN i) (oN s0) (oN c) = f_X9_names_17 (l_X9_names_17 n) (sm b g) (oN i) (oN s0) (oN c) := rfl
    rw [e0]
    unfold f_X9_names_17
    by_cases z : s0 ≤ c
    · rw [if_pos (show oN s0 ≤ oN c from (oN_le (by omega) (by omega)).mpr z), bind_some', oN_succ, show s0 - c = 0 by omega]
      rfl
    · rw [if_neg (show ¬ oN s0 ≤ oN c from fun y => z ((oN_le (by omega) (by omega)).mp y)), gd_t (inb_oN hi (by decide)), show (oN i).toNatClampNeg = i from ofNat_cl (by omega), show Mhi (sm b g) 102 i = Mhi b 102 i from rfl, hk, hg _ c (by omega), bs, gd_t (inb_oN (show c < 16 by omega) (by decide)), show (oN c).toNatClampNeg = c from ofNat_cl (by omega), sm_set, oN_succ, ih (c + 1) _ (by omega) (by omega)]
      obtain ⟨m, hm⟩ : ∃ m, s0 - c = m + 1 := ⟨s0 - c - 1, by omega⟩
      rw [hm, show s0 - (c + 1) = m by omega]
      show _ = f_X9_writes (sm b (wf 0 (ss s) (c + 1) m (wr g (0 + c) (ss s c)))) _ _
      rw [Nat.zero_add]
/-- a string of the class and a number behind it -/
theorem named {a : KS} {b : MS} {r s s0 i : Nat} (hr : r < 2) (hs : s < 5) (hi : i < 24) (h6 : s0 ≤ 6) (hl : scrN.getD s 0 = s0 + 1) (sp : ss s s0 = 32) {f g : Nat → Int32} (he : EQ r f g) (hb : BL 0 g) (hc : CH f) : ∃ f' g', f_X6_writeNumbered (sc a f) (oN r) s (oN i) = some (sc a f') ∧ f_X9_writes (sm b (wf 0 (ss s) 0 s0 g)) (oN i) (oN (s0 + 1)) = some (sm b g') ∧ EQ r f' g' ∧ BL 9 g' ∧ OT r f f' ∧ CH f' := by
  have e1 : EQ r (wf (16 * r) (ss s) 0 (s0 + 1) f) (wf 0 (ss s) 0 s0 g) := by
    rw [wf_last]
    refine E_k (c := s0) (E_wf s0 0 f g he) ?_
    rw [wf_n s0 0 s0 g (Or.inr (by omega)), Nat.zero_add, sp]
    exact hb s0 (by omega) (by omega)
  have b1 : BL 9 (wf 0 (ss s) 0 s0 g) := BL_wf s0 0 g (BL_up hb (by omega)) (by omega)
  have o1 : OT r f (wf (16 * r) (ss s) 0 (s0 + 1) f) := OT_wf (s0 + 1) 0 f (by omega)
  have c1 : CH (wf (16 * r) (ss s) 0 (s0 + 1) f) := CH_wf (s0 + 1) 0 f hc (fun i _ h => ss_chr (by omega) i (by omega))
  have bk : ∀ m, s0 ≤ m → m < 16 → wf 0 (ss s) 0 s0 g m = 32 := fun m m1 m2 => by
    rw [wf_n s0 0 m g (Or.inr (by omega))]
    exact hb m (by omega) m2
  rw [numd_K hr hs hi, writes_M hi (by omega), hl]
  by_cases z : i < 10
  · rw [if_pos z, if_pos z]
    obtain ⟨x, x1, x2⟩ := dg_chr z
    refine ⟨_, _, rfl, rfl, E_m (E_wr e1) ?_, BL_wr (BL_wr b1 (by omega)) (by omega), OT_tr o1 (OT_wr (by omega)), CH_wr c1 x1 x2⟩
    rw [wr_n (by omega)]
    exact bk _ (by omega) (by omega)
  · rw [if_neg z, if_neg z]
    obtain ⟨x, x1, x2⟩ := dg_chr (show i % 10 < 10 by omega)
    obtain ⟨y, y1, y2⟩ := dg_chr (show i / 10 < 10 by omega)
    refine ⟨_, _, rfl, rfl, ?_, BL_wr (BL_wr b1 (by omega)) (by omega), OT_tr (OT_tr o1 (OT_wr (by omega))) (OT_wr (by omega)), CH_wr (CH_wr c1 x1 x2) y1 y2⟩
    rw [wr_comm (by omega)]
    exact E_wr (E_wr e1)
theorem sg_0 : ∀ (b : MS) (c : Nat), c < 4 → f_X9_signOf b 0 (oN c) = some (ss 2 c)
  | _, 0, _ => rfl
  | _, 1, _ => rfl
  | _, 2, _ => rfl
  | _, 3, _ => rfl
  | _, c + 4, h => by omega
theorem sg_1 : ∀ (b : MS) (c : Nat), c < 6 → f_X9_signOf b 1 (oN c) = some (ss 3 c)
  | _, 0, _ => rfl
  | _, 1, _ => rfl
  | _, 2, _ => rfl
  | _, 3, _ => rfl
  | _, 4, _ => rfl
  | _, 5, _ => rfl
  | _, c + 6, h => by omega
theorem sg_2 : ∀ (b : MS) (c : Nat), c < 6 → f_X9_signOf b 2 (oN c) = some (ss 4 c)
  | _, 0, _ => rfl
  | _, 1, _ => rfl
  | _, 2, _ => rfl
  | _, 3, _ => rfl
  | _, 4, _ => rfl
  | _, 5, _ => rfl
  | _, c + 6, h => by omega
theorem name_eq {j : Nat} {a : KS} {b : MS} (h : Rel j a b) {i r : Nat} (hi : i < Kn a) (hr : r < 2) {f g : Nat → Int32} (he : EQ r f g) (hb : BL 0 g) (hc : CH f) : ∃ f' g', f_X6_writeName (sc a f) (oN r) (some i) = some (sc a f') ∧ f_X9_names (sm b g) (oN i) = some (sm b g') ∧ EQ r f' g' ∧ BL 9 g' ∧ OT r f f' ∧ CH f' := by
  have hn := rt_n h.1
  have it := it_at h.1 hi
  have hm : RTs a (sm b g) := h.1
  unfold f_X6_writeName f_X9_names f_X9_names_14
  rw [odr_s (show i < Kn (sc a f) from hi), show Kit (sc a f) i 1 = Kit a i 1 from rfl, show Kit (sc a f) i 0 = Kit a i 0 from rfl, it.1, isMenu_in hm hi, bs]
  rcases (h.1.2.2.2.2.2.2.2.1 i hi).1 with ⟨k, -⟩ | ⟨k, -⟩ | ⟨k, -⟩
  · rw [k, if_neg nn00, if_pos rfl, if_neg n10, bind_some']
    rw [show l_X9_names_17 FU (sm b g) (oN i) 4 0 = _ from names_l (b := b) (s := 2) (s0 := 4) (kd := 0) (by omega) (by decide) (it.2.1.symm.trans k) sg_0 FU 0 g (by decide) (by decide)]
    exact named hr (by decide) (by omega) (by decide) rfl rfl he hb hc
  · rw [k, if_pos n10, if_neg nn11, if_neg n10, if_pos rfl, bind_some']
    rw [show l_X9_names_17 FU (sm b g) (oN i) 6 0 = _ from names_l (b := b) (s := 3) (s0 := 6) (kd := 1) (by omega) (by decide) (it.2.1.symm.trans k) sg_1 FU 0 g (by decide) (by decide)]
    exact named hr (by decide) (by omega) (by decide) rfl rfl he hb hc
  · rw [k, if_pos n20, if_pos (show ¬ (2 : Int32) = 1 by decide), if_neg n20, if_pos rfl, bind_some']
    rw [show l_X9_names_17 FU (sm b g) (oN i) 6 0 = _ from names_l (b := b) (s := 4) (s0 := 6) (kd := 2) (by omega) (by decide) (it.2.1.symm.trans k) sg_2 FU 0 g (by decide) (by decide)]
    exact named hr (by decide) (by omega) (by decide) rfl rfl he hb hc
theorem begins_M {b : MS} {g : Nat → Int32} {x y z w : Int32} : f_X9_begins (sm b g) x y z w = some (sm b (wr (wr (wr (wr g 0 x) 1 y) 2 z) 3 w)) := by
  rw [← sm_set, ← sm_set, ← sm_set, ← sm_set]; rfl
theorem title_eq {a : KS} {b : MS} {i s : Nat} (hi : i < 24) (hik : i < Kn a) (h0 : Kit a i 0 = oN i) (hs : s = 0 ∨ s = 1) {f g : Nat → Int32} (he : EQ 0 f g) (hb : BL 0 g) (hc : CH f) : ∃ f' g', f_X6_writeTitle (sc a f) s (some i) = some (sc a f') ∧ f_X9_writes (sm b (wf 0 (ss s) 0 4 g)) (oN i) 5 = some (sm b g') ∧ EQ 0 f' g' ∧ BL 9 g' ∧ OT 0 f f' ∧ CH f' := by
  unfold f_X6_writeTitle
  rw [ocs_s, gd_d (show i < Kn (sc a f) from hik), show Kit (sc a f) i 0 = Kit a i 0 from rfl, h0, bind_some']
  rcases hs with rfl | rfl
  · exact named (r := 0) (by decide) (by decide) hi (by decide) rfl rfl he hb hc
  · exact named (r := 0) (by decide) (by decide) hi (by decide) rfl rfl he hb hc
theorem lay_l {b : MS} {v : Int32} : ∀ (fuel k : Nat) (g : Nat → Int32), (∀ i, i < k → g i = 32) → k ≤ 16 → 16 - k < fuel → ∃ g', BL 0 g' ∧ l_X9_lays_2 fuel (sm b g) v (oN k) = if ¬ v = 0 then f_X9_secondLine (sm b g') else f_X9_firstLine (sm b g') := by
  intro fuel
  induction fuel with
  | zero => intro k g _ _ h; omega
  | succ n ih =>
    intro k g h1 h2 h3
    have e0 : l_X9_lays_2 (n + 1) (sm b g) v (oN k) = f_X9_lays_2 (l_X9_lays_2 n) (sm b g) v (oN k) := rfl
    rw [e0]
    unfold f_X9_lays_2
    by_cases z : k = 16
    · subst z
      rw [if_pos (show (16 : Int32) ≤ oN 16 from Int32.le_refl _), bind_some', bind_some']
      exact ⟨g, fun i _ hi => h1 i hi, rfl⟩
    · rw [if_neg (show ¬ (16 : Int32) ≤ oN k from fun y => by rw [show (16 : Int32) = oN 16 from rfl, oN_le (by decide) (by omega)] at y; omega), gd_t (inb_oN (show k < 16 by omega) (by decide)), ofNat_cl (by omega), sm_set, oN_succ]
      refine ih (k + 1) _ (fun i hi => ?_) (by omega) (by omega)
      by_cases y : i = k
      · rw [y, wr_e]
      · rw [wr_n y]; exact h1 i (by omega)
theorem lays_in (b : MS) (v : Int32) : ∃ g, BL 0 g ∧ f_X9_lays b v = if ¬ v = 0 then f_X9_secondLine (sm b g) else f_X9_firstLine (sm b g) := by
  obtain ⟨g, g1, g2⟩ := lay_l (b := b) (v := v) FU 0 (Mhi b 131) (fun i hi => by omega) (by decide) (by decide)
  refine ⟨g, g1, ?_⟩
  rw [sm_id] at g2
  exact g2
theorem clear_l {a : KS} : ∀ (fuel k : Nat) (f : Nat → Int32), (∀ i, i < k → f i = 32) → k ≤ 32 → 32 - k < fuel → ∃ f', (∀ i, i < 32 → f' i = 32) ∧ l_X6_clear_2 fuel (sc a f) (oN k) = some (sc a f') := by
  intro fuel
  induction fuel with
  | zero => intro k f _ _ h; omega
  | succ n ih =>
    intro k f h1 h2 h3
    have e0 : l_X6_clear_2 (n + 1) (sc a f) (oN k) = f_X6_clear_2 (l_X6_clear_2 n) (sc a f) (oN k) := rfl
    rw [e0]
    unfold f_X6_clear_2
    by_cases z : k = 32
    · subst z
      rw [if_pos (show (32 : Int32) ≤ oN 32 from Int32.le_refl _)]
      exact ⟨f, h1, rfl⟩
    · rw [if_neg (show ¬ (32 : Int32) ≤ oN k from fun y => by rw [show (32 : Int32) = oN 32 from rfl, oN_le (by decide) (by omega)] at y; omega), gd_t (inb_oN (show k < 32 by omega) (by decide)), ofNat_cl (by omega), sc_set, oN_succ]
      refine ih (k + 1) _ (fun i hi => ?_) (by omega) (by omega)
      by_cases y : i = k
      · rw [y, wr_e]; rfl
      · rw [wr_n y]; exact h1 i (by omega)
theorem clear_K (a : KS) : ∃ f, (∀ i, i < 32 → f i = 32) ∧ f_X6_clear a = some (sc a f) := by
  obtain ⟨f, f1, f2⟩ := clear_l (a := a) FU 0 (Khi a 15) (fun i hi => by omega) (by decide) (by decide)
  refine ⟨f, f1, ?_⟩
  rw [sc_id] at f2
  exact f2
/-- the digits of a code -/
theorem digs_l {j : Nat} {a : KS} {b : MS} (h : Rel j a b) : ∀ (fuel k : Nat) (f g : Nat → Int32), k ≤ 4 → 4 - k < fuel → EQ 1 f g → CH f → ∃ f' g', l_X6_writeDigits_2 fuel (sc a f) (oN k) = some (sc a f') ∧ l_X9_secondLine_27 fuel (sm b g) (oN k) = some (sm b g') ∧ EQ 1 f' g' ∧ OT 1 f f' ∧ CH f' := by
  obtain ⟨q, q1, q2, q3⟩ := h.2.1.2.2.2.1
  have dgs := h.2.1.2.2.2.2.2.2.2.1
  intro fuel
  induction fuel with
  | zero => intro k f g _ h; omega
  | succ n ih =>
    intro k f g h1 h2 he hc
    have e1 : l_X6_writeDigits_2 (n + 1) (sc a f) (oN k) = f_X6_writeDigits_2 (l_X6_writeDigits_2 n) (sc a f) (oN k) := rfl
    have e2 : l_X9_secondLine_27 (n + 1) (sm b g) (oN k) = f_X9_secondLine_27 (l_X9_secondLine_27 n) (sm b g) (oN k) := rfl
    rw [e1, e2]
    unfold f_X6_writeDigits_2 f_X6_writeDigits_60 f_X9_secondLine_27 f_X9_secondLine_72
    rw [show Khi (sc a f) 10 9 = Khi a 10 9 from rfl, show Mhi (sm b g) 100 15 = Mhi b 100 15 from rfl, q2, q3]
    by_cases z : k = 4
    · subst z
      rw [if_pos (show (4 : Int32) ≤ oN 4 from Int32.le_refl _), if_pos (show (4 : Int32) ≤ oN 4 from Int32.le_refl _)]
      exact ⟨f, g, rfl, rfl, he, OT_rf, hc⟩
    · have g4 : ¬ (4 : Int32) ≤ oN k := fun y => by rw [show (4 : Int32) = oN 4 from rfl, oN_le (by decide) (by omega)] at y; omega
      have b16 : inb (oN k) 16 = true := inb_oN (by omega) (by decide)
      have b4 : inb (oN k) 4 = true := inb_oN (by omega) (by decide)
      have ck : (oN k).toNatClampNeg = k := ofNat_cl (by omega)
      have pt : ∀ v, f_X6_put (sc a f) 1 (oN k) v = some (sc a (wr f (16 * 1 + k) (vp_nar .char v))) := fun v => put_in (r := 1) (by decide) (by omega)
      have step : ∀ (v : Int32) (x : Nat), CB x → v = oN x → ∃ f' g', l_X6_writeDigits_2 n (sc a (wr f (16 * 1 + k) v)) (oN (k + 1)) = some (sc a f') ∧ l_X9_secondLine_27 n (sm b (wr g k v)) (oN (k + 1)) = some (sm b g') ∧ EQ 1 f' g' ∧ OT 1 f f' ∧ CH f' := by
        intro v x x1 x2
        obtain ⟨f', g', r1, r2, r3, r4, r5⟩ := ih (k + 1) _ _ (by omega) (by omega) (E_wr (c := k) (v := v) he) (CH_wr hc x1 x2)
        exact ⟨f', g', r1, r2, r3, OT_tr (OT_wr (by omega)) r4, r5⟩
      rw [if_neg g4, if_neg g4]
      by_cases y : q ≤ k
      · have y1 : oN q ≤ oN k := (oN_le (by omega) (by omega)).mpr y
        rw [if_pos y1, if_pos y1]
        by_cases w : k = q
        · subst w
          obtain ⟨d1, d, d2, d3⟩ := dgs k q1
          have ed : f_X2_digit (sc a f) (oN k) = some (Khi a 11 k) := by
            unfold f_X2_digit
            rw [if_neg (oN_nn (by omega)), if_neg g4, gd_t b4, ck]; rfl
          have e48 : vp_nar .char (((48 + oN d).toUInt32 % 65536).toInt32) = oN (48 + d) := by
            rw [show (48 : Int32) = oN 48 from rfl, oN_add]
            exact chr_in (48 + d) (by omega)
          rw [if_neg (show ¬ ¬ oN k = oN k from fun y => y rfl), if_pos (Int32.le_refl _), ed, bs, pt, bs, gd_t b4, ck, show Mhi (sm b g) 114 k = Mhi b 114 k from rfl, ← d1, d3, gd_t b16, e48, sm_set, oN_succ, show (48 : Int32) = oN 48 from rfl, oN_add]
          exact step _ (48 + d) (by omega) rfl
        · have y2 : ¬ oN k ≤ oN q := fun z => by rw [oN_le (by omega) (by omega)] at z; omega
          have y3 : ¬ oN k = oN q := fun z => w (oN_inj (by omega) (by omega) z)
          rw [if_pos y3, if_neg y2, pt, bs, gd_t b16, ck, sm_set, oN_succ]
          exact step _ 45 (by decide) rfl
      · have y1 : ¬ oN q ≤ oN k := fun z => y ((oN_le (by omega) (by omega)).mp z)
        rw [if_neg y1, if_neg y1, pt, bs, gd_t b16, ck, sm_set, oN_succ]
        exact step _ 42 (by decide) rfl
theorem ends_eq {a : KS} {b : MS} {f g : Nat → Int32} {v : Int32} {q : Nat} (hq : q < 1000) (hv : mabs v = oN q) (he : EQ 1 f g) (hb : BL 12 g) (hc : CH f) : ∃ f' g', f_X6_writeAtEnd (sc a f) 1 v = some (sc a f') ∧ f_X9_ends (sm b g) v = some (sm b g') ∧ EQ 1 f' g' ∧ OT 1 f f' ∧ CH f' := by
  obtain ⟨h1, h2, h3⟩ := end_E (r := 1) (q := q) (v := v) he hb hc
  refine ⟨_, _, ?_, end_M hq hv, h1, h2, h3⟩
  unfold f_X6_writeAtEnd
  rw [show f_X6_writeEndingAt (sc a f) 1 15 v = _ from end_K (r := 1) (c := 15) (by decide) (by decide) (by decide) hq hv, bs]
