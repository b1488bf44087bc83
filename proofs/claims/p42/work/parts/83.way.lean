/-! ===== on the way to an item ===== -/
def anc (mn : Nat → Option Nat) : Nat → Nat → Nat
  | 0, i => i
  | m + 1, i => (mn (anc mn m i)).getD 0
theorem dtN_cg {a a' : KS} (h1 : Kn a' = Kn a) (h2 : Kmn a' = Kmn a) (h3 : Khi a' 12 = Khi a 12) : ∀ f i, dtN a' f i = dtN a f i := by
  intro f
  induction f with
  | zero => intro i; rfl
  | succ f ih =>
    intro i
    show (match Kmn a' i with | none => 0 | some p => wy a' p i + dtN a' f p) = (match Kmn a i with | none => 0 | some p => wy a p i + dtN a f p)
    rw [h2]
    cases Kmn a i with
    | none => rfl
    | some p =>
      show wy a' p i + dtN a' f p = wy a p i + dtN a f p
      rw [ih p]
      unfold wy
      rw [h1, h2, h3]
theorem dt_cg {a a' : KS} (h : SM a a') (i : Nat) : dt a' i = dt a i := dtN_cg h.1 h.2.2.2.1 h.2.2.2.2.2.2.1 (i + 1) i
theorem wy_cg {a a' : KS} (h : SM a a') (p i : Nat) : wy a' p i = wy a p i := by
  unfold wy
  rw [h.1, h.2.2.2.1, h.2.2.2.2.2.2.1]
section AN
variable {a : KS} {b : MS}
theorem anc_l (h : RTs a b) {i L : Nat} (hi : i < Kn a) (hL : Kit a i 3 = oN L) (hL4 : L ≤ 4) : ∀ m, m ≤ L → anc (Kmn a) m i < Kn a ∧ Kit a (anc (Kmn a) m i) 3 = oN (L - m) ∧ (cd a i = 0 → cd a (anc (Kmn a) m i) = 0) := by
  intro m
  induction m with
  | zero => intro _; exact ⟨hi, hL, id⟩
  | succ m ih =>
    intro hm
    obtain ⟨h1, h2, h3⟩ := ih (by omega)
    have z : 1 ≤ anc (Kmn a) m i := by
      refine Nat.pos_of_ne_zero fun z => ?_
      rw [z, h.2.2.2.1.2.2.1] at h2
      have := oN_inj (x := 0) (by decide) (by omega) h2
      omega
    obtain ⟨p, p1, p2, p3, p4, -⟩ := par h z h1
    have e : anc (Kmn a) (m + 1) i = p := by
      show (Kmn a (anc (Kmn a) m i)).getD 0 = p
      rw [p2]; rfl
    obtain ⟨l, l1, l2, -⟩ := lev h (show p < Kn a by omega)
    rw [e]
    refine ⟨by omega, ?_, fun hc => ?_⟩
    · rw [h2, l2, oN_succ] at p4
      have := oN_inj (by omega) (by omega) p4
      rw [l2, show l = L - (m + 1) by omega]
    · have := h3 hc
      rw [cd_s h h1 p1 p2] at this
      omega
theorem anc_top (h : RTs a b) {i L : Nat} (hi : i < Kn a) (hL : Kit a i 3 = oN L) (hL4 : L ≤ 4) : anc (Kmn a) L i = 0 := by
  obtain ⟨h1, h2, -⟩ := anc_l h hi hL hL4 L (Nat.le_refl _)
  refine Classical.byContradiction fun z => ?_
  obtain ⟨p, p1, p2, p3, p4, -⟩ := par h (Nat.pos_of_ne_zero z) h1
  obtain ⟨l, l1, l2, -⟩ := lev h (show p < Kn a by omega)
  rw [h2, l2, oN_succ, Nat.sub_self] at p4
  have := oN_inj (x := 0) (by decide) (by omega) p4
  omega
theorem anc_s (h : RTs a b) {i L m : Nat} (hi : i < Kn a) (hL : Kit a i 3 = oN L) (hL4 : L ≤ 4) (hm : m < L) : 1 ≤ anc (Kmn a) m i ∧ Kmn a (anc (Kmn a) m i) = some (anc (Kmn a) (m + 1) i) ∧ anc (Kmn a) (m + 1) i < anc (Kmn a) m i ∧ Kit a (anc (Kmn a) (m + 1) i) 1 = 0 := by
  obtain ⟨h1, h2, -⟩ := anc_l h hi hL hL4 m (by omega)
  have z : 1 ≤ anc (Kmn a) m i := by
    refine Nat.pos_of_ne_zero fun z => ?_
    rw [z, h.2.2.2.1.2.2.1] at h2
    have := oN_inj (x := 0) (by decide) (by omega) h2
    omega
  obtain ⟨p, p1, p2, p3, -⟩ := par h z h1
  have e : anc (Kmn a) (m + 1) i = p := by
    show (Kmn a (anc (Kmn a) m i)).getD 0 = p
    rw [p2]; rfl
  rw [e]
  exact ⟨z, p2, p1, p3⟩
end AN
theorem mabs_N {w : Nat} (hw : w < 2147483648) : mabs (oN w) = oN w := by
  unfold mabs
  rw [if_pos (by rw [show (0 : Int32) = oN 0 from rfl, oN_le (by decide) hw]; omega)]
theorem neg_N (w : Nat) : -oN w = oN 0 - oN w := (Int32.zero_sub _).symm
theorem mabs_neg {w : Nat} (hw : w < 1000) : mabs (-oN w) = oN w := by
  have z0 : (0 : Int32).toInt = 0 := by decide
  have e : (oN 0 - oN w).toInt = ((0 : Nat) : Int) - w := sub_i32 (by decide) (by omega)
  unfold mabs
  by_cases g : w = 0
  · subst g; rfl
  · rw [if_neg (show ¬ 0 ≤ -oN w by rw [neg_N, Int32.le_iff_toInt_le, z0, e]; omega), Int32.zero_sub, Int32.neg_neg]
theorem chos_at {j : Nat} {X : KS} {b : MS} (hb : Rel j X b) {p c : Nat} (d1 : Ksh X = some p) (hp : p < Kn X) (d7 : Khi X 10 7 = oN c) (hc : c < cnt (Kmn X) p (Kn X)) : ∃ i, 1 ≤ i ∧ i < Kn X ∧ Kmn X i = some p ∧ cnt (Kmn X) p i = c ∧ f_X2_chosenItem X = some (some i) := by
  have h8 := (hb.1.2.2.2.2.2.2.1 p hp).2
  obtain ⟨s, c', e1, e2, e3, e4, ⟨i, i1, i2, i3, i4, i5, i6, i7, -⟩ | ⟨m0, e5, -⟩⟩ := chos_c hb
  · obtain rfl : s = p := Option.some.inj (e1.symm.trans d1)
    have := (hb.1.2.2.2.2.2.2.1 s hp).2
    have ec : c' = c := oN_inj (by omega) (by omega) (e4.symm.trans d7)
    exact ⟨i, i1, i2, i3, i4.trans ec, i7⟩
  · obtain rfl : s = p := Option.some.inj (e1.symm.trans d1)
    have ec : c' = c := oN_inj (by omega) (by omega) (e4.symm.trans d7)
    omega
/-- a press that leads one step on -/
theorem reach_press {a X : KS} (hs : SM a X) (hk : Kit X = Kit a) (hl : LI 0 X) (m : Khi X 10 6 = 0) {st : Nat} (hc : f_X2_chosenItem X = some (some st)) (h0 : clo a st = 0) (c83 : KS → Int32 → Int32 → Int32 → Int32 → Int32 → Int32 → Option (Int32 × KS)) (v1 v3 v4 v5 v6 : Int32) : ∃ W, f_L_isReached_210 c83 X v1 1 v3 v4 v5 v6 (oN st) = c83 W v1 1 v3 v4 v5 (v6 + (-1)) ∧ LI 0 W ∧ SM a W ∧ Kit W = Kit a ∧ Khi W 13 1 = Khi X 13 1 + 1 ∧ Khi W 13 0 = Khi X 13 0 ∧ (Kit a st 1 = 0 → Ksh W = some st ∧ Khi W 10 7 = 0 ∧ Khi W 10 6 = 0) ∧ (¬ Kit a st 1 = 0 → Khi W 10 6 = 1 ∧ f_X2_chosenItem W = some (some st)) := by
  obtain ⟨b, hb⟩ := hl.1
  have i2 := (cho hb hc).1
  have hcl : ¬ (¬ Kit X st 11 = -1 ∧ Kit X st 12 = 0) := by
    intro z
    rw [hk] at z
    unfold clo at h0
    rw [if_pos z] at h0
    omega
  obtain ⟨W, w1, w2, w3⟩ := press_use hl m hc hcl
  obtain ⟨b2, hb2⟩ := w2.1
  have pw : f_X8_press X = some ((if Kit X st 1 = 0 then 2 else 3), W) := by
    unfold f_X8_press
    rw [w1]; rfl
  have kk : Kit W = Kit X ∧ SM X W ∧ Khi W 13 1 = Khi X 13 1 + 1 ∧ Khi W 13 0 = Khi X 13 0 := by
    by_cases g : Kit X st 1 = 0
    · rw [if_pos g] at w3
      rw [w3]
      exact ⟨rfl, ⟨rfl, rfl, rfl, rfl, rfl, fun _ _ _ => rfl, rfl, rfl⟩, rfl, rfl⟩
    · rw [if_neg g] at w3
      rw [w3]
      exact ⟨rfl, ⟨rfl, rfl, rfl, rfl, rfl, fun _ _ _ => rfl, rfl, rfl⟩, rfl, rfl⟩
  obtain ⟨k1, k2, k3, k4⟩ := kk
  refine ⟨W, ?_, w2, hs.tr k2, k1.trans hk, k3, k4, fun z => ?_, fun z => ?_⟩
  · unfold f_L_isReached_210 f_L_isReached_236 f_L_isReached_244
    rw [pw, bs, if_neg n10, q_kind hb2.1 (show st < Kn W by rw [k2.1]; exact i2), bs, gd_d rfl]
    show (if ¬ Kit W st 1 = 0 then _ else _) = _
    rw [k1]
    by_cases g : Kit X st 1 = 0
    · rw [if_neg (fun z => z g), if_pos g, if_neg (fun z => z rfl)]
    · rw [if_pos g, if_neg g, if_neg (fun z => z rfl)]
  · rw [← hk] at z
    rw [if_pos z] at w3
    rw [w3]
    exact ⟨rfl, rfl, m⟩
  · rw [← hk] at z
    rw [if_neg z] at w3
    rw [w3]
    refine ⟨rfl, ?_⟩
    rw [← hc]
    exact chos_same rfl rfl rfl (fun _ => rfl) rfl
set_option maxHeartbeats 1000000 in
theorem reach_step {a : KS} (hl : LI 0 a) (m : Khi a 10 6 = 0) {p st : Nat} (d1 : Ksh a = some p) (d7 : Khi a 10 7 = 0) (s1 : 1 ≤ st) (s2 : st < Kn a) (sm : Kmn a st = some p) (h0 : clo a st = 0) (c83 : KS → Int32 → Int32 → Int32 → Int32 → Int32 → Int32 → Option (Int32 × KS)) (v1 v3 v4 v5 v6 : Int32) : ∃ (W : KS) (u : Int32), lt (oN (dt a st) - oN (dt a p)) (fun x11 => (f_X8_turn a x11).bind (fun z12 => gd (decide (z12.1 = 0)) (if z12.2.1 < 0 then (f_L_isReached_152 c83 z12.2.2 v1 v3 v4 v5 v6 (oN st) x11 0) else (f_L_isReached_152 c83 z12.2.2 v1 v3 v4 v5 v6 (oN st) x11 1)))) = c83 W v1 1 v3 (v4 + u) v5 (v6 + (-1)) ∧ LI 0 W ∧ SM a W ∧ Kit W = Kit a ∧ Khi W 13 1 = Khi a 13 1 + 1 ∧ Khi W 13 0 = Khi a 13 0 + oN (wy a p st) + u ∧ (Kit a st 1 = 0 → Ksh W = some st ∧ Khi W 10 7 = 0 ∧ Khi W 10 6 = 0) ∧ (¬ Kit a st 1 = 0 → Khi W 10 6 = 1 ∧ f_X2_chosenItem W = some (some st)) := by
  obtain ⟨b, hb⟩ := hl.1
  obtain ⟨p', p1, p2, p3, p4, p5, p6, p7, p8⟩ := par hb.1 s1 s2
  obtain rfl : p' = p := Option.some.inj (p2.symm.trans sm)
  have hn := rt_n hb.1
  have hp : p' < Kn a := by omega
  have hw8 := cnt_le8 hb.1 s1 s2 sm
  have hdt := dt_s hb.1 s2 p1 sm
  have hwe : wy a p' st < cnt (Kmn a) p' (Kn a) ∧ (wy a p' st = cnt (Kmn a) p' st ∨ (Khi a 12 2 = 1 ∧ wy a p' st = ent a p' - cnt (Kmn a) p' st ∧ ¬ wy a p' st = cnt (Kmn a) p' st)) := by
    unfold wy ent
    by_cases k : Khi a 12 2 = 1
    · rw [if_pos k]
      by_cases z : cnt (Kmn a) p' st ≤ cnt (Kmn a) p' (Kn a) + (if p' = 0 then 0 else 1) - cnt (Kmn a) p' st
      · rw [Nat.min_eq_left z]
        exact ⟨p7, Or.inl rfl⟩
      · rw [Nat.min_eq_right (by omega)]
        exact ⟨by omega, Or.inr ⟨k, rfl, by omega⟩⟩
    · rw [if_neg k]
      exact ⟨p7, Or.inl rfl⟩
  have hel : cnt (Kmn a) p' (Kn a) ≤ ent a p' := by unfold ent; omega
  have he9 := ent_le hb.1 hp
  obtain ⟨w, hw⟩ : ∃ w, w = wy a p' st := ⟨_, rfl⟩
  rw [← hw] at hwe hw8 hdt
  have e0 : oN (dt a st) - oN (dt a p') = oN w := by
    rw [hdt, ← oN_add]
    exact Int32.add_sub_cancel _ _
  have b1 : ¬ oN w < -50 := by
    rw [Int32.lt_iff_toInt_lt, ofNat_i32 (by omega), show (-50 : Int32).toInt = -50 by decide]; omega
  have b2 : ¬ 50 < oN w := by
    rw [Int32.lt_iff_toInt_lt, ofNat_i32 (by omega), show (50 : Int32).toInt = 50 by decide]; omega
  have nw : (oN 0 - oN w).toInt = ((0 : Nat) : Int) - w := sub_i32 (by decide) (by omega)
  have b3 : ¬ -oN w < -50 := by
    rw [neg_N, Int32.lt_iff_toInt_lt, nw, show (-50 : Int32).toInt = -50 by decide]; omega
  have b4 : ¬ 50 < -oN w := by
    rw [neg_N, Int32.lt_iff_toInt_lt, nw, show (50 : Int32).toInt = 50 by decide]; omega
  -- the first turn
  obtain ⟨r, pl, r1, r2, r3⟩ := turn_all hl b1 b2
  have tw := turned_f hb m d1 hp (show Khi a 10 7 = oN 0 from d7) (w := w) (by omega)
  rw [Nat.zero_add] at tw
  obtain rfl : r = oN w := Option.some.inj (r1.symm.trans tw)
  obtain ⟨f1, f2, f3, f4, f5, f6, f7, f8⟩ := tnX_f a (oN w) (oN w) pl
  obtain ⟨A1, hA1⟩ : ∃ A1, A1 = tnX a (oN w) (oN w) pl := ⟨_, rfl⟩
  rw [← hA1] at r2 r3 f1 f2 f3 f4 f5 f6 f7 f8
  obtain ⟨bb1, hb1⟩ := r3.1
  have m1 : Khi A1 10 6 = 0 := f3.trans m
  have c1 : Khi A1 10 7 = oN w := f7 m
  have x0 : Khi A1 13 0 = Khi a 13 0 + oN w := by rw [f6, if_pos rfl, mabs_N (by omega)]
  have x1 : Khi A1 13 1 = Khi a 13 1 := by rw [f6, if_neg (by decide)]
  have mnE : Kmn A1 = Kmn a := f1.2.2.2.1
  obtain ⟨i', i1, i2, i3, i4, i5⟩ := chos_at hb1 (f4.trans d1) (by rw [f1.1]; exact hp) c1 (by rw [mnE, f1.1]; exact hwe.1)
  rw [mnE] at i3 i4
  rw [lt_e, e0, r2, bs, gd_d rfl, if_neg (oN_nn (by omega))]
  unfold f_L_isReached_152
  rw [q_chosen hb1.1 i2 i5, bs]
  rw [f1.1] at i2
  rcases hwe.2 with hw1 | ⟨k, hw1, hw2⟩
  · -- there at once
    have e9 : i' = st := cnt_uni i1 s1 i3 sm (i4.trans hw1)
    subst e9
    rw [if_pos rfl]
    obtain ⟨W, w1, w2, w3, w4, w5, w6, w7, w8⟩ := reach_press f1 f5 r3 m1 i5 h0 c83 v1 v3 v4 v5 v6
    refine ⟨W, 0, ?_, w2, w3, w4, by rw [w5, x1], by rw [w6, x0, hw, Int32.add_zero], w7, w8⟩
    rw [w1, Int32.add_zero]
  · -- the other way round
    have e9 : ¬ i' = st := fun z => hw2 (by rw [← i4, z])
    have w0 : 1 ≤ w := by omega
    rw [if_neg (fun z => e9 (oN_inj (by omega) (by omega) z)), if_neg n10]
    -- back
    obtain ⟨r', pl2, t1, t2, t3⟩ := turn_all r3 b3 b4
    have en1 : ent A1 p' = ent a p' := by unfold ent; rw [mnE, f1.1]
    have k1 : Khi A1 12 2 = 1 := by rw [f1.2.2.2.2.2.2.1]; exact k
    have tw2 : f_X2_turned A1 (-oN w) = some (oN 0) := by
      rw [turned_b hb1 m1 (f4.trans d1) (by rw [f1.1]; exact hp), if_neg (fun z => z k1), c1, ← Int32.sub_eq_add_neg, Int32.sub_self, en1]
      exact around_K A1 (k := 0) (by decide) (by decide) (by omega) (by omega) (by rw [show (0 : Int32).toInt = 0 by decide]; omega)
    obtain rfl : r' = oN 0 := Option.some.inj (t1.symm.trans tw2)
    obtain ⟨g1, g2, g3, g4, g5, g6, g7, g8⟩ := tnX_f A1 (oN 0) (-oN w) pl2
    obtain ⟨A2, hA2⟩ : ∃ A2, A2 = tnX A1 (oN 0) (-oN w) pl2 := ⟨_, rfl⟩
    rw [← hA2] at t2 t3 g1 g2 g3 g4 g5 g6 g7 g8
    obtain ⟨bb2, hb2⟩ := t3.1
    have m2 : Khi A2 10 6 = 0 := g3.trans m1
    have s12 : SM a A2 := f1.tr g1
    -- and on
    obtain ⟨r'', pl3, u1, u2, u3⟩ := turn_all t3 b3 b4
    have en2 : ent A2 p' = ent a p' := by unfold ent; rw [s12.2.2.2.1, s12.1]
    have k2 : Khi A2 12 2 = 1 := by rw [s12.2.2.2.2.2.2.1]; exact k
    have tw3 : f_X2_turned A2 (-oN w) = some (oN (cnt (Kmn a) p' st)) := by
      rw [turned_b hb2 m2 (g4.trans (f4.trans d1)) (by rw [s12.1]; exact hp), if_neg (fun z => z k2), g7 m1, show oN 0 + -oN w = oN 0 - oN w from (Int32.sub_eq_add_neg _ _).symm, en2]
      exact around_K A2 (k := 1) (by rw [nw]; omega) (by rw [nw]; omega) (by omega) (by omega) (by rw [nw]; omega)
    obtain rfl : r'' = oN (cnt (Kmn a) p' st) := Option.some.inj (u1.symm.trans tw3)
    obtain ⟨y1, y2, y3, y4, y5, y6, y7, y8⟩ := tnX_f A2 (oN (cnt (Kmn a) p' st)) (-oN w) pl3
    obtain ⟨A3, hA3⟩ : ∃ A3, A3 = tnX A2 (oN (cnt (Kmn a) p' st)) (-oN w) pl3 := ⟨_, rfl⟩
    rw [← hA3] at u2 u3 y1 y2 y3 y4 y5 y6 y7 y8
    obtain ⟨bb3, hb3⟩ := u3.1
    have m3 : Khi A3 10 6 = 0 := y3.trans m2
    have s13 : SM a A3 := s12.tr y1
    obtain ⟨i'', j1, j2, j3, j4, j5⟩ := chos_at hb3 (y4.trans (g4.trans (f4.trans d1))) (by rw [s13.1]; exact hp) (y7 m2) (by rw [s13.2.2.2.1, s13.1]; exact p7)
    rw [s13.2.2.2.1] at j3 j4
    have e8 : i'' = st := cnt_uni j1 s1 j3 sm j4
    subst e8
    rw [t2, bs, gd_d rfl, if_neg (show ¬ ¬ oN 0 = 0 from fun z => z rfl), u2, bs, gd_d rfl, if_neg (oN_nn (by omega)), q_chosen hb3.1 j2 j5, bs, if_neg (fun z => z rfl)]
    unfold f_L_isReached_200
    rw [lt_e]
    obtain ⟨W, w1, w2, w3, w4, w5, w6, w7, w8⟩ := reach_press s13 (y5.trans (g5.trans f5)) u3 m3 j5 h0 c83 v1 v3 (v4 + 2 * oN w) v5 v6
    have z1 : Khi A3 13 1 = Khi a 13 1 := by rw [y6, if_neg (by decide), g6, if_neg (by decide), x1]
    have z0 : Khi A3 13 0 = Khi a 13 0 + oN w + 2 * oN w := by
      rw [y6, if_pos rfl, g6, if_pos rfl, mabs_neg (by omega), x0, show (2 : Int32) = oN 2 from rfl, oN_mul, Int32.add_assoc, Int32.add_assoc, Int32.add_assoc, oN_add, oN_add, oN_add]
      congr 2
      omega
    exact ⟨W, 2 * oN w, w1, w2, w3, w4, by rw [w5, z1], by rw [w6, z0, hw], w7, w8⟩
