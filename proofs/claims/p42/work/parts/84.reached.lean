/-! ===== an item is reached ===== -/
theorem oN_dn {n : Nat} (h : 1 ≤ n) : oN n + (-1) = oN (n - 1) := by
  rw [← Int32.sub_eq_add_neg]
  exact oN_pred h
theorem sum_4 (x d w u : Int32) : x + d + w + u = x + u + (w + d) := by
  rw [Int32.add_assoc x d w, Int32.add_comm d w, Int32.add_assoc x (w + d) u, Int32.add_comm (w + d) u, Int32.add_assoc x u (w + d)]
theorem reach_in {j : Nat} {a : KS} {b : MS} (hb : Rel j a b) {i L n : Nat} (hi : i < Kn a) (hL : Kit a i 3 = oN L) (hL4 : L ≤ 4) (n1 : 1 ≤ n) (nL : n ≤ L) (c83 : KS → Int32 → Int32 → Int32 → Int32 → Int32 → Int32 → Option (Int32 × KS)) (v3 v4 v5 : Int32) : ∀ (fuel k : Nat), 1 ≤ k → k ≤ n → n - k < fuel → l_L_isReached_98 fuel c83 a (oN i) v3 v4 v5 (oN n) (oN (anc (Kmn a) (k - 1) i)) (oN k) = lt (oN (dt a (anc (Kmn a) (n - 1) i)) - oN (dt a (anc (Kmn a) n i))) (fun x11 => (f_X8_turn a x11).bind (fun z12 => gd (decide (z12.1 = 0)) (if z12.2.1 < 0 then (f_L_isReached_152 c83 z12.2.2 (oN i) v3 v4 v5 (oN n) (oN (anc (Kmn a) (n - 1) i)) x11 0) else (f_L_isReached_152 c83 z12.2.2 (oN i) v3 v4 v5 (oN n) (oN (anc (Kmn a) (n - 1) i)) x11 1)))) := by
  intro fuel
  induction fuel with
  | zero => intro k _ _ h; omega
  | succ f ih =>
    intro k k1 k2 k3
    have e1 : l_L_isReached_98 (f + 1) c83 a (oN i) v3 v4 v5 (oN n) (oN (anc (Kmn a) (k - 1) i)) (oN k) = f_L_isReached_98 c83 (l_L_isReached_98 f c83) a (oN i) v3 v4 v5 (oN n) (oN (anc (Kmn a) (k - 1) i)) (oN k) := rfl
    rw [e1]
    unfold f_L_isReached_98
    obtain ⟨t1, -, -⟩ := anc_l hb.1 hi hL hL4 (k - 1) (by omega)
    obtain ⟨s1, s2, s3, -⟩ := anc_s hb.1 hi hL hL4 (m := k - 1) (by omega)
    rw [show k - 1 + 1 = k by omega] at s2 s3
    by_cases g : k = n
    · subst g
      rw [if_pos (Int32.le_refl _), q_dets hb t1, bs, gd_d rfl, q_menu hb.1 t1 (by omega) s2, bs, gd_d rfl, q_dets hb (show anc (Kmn a) k i < Kn a by omega), bs, gd_d rfl]
    · rw [if_neg (show ¬ oN n ≤ oN k by rw [oN_le (by omega) (by omega)]; omega), q_menu hb.1 t1 (by omega) s2, bs, gd_d rfl, oN_succ]
      exact ih (k + 1) (by omega) (by omega) (by omega)
/-- how far the way is gone: n menus are still above -/
def RV (a0 : KS) (i L n : Nat) (v3 v4 : Int32) (a : KS) : Prop := LI 0 a ∧ SM a0 a ∧ Kit a = Kit a0 ∧ Khi a 13 1 = v3 + oN (L - n) ∧ Khi a 13 0 = v4 + oN (dt a0 (anc (Kmn a0) n i)) ∧ (1 ≤ n → Khi a 10 6 = 0 ∧ Ksh a = some (anc (Kmn a0) n i) ∧ Khi a 10 7 = 0) ∧ (n = 0 → (Kit a0 i 1 = 0 → Ksh a = some i ∧ Khi a 10 6 = 0) ∧ (¬ Kit a0 i 1 = 0 → Khi a 10 6 = 1 ∧ f_X2_chosenItem a = some (some i)))
theorem reach_end {a0 a : KS} {i L : Nat} {v3 v4 : Int32} (hi : i < Kn a0) (h : RV a0 i L 0 v3 v4 a) : ∃ a', f_L_isReached_251 a (oN i) 1 v3 v4 (oN L) = some (1, a') ∧ LI 0 a' ∧ Kit a' 0 11 = Kit a0 0 11 ∧ Kn a' = Kn a0 := by
  obtain ⟨hl, hs, hk, e1, e0, -, hz⟩ := h
  obtain ⟨z0, z1⟩ := hz rfl
  obtain ⟨b, hb⟩ := hl.1
  have hia : i < Kn a := by rw [hs.1]; exact hi
  have fin : ∃ a', f_L_isReached_325 a = some (1, a') ∧ LI 0 a' ∧ Kit a' 0 11 = Kit a0 0 11 ∧ Kn a' = Kn a0 := by
    unfold f_L_isReached_325 f_L_isReached_330
    obtain ⟨a1, h1, h2, h3, h4, h5, h6, h7, h8⟩ := hold_all hl
    obtain ⟨b1, hb1⟩ := h2.1
    have m0 : ¬ Khi a 10 6 < 0 := by rcases mode_c hb with m | m | m <;> rw [m] <;> decide
    rw [if_neg n10, h1, bs, if_neg m0]
    rcases q_home hb1.1 hb1.2.1 with ⟨k1, -⟩ | ⟨k1, -⟩
    · rw [k1, bs, if_pos n10]
      exact ⟨a1, rfl, h2, by rw [h3.2.2.2.2.2.1 0 11 (by decide), hk], by rw [h3.1, hs.1]⟩
    · obtain ⟨a2, y1, y2, y3, -⟩ := hold_all h2
      rw [k1, bs, if_neg nn00, y1, h4, bs, if_neg nn00]
      exact ⟨a2, rfl, y2, by rw [y3.2.2.2.2.2.1 0 11 (by decide), h3.2.2.2.2.2.1 0 11 (by decide), hk], by rw [y3.1, h3.1, hs.1]⟩
  unfold f_L_isReached_251
  rw [if_neg n10, show f_X8_events a 1 = some (0, Khi a 13 1) from q_event a (e := 1) (by decide), bs, gd_d rfl, if_neg (show ¬ ¬ Khi a 13 1 = v3 + oN L from fun z => z e1), show f_X8_events a 0 = some (0, Khi a 13 0) from q_event a (e := 0) (by decide), bs, gd_d rfl, q_dets hb hia, bs, gd_d rfl, dt_cg hs i, if_neg (show ¬ ¬ Khi a 13 0 = v4 + oN (dt a0 i) from fun z => z e0), q_kind hb.1 hia, bs, gd_d rfl]
  show ∃ a', (if ¬ Kit a i 1 = 0 then _ else _) = _ ∧ _
  rw [hk]
  by_cases g : Kit a0 i 1 = 0
  · obtain ⟨y1, y2⟩ := z0 g
    rw [if_neg (fun z => z g), q_shown hb.1 hia y1, bs, if_neg (fun z => z rfl), show f_X8_mode a = some (Khi a 10 6) from rfl, bs, if_neg (fun z => z y2)]
    exact fin
  · obtain ⟨y1, y2⟩ := z1 g
    rw [if_pos g, show f_X8_mode a = some (Khi a 10 6) from rfl, bs, if_neg (fun z => z y1), q_chosen hb.1 hia y2, bs, if_neg (fun z => z rfl)]
    exact fin
theorem reach_l {a0 : KS} {b0 : MS} (hr0 : RTs a0 b0) {i L : Nat} (hi : i < Kn a0) (hL : Kit a0 i 3 = oN L) (hL4 : L ≤ 4) (hc : cd a0 i = 0) (v3 : Int32) : ∀ (n fuel : Nat) (a : KS) (v4 : Int32), n ≤ L → n < fuel → RV a0 i L n v3 v4 a → ∃ a', l_L_isReached_83 fuel a (oN i) 1 v3 v4 (oN L) (oN n) = some (1, a') ∧ LI 0 a' ∧ Kit a' 0 11 = Kit a0 0 11 ∧ Kn a' = Kn a0 := by
  intro n
  induction n with
  | zero =>
    intro fuel a v4 _ hf h
    obtain ⟨f, rfl⟩ : ∃ f, fuel = f + 1 := ⟨fuel - 1, by omega⟩
    show ∃ a', f_L_isReached_83 (l_L_isReached_83 f) a (oN i) 1 v3 v4 (oN L) (oN 0) = _ ∧ _
    unfold f_L_isReached_83
    rw [if_pos (show oN 0 ≤ 0 from Int32.le_refl _)]
    exact reach_end hi h
  | succ n ih =>
    intro fuel a v4 hnL hf h
    obtain ⟨f, rfl⟩ : ∃ f, fuel = f + 1 := ⟨fuel - 1, by omega⟩
    obtain ⟨hl, hs, hk, e1, e0, hy, -⟩ := h
    obtain ⟨m, d1, d7⟩ := hy (by omega)
    obtain ⟨b, hb⟩ := hl.1
    have mnE : Kmn a = Kmn a0 := hs.2.2.2.1
    have hia : i < Kn a := by rw [hs.1]; exact hi
    have hLa : Kit a i 3 = oN L := by rw [hk]; exact hL
    obtain ⟨t1, -, t3⟩ := anc_l hr0 hi hL hL4 n (by omega)
    obtain ⟨s1, s2, s3, s4⟩ := anc_s hr0 hi hL hL4 (m := n) (by omega)
    have hcl : clo a (anc (Kmn a0) n i) = 0 := by
      have h2 := t3 hc
      rw [cd_s hr0 t1 s3 s2] at h2
      have : clo a (anc (Kmn a0) n i) = clo a0 (anc (Kmn a0) n i) := by unfold clo; rw [hk]
      omega
    show ∃ a', f_L_isReached_83 (l_L_isReached_83 f) a (oN i) 1 v3 v4 (oN L) (oN (n + 1)) = _ ∧ _
    unfold f_L_isReached_83
    rw [if_neg (show ¬ oN (n + 1) ≤ 0 by rw [show (0 : Int32) = oN 0 from rfl, oN_le (by omega) (by decide)]; omega), if_neg n10]
    have ein := reach_in hb hia hLa hL4 (n := n + 1) (by omega) hnL (l_L_isReached_83 f) v3 v4 (oN L) FU 1 (by decide) (by omega) (by rw [FU_e]; omega)
    rw [show l_L_isReached_98 FU (l_L_isReached_83 f) a (oN i) v3 v4 (oN L) (oN (n + 1)) (oN i) 1 = _ from ein, mnE]
    have hst := reach_step hl m d1 d7 s1 (show anc (Kmn a0) n i < Kn a by rw [hs.1]; exact t1) (by rw [mnE]; exact s2) hcl (l_L_isReached_83 f) (oN i) v3 v4 (oN L) (oN (n + 1))
    obtain ⟨W, u, w1, w2, w3, w4, w5, w6, w7, w8⟩ := hst
    rw [show n + 1 - 1 = n from rfl, w1, oN_dn (by omega), show n + 1 - 1 = n from rfl]
    refine (ih f W (v4 + u) (by omega) (by omega) ⟨w2, hs.tr w3, w4.trans hk, ?_, ?_, fun hn1 => ?_, fun hn0 => ?_⟩)
    · rw [w5, e1, Int32.add_assoc, oN_succ, show L - (n + 1) + 1 = L - n by omega]
    · rw [w6, e0, wy_cg hs, sum_4, oN_add, dt_s hr0 t1 s3 s2]
    · obtain ⟨n', rfl⟩ : ∃ n', n = n' + 1 := ⟨n - 1, by omega⟩
      have k0 := (anc_s hr0 hi hL hL4 (m := n') (by omega)).2.2.2
      obtain ⟨y1, y2, y3⟩ := w7 (by rw [hk]; exact k0)
      exact ⟨y3, y1, y2⟩
    · subst hn0
      refine ⟨fun z => ?_, fun z => ?_⟩
      · obtain ⟨y1, y2, y3⟩ := w7 (by rw [hk]; exact z)
        exact ⟨y1, y3⟩
      · exact w8 (by rw [hk]; exact z)
theorem reached_ok {B : Nat} {a : KS} (h : LI B a) {i : Nat} (hi : i < Kn a) : ∃ a', f_L_isReached a (oN i) = some (1, a') ∧ LI 0 a' ∧ Kit a' 0 11 = Kit a 0 11 ∧ Kn a' = Kn a := by
  obtain ⟨b, hb⟩ := h.1
  -- at home
  have main : ∀ x : KS, LI 0 x → SM a x → HM x → ∃ a', f_L_isReached_28 x (oN i) = some (1, a') ∧ LI 0 a' ∧ Kit a' 0 11 = Kit a 0 11 ∧ Kn a' = Kn a := by
    intro x hx hs hm
    obtain ⟨b', hb'⟩ := hx.1
    have hix : i < Kn x := by rw [hs.1]; exact hi
    have r0 : Kit x 0 11 = Kit a 0 11 := hs.2.2.2.2.2.1 0 11 (by decide)
    have okk : ∃ a', gd (okz 1) (some ((1 : Int32), x)) = some (1, a') ∧ LI 0 a' ∧ Kit a' 0 11 = Kit a 0 11 ∧ Kn a' = Kn a := ⟨x, rfl, hx, r0, hs.1⟩
    have hn := rt_n hb'.1
    unfold f_L_isReached_28 f_L_isReached_40
    rcases q_home hb'.1 hb'.2.1 with ⟨k1, -⟩ | ⟨-, k2⟩
    · rw [k1, bs, if_neg n10, if_neg n10, q_codes hb'.1 hix, bs, gd_d rfl]
      by_cases c : cd x i = 0
      · rw [if_neg (show ¬ 0 < oN (cd x i) by rw [c]; decide)]
        by_cases i0 : i = 0
        · subst i0
          rw [if_neg (show ¬ ¬ oN 0 = 0 from fun z => z rfl)]
          exact okk
        · obtain ⟨l, l1, l2, -⟩ := lev hb'.1 hix
          rw [if_pos (show ¬ oN i = 0 from fun z => i0 (oN_inj (y := 0) (by omega) (by decide) z)), show f_X8_events x 1 = some (0, Khi x 13 1) from q_event x (e := 1) (by decide), bs, gd_d rfl, show f_X8_events x 0 = some (0, Khi x 13 0) from q_event x (e := 0) (by decide), bs, gd_d rfl, q_presses hb'.1 hix, bs, gd_d rfl]
          show ∃ a', l_L_isReached_83 FU x (oN i) 1 (Khi x 13 1) (Khi x 13 0) (Kit x i 3) (Kit x i 3) = _ ∧ _
          rw [l2]
          have at0 := anc_top hb'.1 hix l2 l1
          have l0 : 1 ≤ l := by
            refine Nat.pos_of_ne_zero fun z => i0 ?_
            subst z
            exact at0
          obtain ⟨a', w1, w2, w3, w4⟩ := reach_l hb'.1 hix l2 l1 c (Khi x 13 1) l FU x (Khi x 13 0) (Nat.le_refl _) (by rw [FU_e]; omega) ⟨hx, SM.rf x, rfl, by rw [Nat.sub_self]; exact (Int32.add_zero _).symm, by rw [at0, dt_0 hb'.1]; exact (Int32.add_zero _).symm, fun _ => ⟨hm.1, by rw [at0]; exact hm.2.1, hm.2.2.1⟩, fun z => by omega⟩
          exact ⟨a', w1, w2, w3.trans r0, w4.trans hs.1⟩
      · have b1 := cd_le hb'.1 i hix
        rw [if_pos (show 0 < oN (cd x i) by rw [show (0 : Int32) = oN 0 from rfl, oN_lt (by decide) (by omega)]; omega)]
        exact okk
    · exact absurd hm k2
  obtain ⟨a1, h1, h2, h3, h4, h5, h6, h7, h8⟩ := hold_all h
  obtain ⟨b1, hb1⟩ := h2.1
  have m0 : ¬ Khi a 10 6 < 0 := by rcases mode_c hb with m | m | m <;> rw [m] <;> decide
  unfold f_L_isReached
  rw [h1, bs, if_neg m0, show f_X8_mode a1 = some (Khi a1 10 6) from rfl, bs, if_neg (fun z => z h4)]
  rcases q_home hb1.1 hb1.2.1 with ⟨k1, k2⟩ | ⟨k1, -⟩
  · rw [k1, bs, if_pos n10]
    exact main a1 h2 h3 k2
  · obtain ⟨a2, y1, y2, y3, y4, y5, y6, y7, -⟩ := hold_all h2
    rw [k1, bs, if_neg nn00]
    unfold f_L_isReached_21
    rw [y1, h4, bs, if_neg nn00]
    exact main a2 y2 (h3.tr y3) (y7 h4)
