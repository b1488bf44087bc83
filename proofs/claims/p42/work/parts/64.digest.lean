/-! ===== the digest ===== -/
theorem mix_M (b : MS) (h x : Int64) : f_X9_mix (sMhs b h) x = some (sMhs b (31 * h + x)) := rfl
theorem mix_K (a : KS) (h x : Int64) : f_X8_mix a h x = some (31 * h + x) := rfl
theorem hs_Mhi (b : MS) (h : Int64) (p k : Nat) : Mhi (sMhs b h) p k = Mhi b p k := rfl
theorem hs_hs (b : MS) (h : Int64) : Mhs (sMhs b h) = h := rfl
section DG
variable {j : Nat} {a : KS} {b : MS}
theorem Rel.hs (h : Rel j a b) (H : Int64) : Rel j a (sMhs b H) := h
theorem pos_eq (hj : j ≤ 512) (h : Rel j a b) : ∃ H, f_X8_mixPosition a 4364 = some H ∧ f_X9_digest b = l_X9_digest_108 FU (sMhs (sMhi b 100 0 0) H) 0 := by
  have hc : Rel j a (sMhi b 100 0 0) := h
  have k1 : Khi a 1 2 = Mhi (sMhi b 100 0 0) 100 1 := by rw [h.1.1.2.2.1]; exact h.1.1.2.2.2.symm
  have k2 : Khi a 10 6 = Mhi (sMhi b 100 0 0) 100 10 := h.2.1.2.1.1
  obtain ⟨s, c, d1, d2, -, d3, d4, d5, -⟩ := chosen_eq hc.1 hc.2.1
  have k3 : f_X8_shown a = some (Mhi (sMhi b 100 0 0) 100 11) := by
    simp only [f_X8_shown, lt_e, d1, odr_s d2, (it_at h.1 d2).1, d3]
  have k4 : Khi a 10 7 = Mhi (sMhi b 100 0 0) 100 12 := d4.trans d5.symm
  have k5 : ∃ X, f_X8_chosen a = some X ∧ ∀ H, f_X9_itemAt (sMhs (sMhi b 100 0 0) H) (Mhi (sMhi b 100 0 0) 100 12) = some X := by
    rcases cho_ex h with x | ⟨i, x⟩
    · refine ⟨-1, ?_, fun H => (cho_n (hc.hs H) x).1⟩
      simp only [f_X8_chosen, x, bs, f_X8_numberOf, ocs_n]
    · obtain ⟨hi, -, -⟩ := cho h x
      refine ⟨oN i, ?_, fun H => (cho (hc.hs H) x).2.1⟩
      simp only [f_X8_chosen, x, bs, f_X8_numberOf, ocs_s]
      rw [gd_d hi, (it_at h.1 hi).1]; rfl
  obtain ⟨X, k5, k6⟩ := k5
  have k7 : ∃ D, f_X8_draft a = some D ∧ ∀ H, f_X9_draftNow (sMhs (sMhi b 100 0 0) H) = some D := by
    by_cases m : Khi a 10 6 = 1
    · refine ⟨Khi a 10 8, ?_, fun H => ?_⟩
      · unfold f_X8_draft; rw [if_neg (fun q => q m)]
      · unfold f_X9_draftNow
        rw [hs_Mhi, hs_Mhi, ← k2, if_neg (fun q => q m), show Mhi (sMhi b 100 0 0) 100 13 = Khi a 10 8 from h.2.1.2.2.1.symm]
    · refine ⟨0, ?_, fun H => ?_⟩
      · unfold f_X8_draft; rw [if_pos m]
      · unfold f_X9_draftNow
        rw [hs_Mhi, ← k2, if_pos m]
  obtain ⟨D, k7, k8⟩ := k7
  have k9 : Khi a 10 10 = Mhi (sMhi b 100 0 0) 100 16 := by
    obtain ⟨q, -, q1, q2⟩ := hc.2.1.2.2.2.2.1
    exact q1.trans q2.symm
  have k10 : Khi a 10 11 = Mhi (sMhi b 100 0 0) 100 17 := by
    obtain ⟨q, -, q1, q2⟩ := hc.2.1.2.2.2.2.2.1
    exact q1.trans q2.symm
  have k11 : Khi a 3 2 = Mhi (sMhi b 100 0 0) 100 23 := by
    obtain ⟨⟨q, -, q1, q2, -⟩, -⟩ := hc.2.2.1
    exact q1.trans q2.symm
  obtain ⟨R, r1, -⟩ := ticks_eq hj hc.1 hc.2.1
  have k12 : f_X8_ticksToHome a = some R := by unfold f_X8_ticksToHome; rw [r1]; rfl
  have k13 : ∀ H, f_X9_ticksLeft (sMhs (sMhi b 100 0 0) H) = some R := fun H => by
    obtain ⟨R', r3, r4⟩ := ticks_eq hj (hc.hs H).1 (hc.hs H).2.1
    rw [r4, ← r3, r1]
  unfold f_X8_mixPosition f_X9_digest f_X8_items f_X8_mode f_X8_cursor f_X8_idle f_X8_barred f_X8_logged
  simp only [mix_K, mix_M, bs, hs_Mhi, k1, k2, k3, k4, k5, k6, k7, k8, k9, k10, k11, k12, k13]
  exact ⟨_, rfl, rfl⟩
theorem items_l (h : Rel j a b) : ∀ (fuel k : Nat) (H : Int64), k ≤ Kn a → Kn a - k < fuel → ∃ H', l_X8_mixItems_5 fuel a H (oN k) = some H' ∧ l_X9_digest_108 fuel (sMhs b H) (oN k) = l_X9_digest_186 FU (sMhs b H') 0 := by
  have hn := rt_n h.1
  intro fuel
  induction fuel with
  | zero => intro k H _ h; omega
  | succ f ih =>
    intro k H h1 h2
    have e1 : l_X8_mixItems_5 (f + 1) a H (oN k) = f_X8_mixItems_5 (l_X8_mixItems_5 f) a H (oN k) := rfl
    have e2 : l_X9_digest_108 (f + 1) (sMhs b H) (oN k) = f_X9_digest_108 (l_X9_digest_108 f) (sMhs b H) (oN k) := rfl
    rw [e1, e2]
    unfold f_X8_mixItems_5 f_X9_digest_108
    rw [h.1.1.2.2.1, hs_Mhi, h.1.1.2.2.2]
    by_cases g : Kn a ≤ k
    · have gg : oN (Kn a) ≤ oN k := (oN_le (by omega) (by omega)).mpr g
      rw [if_pos gg, if_pos gg]
      exact ⟨H, rfl, rfl⟩
    · have gg : ¬ oN (Kn a) ≤ oN k := fun q => g ((oN_le (by omega) (by omega)).mp q)
      have hk : k < Kn a := by omega
      have it := it_at h.1 hk
      rw [if_neg gg, if_neg gg, find_in h.1 hk, bs, ocs_s, gd_d hk, mix_K, bs, lt_e, menu_num h.1 hk, bs, mix_K, bs, closed_in hk, bs]
      rw [gd_t (in24 h.1 hk), cl_n h.1 hk, mix_M, bs, gd_t (in24 h.1 hk), hs_Mhi, hs_Mhi, mix_M, bs, isShut_in (h.hs _).1 hk, bs, it.2.1]
      unfold f_X8_mixItems_72 f_X8_mixItems_87 f_X9_digest_152 f_X9_digest_175
      have key : ∀ (w : Int64) (z : Int64), ∃ H', ((f_X8_mix a z w).bind fun z1 => gd (decide (k < Kn a)) ((f_X8_mix a z1 (Kit a k 10).toInt64).bind fun z5 => l_X8_mixItems_5 f a z5 (oN k + 1))) = some H' ∧ ((f_X9_mix (sMhs b z) w).bind fun z1 => (f_X9_isMenu z1 (oN k)).bind fun z4 => if z4 = 0 then gd (inb (oN k) 24) ((f_X9_mix z1 (Mhi z1 107 (oN k).toNatClampNeg).toInt64).bind fun z1 => l_X9_digest_108 f z1 (oN k + 1)) else (f_X9_mix z1 0).bind fun z1 => l_X9_digest_108 f z1 (oN k + 1)) = l_X9_digest_186 FU (sMhs b H') 0 := by
        intro w z
        rw [mix_K, bs, gd_d hk, mix_K, bs, mix_M, bs, isMenu_in (h.hs _).1 hk, bs, oN_succ]
        by_cases kd : Kit a k 1 = 0
        · have v0 : Kit a k 10 = 0 := by rw [it.2.2.2.2.2.1]; exact menu_0 h.1 hk kd
          rw [if_pos kd, if_neg n10, mix_M, bs, v0]
          exact ih (k + 1) _ (by omega) (by omega)
        · rw [if_neg kd, if_pos rfl, gd_t (in24 h.1 hk), cl_n h.1 hk, hs_Mhi, mix_M, bs, it.2.2.2.2.2.1]
          exact ih (k + 1) _ (by omega) (by omega)
      by_cases sh : ¬ Kit a k 11 = -1 ∧ Kit a k 12 = 0
      · rw [if_pos sh, if_neg n10, if_neg n10]
        exact key 1 _
      · rw [if_neg sh, if_pos rfl, if_pos rfl]
        exact key 0 _
def dgF (a : KS) (v1 : Int64) : Option (Int64 × KS) := (f_X6_draw a).bind (fun z2 => (f_X8_mixScreen z2 v1).bind (fun z7 => (f_X8_fraction z2).bind (fun z10 => gd (nn32 (FP.d2f z10)) ((f_X8_floatBits z2 (FP.d2f z10)).bind (fun z14 => (f_X8_mix z2 z7 z14.toInt64).bind (fun z17 => some (z17, z2)))))))
theorem evs_l (h : Rel j a b) : ∀ (fuel k : Nat) (H : Int64), k ≤ 8 → 8 - k < fuel → ∃ H', l_X8_digest_16 fuel a H (oN k) = dgF a H' ∧ l_X9_digest_186 fuel (sMhs b H) (oN k) = l_X9_digest_211 FU (sMhs b H') 0 := by
  intro fuel
  induction fuel with
  | zero => intro k H _ h; omega
  | succ f ih =>
    intro k H h1 h2
    have e1 : l_X8_digest_16 (f + 1) a H (oN k) = f_X8_digest_16 (l_X8_digest_16 f) a H (oN k) := rfl
    have e2 : l_X9_digest_186 (f + 1) (sMhs b H) (oN k) = f_X9_digest_186 (l_X9_digest_186 f) (sMhs b H) (oN k) := rfl
    rw [e1, e2]
    unfold f_X8_digest_16 f_X9_digest_186
    by_cases g : k = 8
    · subst g
      rw [if_pos (show (8 : Int32) ≤ oN 8 from Int32.le_refl _), if_pos (show (8 : Int32) ≤ oN 8 from Int32.le_refl _)]
      exact ⟨H, rfl, rfl⟩
    · have g8 : ¬ (8 : Int32) ≤ oN k := fun z => by rw [show (8 : Int32) = oN 8 from rfl, oN_le (by decide) (by omega)] at z; omega
      have b8 : inb (oN k) 8 = true := inb_oN (by omega) (by decide)
      have ck : (oN k).toNatClampNeg = k := ofNat_cl (by omega)
      have ev : Khi a 13 k = Mhi b 120 k := h.2.1.2.2.2.2.2.2.2.2.2 k (by omega)
      have ec : f_X2_counted a (oN k) = some (Mhi b 120 k) := by
        unfold f_X2_counted
        rw [if_neg (oN_nn (by omega)), if_neg g8, gd_t b8, ck, ev]
      rw [if_neg g8, if_neg g8, ec, bs, mix_K, bs, gd_t b8, ck, hs_Mhi, mix_M, bs, oN_succ]
      exact ih (k + 1) _ (by omega) (by omega)
theorem cols_l {f : Nat → Int32} {X : MS} {r : Nat} (hf : CH f) (hr : r < 2) (he : EQ r f (Mhi X 131)) (c5 : KS → Int64 → Int32 → Option Int64) (c211 : MS → Int32 → Option (Int64 × MS)) : ∀ (fuel k : Nat) (H : Int64), k ≤ 16 → 16 - k < fuel → ∃ H', l_X8_mixScreen_14 fuel c5 (sc a f) H (oN r) (oN k) = c5 (sc a f) H' (oN (r + 1)) ∧ l_X9_digest_223 fuel c211 (sMhs X H) (oN r) (oN k) = c211 (sMhs X H') (oN (r + 1)) := by
  intro fuel
  induction fuel with
  | zero => intro k H _ h; omega
  | succ n ih =>
    intro k H h1 h2
    have e1 : l_X8_mixScreen_14 (n + 1) c5 (sc a f) H (oN r) (oN k) = f_X8_mixScreen_14 c5 (l_X8_mixScreen_14 n c5) (sc a f) H (oN r) (oN k) := rfl
    have e2 : l_X9_digest_223 (n + 1) c211 (sMhs X H) (oN r) (oN k) = f_X9_digest_223 c211 (l_X9_digest_223 n c211) (sMhs X H) (oN r) (oN k) := rfl
    rw [e1, e2]
    unfold f_X8_mixScreen_14 f_X9_digest_223
    by_cases g : k = 16
    · subst g
      rw [if_pos (show (16 : Int32) ≤ oN 16 from Int32.le_refl _), if_pos (show (16 : Int32) ≤ oN 16 from Int32.le_refl _), oN_succ]
      exact ⟨H, rfl, rfl⟩
    · have g16 : ¬ (16 : Int32) ≤ oN k := fun z => by rw [show (16 : Int32) = oN 16 from rfl, oN_le (by decide) (by omega)] at z; omega
      rw [if_neg g16, if_neg g16, sign_in hf hr (by omega), bs, mix_K, bs, gd_t (inb_oN (show k < 16 by omega) (by decide)), show (oN k).toNatClampNeg = k from ofNat_cl (by omega), hs_Mhi, mix_M, bs, oN_succ, he k (by omega)]
      exact ih (k + 1) _ (by omega) (by omega)
theorem sc_inj {a : KS} {f f' : Nat → Int32} (h : sc a f = sc a f') : f = f' := congrArg (fun s => s.1 15) h
theorem tail_eq (h : Rel j a b) (H : Int64) : ∃ (r : Int64) (a' : KS) (b' : MS), dgF a H = some (r, a') ∧ l_X9_digest_211 FU (sMhs b H) 0 = some (r, b') ∧ Rel j a' b' := by
  obtain ⟨f, g0, x1, p1, p2, p3, p4, -, -⟩ := draw_eq (h.hs H)
  have eq0 : EQ 0 f (Mhi (sm b g0) 131) := p4
  obtain ⟨H1, q1, q2⟩ := cols_l (a := a) (X := sm b g0) p2 (r := 0) (by decide) eq0 (l_X8_mixScreen_5 999) (l_X9_digest_211 999) FU 0 H (by decide) (by decide)
  have h1 : Rel j a (sMhs (sm b g0) H1) := h
  obtain ⟨f', x0, g1, p1', p2', -, -, p5, p6⟩ := draw_eq h1
  have ef : f' = f := sc_inj (Option.some.inj (p1'.symm.trans p1))
  subst ef
  have eq1 : EQ 1 f' (Mhi (sm (sm b g0) g1) 131) := p6
  obtain ⟨H2, q3, q4⟩ := cols_l (a := a) (X := sm (sm b g0) g1) p2 (r := 1) (by decide) eq1 (l_X8_mixScreen_5 998) (l_X9_digest_211 998) FU 0 H1 (by decide) (by decide)
  have h2 : Rel j (sc a f') (sMhs (sm (sm b g0) g1) H2) := h
  obtain ⟨z, z1, z2, z3⟩ := share_eq h2.1
  obtain ⟨w, w1, w2⟩ := bits_eq (a := sc a f') (b := sMhs (sm (sm b g0) g1) H2) z3
  have nz : nn32 (FP.d2f z) = true := nn32_in z3.1
  refine ⟨31 * H2 + w.toInt64, sc a f', sMhs (sm (sm b g0) g1) (31 * H2 + w.toInt64), ?_, ?_, h⟩
  · have eS : f_X8_mixScreen (sc a f') H = some H2 := by
      unfold f_X8_mixScreen
      have e0 : l_X8_mixScreen_5 FU (sc a f') H 0 = l_X8_mixScreen_14 FU (l_X8_mixScreen_5 999) (sc a f') H 0 0 := rfl
      rw [e0, show l_X8_mixScreen_14 FU (l_X8_mixScreen_5 999) (sc a f') H 0 0 = _ from q1]
      have e1 : l_X8_mixScreen_5 999 (sc a f') H1 (oN (0 + 1)) = l_X8_mixScreen_14 FU (l_X8_mixScreen_5 998) (sc a f') H1 (oN 1) 0 := rfl
      rw [e1, show l_X8_mixScreen_14 FU (l_X8_mixScreen_5 998) (sc a f') H1 (oN 1) 0 = _ from q3]
      rfl
    unfold dgF
    rw [p1, bs, eS, bs, z1, bs, gd_t nz, w1, bs, mix_K, bs]
  · have e0 : l_X9_digest_211 FU (sMhs b H) 0 = (f_X9_lays (sMhs b H) 0).bind (fun z12 => l_X9_digest_223 FU (l_X9_digest_211 999) z12 0 0) := rfl
    rw [e0, p3, bs, show l_X9_digest_223 FU (l_X9_digest_211 999) (sm (sMhs b H) g0) 0 0 = _ from q2]
    have e1 : l_X9_digest_211 999 (sMhs (sm b g0) H1) (oN (0 + 1)) = (f_X9_lays (sMhs (sm b g0) H1) 1).bind (fun z12 => l_X9_digest_223 FU (l_X9_digest_211 998) z12 1 0) := rfl
    rw [e1, p5, bs, show l_X9_digest_223 FU (l_X9_digest_211 998) (sm (sMhs (sm b g0) H1) g1) 1 0 = _ from q4]
    have e2 : l_X9_digest_211 998 (sMhs (sm (sm b g0) g1) H2) (oN (1 + 1)) = f_X9_digest_211 (l_X9_digest_211 997) (sMhs (sm (sm b g0) g1) H2) 2 := rfl
    rw [e2]
    unfold f_X9_digest_211
    rw [if_pos (Int32.le_refl _), z2, bs, gd_t nz, w2, bs, mix_M, bs]
    rfl
end DG
theorem s_38 : S_38 Rel := by
  intro j a b v1 v2 v3 v4 hj h
  have hn := rt_n h.1
  have hc : Rel j a (sMhi b 100 0 0) := h
  obtain ⟨H0, k1, k2⟩ := pos_eq (by omega) h
  obtain ⟨H1, k3, k4⟩ := items_l hc FU 0 H0 (Nat.zero_le _) (by rw [FU_e]; omega)
  obtain ⟨H2, k5, k6⟩ := evs_l hc FU 0 H1 (Nat.zero_le _) (by decide)
  obtain ⟨r, a', b', k7, k8, k9⟩ := tail_eq hc H2
  refine ⟨(r, a'), (r, b'), ?_, ?_, rfl, k9.up⟩
  · unfold f_X8_digest f_X8_mixItems
    rw [k1, bs, show l_X8_mixItems_5 FU a H0 0 = _ from k3, bs, show l_X8_digest_16 FU a H1 0 = _ from k5, k7]
  · rw [k2, show l_X9_digest_108 FU (sMhs (sMhi b 100 0 0) H0) 0 = _ from k4, show l_X9_digest_186 FU (sMhs (sMhi b 100 0 0) H1) 0 = _ from k6, k8]
/-! ===== the start ===== -/
theorem rel_0 : Rel 0 a0 b0 := by
  refine ⟨⟨⟨by decide, by decide, rfl, rfl⟩, ⟨fun i hi => ?_, fun k => ?_, fun i hi k => ?_⟩, fun i hi => ?_, ⟨rfl, rfl, rfl, rfl⟩, fun i h1 h2 => ?_, fun i hi => ?_, fun i hi => ?_, fun i hi => ?_, fun i h1 h2 => ?_⟩, ⟨⟨0, 0, rfl, by decide, rfl, rfl, rfl, rfl, Or.inr ⟨rfl, Or.inr rfl⟩, fun z => absurd rfl z, fun z => absurd z (by decide)⟩, ⟨rfl, Or.inl rfl⟩, rfl, ⟨0, by decide, rfl, rfl⟩, ⟨0, by decide, rfl, rfl⟩, ⟨0, by decide, rfl, rfl⟩, ⟨0, by decide, rfl, rfl⟩, fun k hk => ?_, ⟨⟨rfl, 10, by decide, by decide, rfl⟩, ⟨rfl, 30, by decide, by decide, rfl⟩, ⟨rfl, Or.inl rfl⟩⟩, fun k hk => ?_⟩, ⟨⟨0, by decide, rfl, rfl, fun k hk => by omega⟩, fun k => rfl⟩, ⟨⟨0, by decide, rfl, rfl, Or.inl ⟨rfl, rfl⟩, fun k hk => by omega⟩, ⟨0, by decide, rfl, rfl, Or.inl ⟨rfl, rfl⟩, fun k hk => by omega⟩⟩, ⟨0, by decide, rfl, rfl, fun k hk => by omega⟩⟩
  · obtain rfl : i = 0 := by have : i < 1 := hi; omega
    rfl
  · show okr 1 (if k = 0 then some 0 else none) = true
    by_cases g : k = 0
    · rw [if_pos g]; rfl
    · rw [if_neg g]; rfl
  · rfl
  · obtain rfl : i = 0 := by have : i < 1 := hi; omega
    exact ⟨rfl, rfl, rfl, rfl, rfl, rfl, rfl, rfl, Or.inl rfl⟩
  · have : i < 1 := h2
    omega
  · obtain rfl : i = 0 := by have : i < 1 := hi; omega
    exact ⟨0, by decide, rfl, fun _ => by decide⟩
  · obtain rfl : i = 0 := by have : i < 1 := hi; omega
    exact ⟨rfl, by decide⟩
  · obtain rfl : i = 0 := by have : i < 1 := hi; omega
    exact ⟨Or.inl ⟨rfl, rfl, rfl, rfl⟩, by decide, by decide⟩
  · exact ⟨rfl, rfl, rfl, rfl, rfl⟩
  · exact ⟨rfl, 0, by decide, rfl⟩
  · rfl
