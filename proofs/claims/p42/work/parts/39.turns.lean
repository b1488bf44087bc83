/-! ===== turning, done ===== -/
theorem Khi_s (a : KS) (p j : Nat) (v : Int32) (k : Nat) : Khi (sKhi a p j v) p k = if k = j then v else Khi a p k := by
  show (if p = p ∧ k = j then v else _) = _
  by_cases h : k = j
  · rw [if_pos ⟨rfl, h⟩, if_pos h]
  · rw [if_neg (fun q => h q.2), if_neg h]; rfl
theorem Mhi_s (b : MS) (p j : Nat) (v : Int32) (k : Nat) : Mhi (sMhi b p j v) p k = if k = j then v else Mhi b p k := by
  show (if p = p ∧ k = j then v else _) = _
  by_cases h : k = j
  · rw [if_pos ⟨rfl, h⟩, if_pos h]
  · rw [if_neg (fun q => h q.2), if_neg h]; rfl
/-- a count on both sides -/
theorem count_in (a : KS) {e : Nat} (he : e < 8) (w : Int32) : f_X2_count a (oN e) w = some (sKhi a 13 e (Khi a 13 e + w)) := by
  unfold f_X2_count
  rw [if_neg (oN_nn (by omega)), if_neg (fun z => by rw [show (8 : Int32) = oN 8 from rfl, oN_le (by decide) (by omega)] at z; omega), gd_t (inb_oN he (by decide)), gd_t (inb_oN he (by decide)), ofNat_cl (by omega)]
theorem ev_up {a : KS} {b : MS} {e : Nat} {w w' : Int32} (h : ∀ k, k < 8 → Khi a 13 k = Mhi b 120 k) (hw : w = w') : ∀ k, k < 8 → Khi (sKhi a 13 e w) 13 k = Mhi (sMhi b 120 e w') 120 k := by
  intro k hk
  rw [Khi_s, Mhi_s, hw]
  by_cases g : k = e
  · rw [if_pos g, if_pos g]
  · rw [if_neg g, if_neg g, h k hk]
theorem turns_eq {j : Nat} (j' : Nat) {a : KS} {b : MS} {v : Int32} (h : Rel j a b) (h1 : -50 ≤ v.toInt) (h2 : v.toInt ≤ 50) : ∃ (r : Int32) (a' : KS) (b' : MS), f_X2_turnBy a v = some (r, a') ∧ f_X9_turns b v = some (r, b') ∧ Mhi b' 100 0 = Mhi b 100 0 ∧ Rel j' a' b' := by
  obtain ⟨r, r1, r2, r3, r4, r5⟩ := turned_eq h.1 h.2.1 h1 h2
  have ch := chosen_eq h.1 h.2.1
  obtain ⟨hT, ⟨⟨s, c, e1, e2, e3, e4, e5, e6, e7, e8, e9⟩, ⟨m1, m2⟩, m8, ⟨q, q1, q2, q3⟩, ⟨i0, i1, i2, i3⟩, bar, wr, dg, se, ev⟩, hrest⟩ := h
  have n01 : ¬ (0 : Int32) = 1 := by decide
  have n02 : ¬ (0 : Int32) = 2 := by decide
  have n21 : ¬ (2 : Int32) = 1 := by decide
  obtain ⟨w, hw⟩ : ∃ w, w = Khi a 13 0 + mabs v := ⟨_, rfl⟩
  have eM : f_X9_turns b v = f_X9_turns_28 (sMhi b 100 16 0) r 0 (Mhi b 120 0) (mabs v) := by
    unfold f_X9_turns mabs
    rw [r2, bs, gd_t (by decide)]
    by_cases g : 0 ≤ v
    · rw [if_pos g, if_pos g]; rfl
    · rw [if_neg g, if_neg g, Int32.zero_sub]; rfl
  have eM2 : Mhi b 120 0 + mabs v = w := by rw [hw, ev 0 (by decide)]
  rw [eM]
  unfold f_X2_turnBy f_X2_turnBy_47 f_X9_turns_28
  rw [r1, bs, gd_t (by decide), eM2, show (0 : Int32).toNatClampNeg = 0 from rfl]
  rw [show Mhi (sMhi (sMhi b 100 16 0) 120 0 w) 100 10 = Mhi b 100 10 from rfl, ← m1]
  rcases m2 with m | m | m
  · rw [m, if_pos n01, if_pos n02, if_neg nn00, show (0 : Int32) = oN 0 from rfl, count_in _ (by decide), bs]
    obtain ⟨s', c', g1, g2, g3⟩ := r3 m
    obtain rfl : s' = s := Option.some.inj (g1.symm.trans e1)
    refine ⟨r, _, _, rfl, rfl, rfl, hT, ⟨⟨s', c', e1, e2, e3, e4, g2, g2, g3, fun z => absurd m z, fun z => absurd (m.symm.trans z) n01⟩, ⟨m1, Or.inl m⟩, m8, ⟨q, q1, q2, q3⟩, ⟨0, by omega, rfl, rfl⟩, bar, wr, dg, se, ?_⟩, hrest⟩
    exact ev_up (a := sKhi (sKhi a 10 7 r) 10 10 (oN 0)) (b := sMhi b 100 16 0) ev hw.symm
  · rw [m, if_neg nn11, if_pos n10, if_neg nn11, show (0 : Int32) = oN 0 from rfl, count_in _ (by decide), bs]
    refine ⟨r, _, _, rfl, rfl, rfl, hT, ⟨⟨s, c, e1, e2, e3, e4, e5, e6, e7, e8, fun _ i hi => ?_⟩, ⟨m1, Or.inr (Or.inl m)⟩, rfl, ⟨q, q1, q2, q3⟩, ⟨0, by omega, rfl, rfl⟩, bar, wr, dg, se, ?_⟩, hrest⟩
    · obtain ⟨s', c', g1, g2, g3, g4, g5, g6, g7, ⟨i', k1, k2, k3, k4, k5, k6, k7, k8⟩ | ⟨z, -⟩⟩ := ch
      · obtain rfl : s' = s := Option.some.inj (g1.symm.trans e1)
        have cc : c' = c := by
          have h9 := (hT.2.2.2.2.2.2.1 s' g2).2
          exact oN_inj (by omega) (by omega) (g5.symm.trans e5)
        subst cc
        have ei : i' = i := Option.some.inj (k6.symm.trans hi)
        subst ei
        exact r4 m i' k8
      · exact absurd (z.symm.trans m) n01
    · exact ev_up (a := sKhi (sKhi a 10 8 r) 10 10 (oN 0)) (b := sMhi b 100 16 0) ev hw.symm
  · obtain ⟨d, dl, de⟩ := r5 m
    rw [m, if_pos n21, if_neg nn22, if_pos n20, if_pos n21, q2]
    unfold f_X2_changeDigit
    have hq : ¬ 4 ≤ oN q := fun z => by rw [show (4 : Int32) = oN 4 from rfl, oN_le (by decide) (by omega)] at z; omega
    rw [if_neg (oN_nn (by omega)), if_neg hq, gd_t (inb_oN q1 (by decide)), ofNat_cl (by omega), bs, show (0 : Int32) = oN 0 from rfl, count_in _ (by decide), bs]
    rw [show Mhi (sMhi (sMhi b 100 16 (oN 0)) 120 0 w) 100 15 = Mhi b 100 15 from rfl, q3, gd_t (inb_oN q1 (by decide)), ofNat_cl (by omega)]
    refine ⟨r, _, _, rfl, rfl, rfl, hT, ⟨⟨s, c, e1, e2, e3, e4, e5, e6, e7, e8, fun z => absurd (m.symm.trans z) n21⟩, ⟨m1, Or.inr (Or.inr m)⟩, m8, ⟨q, q1, q2, q3⟩, ⟨0, by omega, rfl, rfl⟩, bar, wr, ?_, se, ?_⟩, hrest⟩
    · intro k hk
      show Khi (sKhi a 11 q r) 11 k = Mhi (sMhi b 114 q r) 114 k ∧ ∃ x : Nat, x < 10 ∧ Khi (sKhi a 11 q r) 11 k = oN x
      rw [Khi_s, Mhi_s]
      by_cases g : k = q
      · rw [if_pos g, if_pos g]; exact ⟨rfl, d, dl, de⟩
      · rw [if_neg g, if_neg g]; exact dg k hk
    · exact ev_up (a := sKhi (sKhi a 11 q r) 10 10 (oN 0)) (b := sMhi b 100 16 0) ev hw.symm
theorem det_cases (v : Int32) : ((v < -50 ∨ 50 < v) ∨ (¬ v < -50 ∧ ¬ 50 < v ∧ -50 ≤ v.toInt ∧ v.toInt ≤ 50)) := by
  have z1 : (-50 : Int32).toInt = -50 := by decide
  have z2 : (50 : Int32).toInt = 50 := by decide
  rw [Int32.lt_iff_toInt_lt, Int32.lt_iff_toInt_lt, z1, z2]
  omega
theorem reqD_out {a : KS} {v : Int32} (o : v < -50 ∨ 50 < v) : f_X8_requireDetents a v = some 2 := by
  unfold f_X8_requireDetents f_X8_requireDetents_12
  by_cases g : v < -50
  · rw [if_pos g]
  · rw [if_neg g, if_neg (Int32.not_le.mpr (o.resolve_left g))]
theorem reqD_in {a : KS} {v : Int32} (o1 : ¬ v < -50) (o2 : ¬ 50 < v) : f_X8_requireDetents a v = some 0 := by
  unfold f_X8_requireDetents
  rw [if_neg o1, if_pos (Int32.not_lt.mp o2)]
theorem s_9 : S_9 Rel := by
  intro j a b v1 v2 v3 v4 hj h
  rcases det_cases v1 with o | ⟨o1, o2, o3, o4⟩
  · refine ⟨(1, a), (0, sMhi b 100 0 1), 1, ?_, ?_, rfl, rfl, fun q => absurd q n10, h.nx 1⟩
    · unfold f_L_turn f_X8_turn
      rw [reqD_out o]; rfl
    · unfold f_X9_turn f_X9_turn_17
      rw [in_f o]; rfl
  · obtain ⟨r, a', b', r1, r2, r0, r3⟩ := turns_eq j (h.thr 0) o3 o4
    refine ⟨(0, sKou a' 0 r.toInt64), (r, b'), Mhi b' 100 0, ?_, ?_, rfl, ?_, fun _ => rfl, (r3.kou 0 _).up⟩
    · unfold f_L_turn f_X8_turn
      rw [reqD_in o1 o2, bs, if_pos rfl, r1]; rfl
    · unfold f_X9_turn f_X9_turn_17
      rw [in_t o1 o2, bs, if_neg n10, holds_0, bs, if_neg n10, r2]; rfl
    · exact r0
theorem s_28 : S_28 Rel := by
  intro j a b v1 v2 v3 v4 hj h
  rcases det_cases v1 with o | ⟨o1, o2, o3, o4⟩
  · refine ⟨(1, a), (0, sMhi b 100 0 1), 1, ?_, ?_, rfl, rfl, fun q => absurd q n10, h.nx 1⟩
    · unfold f_L_ifTurned f_X8_ifTurned
      rw [reqD_out o]; rfl
    · unfold f_X9_ifTurned f_X9_ifTurned_17
      rw [in_f o]; rfl
  · obtain ⟨r, r1, r2, -⟩ := turned_eq (h.thr 0).1 (h.thr 0).2.1 o3 o4
    refine ⟨(0, sKou a 0 r.toInt64), (r, sMhi b 100 0 0), 0, ?_, ?_, rfl, rfl, fun _ => rfl, h.nk 0 0 _⟩
    · unfold f_L_ifTurned f_X8_ifTurned
      rw [reqD_in o1 o2, bs, if_pos rfl, r1]; rfl
    · unfold f_X9_ifTurned f_X9_ifTurned_17
      rw [in_t o1 o2, bs, if_neg n10, holds_0, bs, if_neg n10, r2]; rfl
