/-! ===== what a change of values, codes and locks leaves ===== -/
def core (it it' : Nat → Nat → Int32) : Prop := ∀ k m, m ≠ 10 → m ≠ 11 → m ≠ 12 → it' k m = it k m
theorem core.vr {it it' : Nat → Nat → Int32} (h : core it it') {k : Nat} {v : Int32} (q : VR (it k) v) : VR (it' k) v := by
  unfold VR at *
  rw [h k 5 (by decide) (by decide) (by decide), h k 6 (by decide) (by decide) (by decide)]
  exact q
theorem core.k1 {it it' : Nat → Nat → Int32} (h : core it it') (k : Nat) : it' k 1 = it k 1 := h k 1 (by decide) (by decide) (by decide)
theorem core.k9 {it it' : Nat → Nat → Int32} (h : core it it') {k : Nat} (q : K9 (it k)) : K9 (it' k) := by
  unfold K9 at *
  rw [h.k1, h k 5 (by decide) (by decide) (by decide), h k 6 (by decide) (by decide) (by decide), h k 7 (by decide) (by decide) (by decide)]
  exact q
theorem RT_cg {n : Nat} {c12 m1 : Int32} {it it' : Nat → Nat → Int32} {mn : Nat → Option Nat} {ch : Nat → Nat → Option Nat} {ti : Nat → Option Nat} {m2 m3 m4 m5 m6 m7 m8 m9 m7' m8' m9' : Nat → Int32} (h : RT n c12 m1 it mn ch ti m2 m3 m4 m5 m6 m7 m8 m9) (hc : core it it') (h4 : ∀ i, i < n → it' i 10 = m7' i ∧ it' i 11 = m8' i ∧ it' i 12 = m9' i ∧ (it' i 12 = 0 ∨ it' i 12 = 1) ∧ VR (it i) (it' i 10)) (h7 : ∀ i, n ≤ i → i < 24 → m7' i = 0 ∧ m9' i = 0) : RT n c12 m1 it' mn ch ti m2 m3 m4 m5 m6 m7' m8' m9' := by
  have c0 := fun k => hc k 0 (by decide) (by decide) (by decide)
  have c1 := fun k => hc k 1 (by decide) (by decide) (by decide)
  have c3 := fun k => hc k 3 (by decide) (by decide) (by decide)
  have c4 := fun k => hc k 4 (by decide) (by decide) (by decide)
  have c5 := fun k => hc k 5 (by decide) (by decide) (by decide)
  have c6 := fun k => hc k 6 (by decide) (by decide) (by decide)
  have c7 := fun k => hc k 7 (by decide) (by decide) (by decide)
  have c9 := fun k => hc k 9 (by decide) (by decide) (by decide)
  obtain ⟨t1, t2, t3, ⟨t40, t41, t42, t43⟩, t5, t6, t7, t8, t9⟩ := h
  refine ⟨t1, t2, fun i hi => ?_, ⟨t40, t41, by rw [c3]; exact t42, by rw [c1]; exact t43⟩, fun i i1 i2 => ?_, fun i hi => ?_, fun i hi => ?_, fun i hi => ⟨hc.k9 (t8 i hi).1, hc.vr (h4 i hi).2.2.2.2⟩, fun i i1 i2 => ?_⟩
  · obtain ⟨x0, x1, x5, x6, x7, -⟩ := t3 i hi
    obtain ⟨y10, y11, y12, y13, -⟩ := h4 i hi
    exact ⟨by rw [c0]; exact x0, by rw [c1]; exact x1, by rw [c5]; exact x5, by rw [c6]; exact x6, by rw [c7]; exact x7, y10, y11, y12, y13⟩
  · obtain ⟨p, p1, p2, p3, p4, p5, p6, p7⟩ := t5 i i1 i2
    exact ⟨p, p1, p2, p3, by rw [c1]; exact p4, by rw [c3, c3]; exact p5, by rw [c4]; exact p6, p7⟩
  · obtain ⟨lv, l1, l2, l3⟩ := t6 i hi
    exact ⟨lv, l1, by rw [c3]; exact l2, by rw [c1]; exact l3⟩
  · rw [c9]; exact t7 i hi
  · obtain ⟨x4, x5, x6, -⟩ := t9 i i1 i2
    exact ⟨x4, x5, x6, (h7 i i1 i2).1, (h7 i i1 i2).2⟩
theorem RD_cg {n j : Nat} {it it' : Nat → Nat → Int32} {mn : Nat → Option Nat} {ch : Nat → Nat → Option Nat} {sh : Option Nat} {d dg se ev m mdg mse mev : Nat → Int32} (hc : core it it') (h : RD n it mn ch sh d dg se ev m mdg mse mev j) : RD n it' mn ch sh d dg se ev m mdg mse mev j := by
  obtain ⟨⟨s, c, e1, e2, e3, e4, e5, e6, e7, e8, e9⟩, hr⟩ := h
  exact ⟨⟨s, c, e1, e2, by rw [hc.k1]; exact e3, e4, e5, e6, e7, e8, fun z i hi => ⟨by rw [hc.k1]; exact (e9 z i hi).1, hc.vr (e9 z i hi).2⟩⟩, hr⟩
theorem RG_cg {n : Nat} {it it' : Nat → Nat → Int32} {lg : Nat → Option Nat} {c m : Int32} {lv mi mv : Nat → Int32} (hc : core it it') (h : RG n it lg c lv m mi mv) : RG n it' lg c lv m mi mv := by
  obtain ⟨⟨q, q1, q2, q3, q4⟩, g⟩ := h
  refine ⟨⟨q, q1, q2, q3, fun k hk => ?_⟩, g⟩
  obtain ⟨i, i1, i2, i3, i4, i5, i6⟩ := q4 k hk
  exact ⟨i, i1, i2, i3, i4, by rw [hc.k1]; exact i5, hc.vr i6⟩
theorem RP_cg {n : Nat} {it it' : Nat → Nat → Int32} {p v : Nat → Int32} {m : Int32} {mv : Nat → Int32} (hc : core it it') (h : RP n it p v m mv) : RP n it' p v m mv := by
  obtain ⟨q, q1, q2, q3, q4, q5⟩ := h
  refine ⟨q, q1, q2, q3, q4, fun k hk => ?_⟩
  rw [hc.k1]
  exact ⟨fun z => ⟨((q5 k hk).1 z).1, hc.vr ((q5 k hk).1 z).2⟩, (q5 k hk).2⟩
theorem Kit_s (a : KS) (i j : Nat) (v : Int32) (k m : Nat) : Kit (sKit a i j v) k m = if k = i ∧ m = j then v else Kit a k m := rfl
theorem Kit_n {a : KS} {i j : Nat} {v : Int32} {k m : Nat} (h : m ≠ j) : Kit (sKit a i j v) k m = Kit a k m := by
  rw [Kit_s, if_neg (fun q => h q.2)]
theorem Kit_e {a : KS} {i j : Nat} {v : Int32} {k : Nat} : Kit (sKit a i j v) k j = if k = i then v else Kit a k j := by
  rw [Kit_s]
  by_cases h : k = i
  · rw [if_pos ⟨h, rfl⟩, if_pos h]
  · rw [if_neg (fun q => h q.1), if_neg h]
theorem lock_rel {j : Nat} {a : KS} {b : MS} (h : Rel j a b) {i : Nat} (hi : i < Kn a) (v : Int32) : Rel j (sKit (sKit a i 11 v) i 12 0) (sMhi (sMhi b 108 i v) 109 i 0) := by
  have hc : core (Kit a) (Kit (sKit (sKit a i 11 v) i 12 0)) := fun k m m1 m2 m3 => by rw [Kit_n m3, Kit_n m2]
  obtain ⟨hT, hD, hG, ⟨hP1, hP2⟩, hX⟩ := h
  refine ⟨RT_cg hT hc (fun k hk => ?_) (fun k k1 k2 => ?_), RD_cg hc hD, RG_cg hc hG, ⟨RP_cg hc hP1, RP_cg hc hP2⟩, hX⟩
  · have it := it_at hT hk
    refine ⟨?_, ?_, ?_, ?_, ?_⟩
    · rw [Kit_n (by decide), Kit_n (by decide)]; exact it.2.2.2.2.2.1
    · rw [Kit_n (by decide), Kit_e]
      show _ = Mhi (sMhi b 108 i v) 108 k
      rw [Mhi_s]
      by_cases g : k = i
      · rw [if_pos g, if_pos g]
      · rw [if_neg g, if_neg g]; exact it.2.2.2.2.2.2.1
    · rw [Kit_e, Kit_n (by decide)]
      show _ = Mhi (sMhi (sMhi b 108 i v) 109 i 0) 109 k
      rw [Mhi_s]
      by_cases g : k = i
      · rw [if_pos g, if_pos g]
      · rw [if_neg g, if_neg g]; exact it.2.2.2.2.2.2.2.1
    · rw [Kit_e, Kit_n (by decide)]
      by_cases g : k = i
      · rw [if_pos g]; exact Or.inl rfl
      · rw [if_neg g]; exact it.2.2.2.2.2.2.2.2
    · rw [Kit_n (by decide), Kit_n (by decide)]
      exact (hT.2.2.2.2.2.2.2.1 k hk).2
  · have t9 := hT.2.2.2.2.2.2.2.2 k k1 k2
    refine ⟨t9.2.2.2.1, ?_⟩
    show Mhi (sMhi (sMhi b 108 i v) 109 i 0) 109 k = 0
    rw [Mhi_s]
    by_cases g : k = i
    · rw [if_pos g]
    · rw [if_neg g]; exact t9.2.2.2.2
theorem s_3 : S_3 Rel := by
  intro j a b v1 v2 v3 v4 hj h
  have hn := rt_n h.1
  rcases num_cases h.1 v1 with o | ⟨i, hi, rfl⟩
  · refine ⟨(1, a), (0, sMhi b 100 0 1), 1, ?_, ?_, rfl, rfl, fun q => absurd q n10, h.nx 1⟩
    · simp only [f_L_lock, f_X8_lock, num_out o, bs]; rfl
    · simp only [f_X9_lock, isItem_out h.1 o, bs]; rfl
  · have two : f_X8_lock a (oN i) v2 = some (2, 0, a) → f_X9_lock b (oN i) v2 = some (0, sMhi b 100 0 2) → ∃ (z : Int32 × KS) (w : Int32 × MS) (t : Int32), (f_L_lock a (oN i) v2 = some z) ∧ (f_X9_lock b (oN i) v2 = some w) ∧ (f_X9_thrown w.2 = some t) ∧ (t = z.1) ∧ (z.1 = 0 → (Kou z.2 0) = w.1.toInt64) ∧ Rel (j + 1) z.2 w.2 := by
      intro e1 e2
      refine ⟨(2, a), (0, sMhi b 100 0 2), 2, ?_, e2, rfl, rfl, fun q => absurd q n20, h.nx 2⟩
      unfold f_L_lock
      rw [e1]; rfl
    by_cases e : i = 0
    · subst e
      refine two ?_ ?_
      · simp only [f_X8_lock, num_in h.1 hi, bs, if_true, lt_e, odr_s hi, h.1.2.2.2.1.1, ocs_n]
      · unfold f_X9_lock f_X9_lock_28 f_X9_lock_44
        rw [isItem_in h.1 hi, bs, if_pos n10, if_pos (show oN 0 = 0 from rfl)]; rfl
    · obtain ⟨p, p1, p2, -⟩ := h.1.2.2.2.2.1 i (by omega) hi
      have ei : ¬ oN i = 0 := fun q => e (oN_inj (by omega) (by omega) q)
      have eK : f_X8_lock a (oN i) v2 = if v2 < -1 then some (2, 0, a) else if v2 ≤ 9999 then ((f_X8_requireHome a).bind (fun z14 => if z14 = 0 then some (0, Kit a i 11, sKit (sKit a i 11 v2) i 12 0) else some (z14, 0, a))) else some (2, 0, a) := by
        simp only [f_X8_lock, f_X8_lock_35, num_in h.1 hi, bs, if_true, lt_e, odr_s hi, p2, ocs_s]
        rfl
      by_cases g : v2 < -1 ∨ 9999 < v2
      · refine two ?_ ?_
        · rw [eK]
          by_cases g1 : v2 < -1
          · rw [if_pos g1]
          · rw [if_neg g1, if_neg (Int32.not_le.mpr (g.resolve_left g1))]
        · unfold f_X9_lock f_X9_lock_28 f_X9_lock_44
          rw [isItem_in h.1 hi, bs, if_pos n10, if_neg ei, in_f g]; rfl
      · have g1 : ¬ v2 < -1 := fun q => g (Or.inl q)
        have g2 : ¬ 9999 < v2 := fun q => g (Or.inr q)
        rw [if_neg g1, if_pos (Int32.not_lt.mp g2)] at eK
        rcases home_eq h.1 h.2.1 with ⟨k1, k2, -⟩ | ⟨k1, k2, -⟩
        · refine ⟨(0, sKou (sKit (sKit a i 11 v2) i 12 0) 0 (Kit a i 11).toInt64), (Mhi b 108 i, sMhi (sMhi (sMhi b 100 0 0) 108 i v2) 109 i 0), 0, ?_, ?_, rfl, rfl, fun _ => ?_, ((lock_rel (h.thr 0) hi v2).kou 0 _).up⟩
          · unfold f_L_lock
            rw [eK]
            unfold f_X8_requireHome
            rw [k1]; rfl
          · unfold f_X9_lock f_X9_lock_44
            rw [isItem_in h.1 hi, bs, if_pos n10, if_neg ei, in_t g1 g2, bs, if_pos n10, k2, bs, if_pos n10, holds_0, bs, if_pos n10, gd_t (in24 h.1 hi), lt_e, gd_t (in24 h.1 hi), gd_t (in24 h.1 hi), cl_n h.1 hi]; rfl
          · show (Kit a i 11).toInt64 = _
            rw [(it_at h.1 hi).2.2.2.2.2.2.1]
        · refine ⟨(3, a), (0, sMhi b 100 0 3), 3, ?_, ?_, rfl, rfl, fun q => absurd q n30, h.nx 3⟩
          · unfold f_L_lock
            rw [eK]
            unfold f_X8_requireHome
            rw [k1]; rfl
          · unfold f_X9_lock f_X9_lock_44
            rw [isItem_in h.1 hi, bs, if_pos n10, if_neg ei, in_t g1 g2, bs, if_pos n10, k2]; rfl
