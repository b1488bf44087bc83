/-! ===== taking back ===== -/
theorem Mhi_np {b : MS} {p j q k : Nat} {v : Int32} (h : p ≠ q) : Mhi (sMhi b p j v) q k = Mhi b q k := by
  show (if q = p ∧ k = j then v else _) = _
  rw [if_neg (fun z => h z.1.symm)]; rfl
theorem Khi_np {a : KS} {p j q k : Nat} {v : Int32} (h : p ≠ q) : Khi (sKhi a p j v) q k = Khi a q k := by
  show (if q = p ∧ k = j then v else _) = _
  rw [if_neg (fun z => h z.1.symm)]; rfl
theorem Mhi_sn {b : MS} {p j k : Nat} {v : Int32} (h : k ≠ j) : Mhi (sMhi b p j v) p k = Mhi b p k := by rw [Mhi_s, if_neg h]
theorem Mhi_se {b : MS} {p j : Nat} {v : Int32} : Mhi (sMhi b p j v) p j = v := by rw [Mhi_s, if_pos rfl]
theorem Khi_sn {a : KS} {p j k : Nat} {v : Int32} (h : k ≠ j) : Khi (sKhi a p j v) p k = Khi a p k := by rw [Khi_s, if_neg h]
theorem Khi_se {a : KS} {p j : Nat} {v : Int32} : Khi (sKhi a p j v) p j = v := by rw [Khi_s, if_pos rfl]
theorem take_M {b : MS} {q i : Nat} (hq : q < 8) (hi : i < 24) (h1 : Mhi b 100 23 = oN (q + 1)) (h2 : Mhi b 121 q = oN i) : f_X9_takeBack b = some (oN i, sMhi (sMhi (sMhi (sMhi b 100 0 0) 100 23 (oN q)) 120 3 (Mhi b 120 3 + 1)) 107 i (Mhi b 122 q)) := by
  have e1 : oN (q + 1) - 1 = oN q := oN_pred (by omega)
  have c3 : (3 : Int32).toNatClampNeg = 3 := rfl
  have cq : (oN q).toNatClampNeg = q := ofNat_cl (by omega)
  have ci : (oN i).toNatClampNeg = i := ofNat_cl (by omega)
  have b3 : inb 3 8 = true := by decide
  have bq : inb (oN q) 8 = true := inb_oN hq (by decide)
  have bi : inb (oN i) 24 = true := inb_oN hi (by decide)
  have g0 : ¬ oN (q + 1) ≤ 0 := by rw [show (0 : Int32) = oN 0 from rfl, oN_le (by omega) (by decide)]; omega
  unfold f_X9_takeBack f_X9_takeBack_13
  rw [h1, if_neg g0, holds_0, bs, if_pos n10]
  simp (disch := decide) only [Mhi_np, Mhi_se, Mhi_sn, h1, h2, e1, c3, cq, ci, if_true, gd_t b3, gd_t bq, gd_t bi]
theorem val_rel {j : Nat} {a : KS} {b : MS} (h : Rel j a b) {i : Nat} (hi : i < Kn a) {x : Int32} (hx : VR (Kit a i) x) : Rel j (sKit a i 10 x) (sMhi b 107 i x) := by
  have hc : core (Kit a) (Kit (sKit a i 10 x)) := fun k m m1 m2 m3 => by rw [Kit_n m1]
  obtain ⟨hT, hD, hG, ⟨hP1, hP2⟩, hX⟩ := h
  refine ⟨RT_cg hT hc (fun k hk => ?_) (fun k k1 k2 => ?_), RD_cg hc hD, RG_cg hc hG, ⟨RP_cg hc hP1, RP_cg hc hP2⟩, hX⟩
  · have it := it_at hT hk
    refine ⟨?_, ?_, ?_, ?_, ?_⟩
    · rw [Kit_e, Mhi_s]
      by_cases g : k = i
      · rw [if_pos g, if_pos g]
      · rw [if_neg g, if_neg g]; exact it.2.2.2.2.2.1
    · rw [Kit_n (by decide)]; exact it.2.2.2.2.2.2.1
    · rw [Kit_n (by decide)]; exact it.2.2.2.2.2.2.2.1
    · rw [Kit_n (by decide)]; exact it.2.2.2.2.2.2.2.2
    · rw [Kit_e]
      by_cases g : k = i
      · rw [if_pos g, g]; exact hx
      · rw [if_neg g]; exact (hT.2.2.2.2.2.2.2.1 k hk).2
  · have t9 := hT.2.2.2.2.2.2.2.2 k k1 k2
    refine ⟨?_, t9.2.2.2.2⟩
    have k1 : Kn a ≤ k := k1
    rw [Mhi_s, if_neg (by omega)]
    exact t9.2.2.2.1
theorem take_K {a : KS} {q i : Nat} (hq : q < 8) (hi : i < Kn a) (h1 : Khi a 3 2 = oN (q + 1)) (h2 : Klg a q = some i) : f_X8_takeBack a = some (0, Kit a i 0, sKhi (sKhi (sKit a i 10 (Khi a 5 q)) 3 2 (oN q)) 13 3 (Khi a 13 3 + 1)) := by
  have e1 : oN (q + 1) - 1 = oN q := oN_pred (by omega)
  have cq : (oN q).toNatClampNeg = q := ofNat_cl (by omega)
  have bq : inb (oN q) 8 = true := inb_oN hq (by decide)
  have g0 : ¬ oN (q + 1) ≤ 0 := by rw [show (0 : Int32) = oN 0 from rfl, oN_le (by omega) (by decide)]; omega
  have g8 : ¬ 8 < oN (q + 1) := by rw [show (8 : Int32) = oN 8 from rfl, oN_lt (by decide) (by omega)]; omega
  have l1 : f_X3_latestItem a = some (some i) := by
    unfold f_X3_latestItem
    rw [h1, if_neg g0, if_neg g8, e1, gd_t bq, lt_e, cq, h2]
  have l2 : f_X3_latestValue a = some (Khi a 5 q) := by
    unfold f_X3_latestValue
    rw [h1, if_neg g0, if_neg g8, e1, gd_t bq, cq]
  have l3 : f_X3_removeLatest (sKit a i 10 (Khi a 5 q)) = some (sKhi (sKit a i 10 (Khi a 5 q)) 3 2 (oN q)) := by
    unfold f_X3_removeLatest
    rw [show Khi (sKit a i 10 (Khi a 5 q)) 3 2 = Khi a 3 2 from rfl, h1, if_neg g0, e1]
  unfold f_X8_takeBack
  rw [l1, bs, ocs_s, l2, bs, gd_d hi, l3, bs, show (3 : Int32) = oN 3 from rfl, count_in _ (by decide), bs]
  refine Eq.trans (gd_d (P := i < Kn a) hi) ?_
  rw [show Kit (sKhi (sKhi (sKit a i 10 (Khi a 5 q)) 3 2 (oN q)) 13 3 (Khi (sKhi (sKit a i 10 (Khi a 5 q)) 3 2 (oN q)) 13 3 + 1)) i 0 = Kit (sKit a i 10 (Khi a 5 q)) i 0 from rfl, Kit_n (by decide)]
  rfl
theorem s_14 : S_14 Rel := by
  intro j a b v1 v2 v3 v4 hj h
  have hn := rt_n h.1
  obtain ⟨⟨q, q1, q2, q3, q4⟩, gl⟩ := h.2.2.1
  by_cases e : q = 0
  · subst e
    refine ⟨(1, a), (0, sMhi b 100 0 1), 1, ?_, ?_, rfl, rfl, fun z => absurd z n10, h.nx 1⟩
    · unfold f_L_takeBack f_X8_takeBack f_X3_latestItem
      rw [q2, if_pos (show oN 0 ≤ 0 from Int32.le_refl 0)]; rfl
    · unfold f_X9_takeBack f_X9_takeBack_13
      rw [q3, if_pos (show oN 0 ≤ 0 from Int32.le_refl 0)]; rfl
  · obtain ⟨p, rfl⟩ : ∃ p, q = p + 1 := ⟨q - 1, by omega⟩
    obtain ⟨i, i1, i2, i3, i4, i5, i6⟩ := q4 p (by omega)
    have hv := val_rel (h.thr 0) i1 i6
    refine ⟨(0, sKou (sKhi (sKhi (sKit a i 10 (Khi a 5 p)) 3 2 (oN p)) 13 3 (Khi a 13 3 + 1)) 0 (Kit a i 0).toInt64), _, 0, ?_, take_M (by omega) (by omega) q3 i3, rfl, rfl, fun _ => ?_, ?_⟩
    · unfold f_L_takeBack
      rw [take_K (by omega) i1 q2 i2]; rfl
    · show (Kit a i 0).toInt64 = _
      rw [(it_at h.1 i1).1]
    · obtain ⟨hT, ⟨d1, d2, d3, d4, d5, d6, d7, d8, d9, ev⟩, ⟨⟨q', x1, x2, x3, x4⟩, x5⟩, hP, hX⟩ := hv
      obtain rfl : q' = p + 1 := oN_inj (by omega) (by omega) (x2.symm.trans q2)
      rw [← i4]
      refine Rel.up j _ _ ⟨hT, ⟨d1, d2, d3, d4, d5, d6, d7, d8, d9, ?_⟩, ⟨⟨p, by omega, rfl, rfl, fun k hk => x4 k (by omega)⟩, x5⟩, hP, hX⟩
      exact ev_up (a := a) (b := b) ev (by rw [h.2.1.2.2.2.2.2.2.2.2.2 3 (by decide)])
