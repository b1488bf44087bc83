/-! ===== the text's signs kept; going home ===== -/
theorem chr_in : ∀ x : Nat, x < 127 → vp_nar .char (((oN x).toUInt32 % 65536).toInt32) = oN x := by decide
theorem s_34 : S_34 Rel := by
  intro j a b v1 v2 v3 v4 hj h
  have z33 : (33 : Int32) = oN 33 := rfl
  have z126 : (126 : Int32) = oN 126 := rfl
  by_cases o : v1 < 33 ∨ 126 < v1
  · refine ⟨(1, a), (0, sMhi b 100 0 1), 1, ?_, ?_, rfl, rfl, fun q => absurd q n10, h.nx 1⟩
    · unfold f_L_append f_X8_append f_X8_append_12
      by_cases g : v1 < 33
      · rw [if_pos g]; rfl
      · rw [if_neg g, if_neg (Int32.not_le.mpr (o.resolve_left g))]; rfl
    · unfold f_X9_append f_X9_append_30
      rw [in_f o]; rfl
  · have o1 : ¬ v1 < 33 := fun q => o (Or.inl q)
    have o2 : ¬ 126 < v1 := fun q => o (Or.inr q)
    obtain ⟨x, x1, x2, rfl⟩ := rng2 (lo := 33) (hi := 126) (by decide) (by decide) o1 o2
    have hr := h
    obtain ⟨h1, h2, h3, h4, ⟨q, q1, q2, q3, q4⟩⟩ := hr
    by_cases f : q = 60
    · subst f
      refine ⟨(2, a), (0, sMhi b 100 0 2), 2, ?_, ?_, rfl, rfl, fun z => absurd z n20, h.nx 2⟩
      · unfold f_L_append f_X8_append
        rw [if_neg o1, if_pos (Int32.not_lt.mp o2), q2]; rfl
      · unfold f_X9_append f_X9_append_30
        rw [in_t o1 o2, bs, if_pos n10, q3]; rfl
    · have ql : q < 60 := by omega
      refine ⟨(0, sKou (sKhi (sKhi a 17 q (oN x)) 16 2 (oN (q + 1))) 0 (oN (q + 1)).toInt64), (oN (q + 1), sMhi (sMhi (sMhi b 100 0 0) 126 q (oN x)) 100 27 (oN (q + 1))), 0, ?_, ?_, rfl, rfl, fun _ => rfl, ?_⟩
      · unfold f_L_append f_X8_append f_X1_keep
        rw [if_neg o1, if_pos (Int32.not_lt.mp o2), q2, if_pos (show oN q < 60 from (oN_lt (y := 60) (by omega) (by decide)).mpr ql), if_neg (oN_nn (by omega)), if_neg (show ¬ 60 ≤ oN q from fun z => by rw [show (60 : Int32) = oN 60 from rfl, oN_le (by decide) (by omega)] at z; omega), gd_t (inb_oN ql (by decide)), ofNat_cl (by omega), chr_in x (by omega), show Khi (sKhi a 17 q (oN x)) 16 2 = Khi a 16 2 from rfl, q2, oN_succ]; rfl
      · unfold f_X9_append f_X9_append_30
        rw [in_t o1 o2, bs, if_pos n10, q3, if_pos (show ¬ oN q = 60 from fun z => f (oN_inj (y := 60) (by omega) (by decide) z)), holds_0, bs, if_pos n10, show Mhi (1, sMhi b 100 0 0).2 100 27 = Mhi b 100 27 from rfl, q3, gd_t (inb_oN ql (by decide)), ofNat_cl (by omega), show Mhi (sMhi (1, sMhi b 100 0 0).2 126 q (oN x)) 100 27 = Mhi b 100 27 from rfl, q3, oN_succ]; rfl
      · refine Rel.up j _ _ ⟨h1, h2, h3, h4, ⟨q + 1, by omega, rfl, rfl, fun k hk => ?_⟩⟩
        show Khi (sKhi a 17 q (oN x)) 17 k = Mhi (sMhi b 126 q (oN x)) 126 k ∧ ∃ y : Nat, 33 ≤ y ∧ y ≤ 126 ∧ Khi (sKhi a 17 q (oN x)) 17 k = oN y
        rw [Khi_s, Mhi_s]
        by_cases g : k = q
        · rw [if_pos g, if_pos g]; exact ⟨rfl, x, x1, x2, rfl⟩
        · rw [if_neg g, if_neg g]; exact q4 k (by omega)
