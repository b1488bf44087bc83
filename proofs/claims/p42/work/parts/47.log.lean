/-! ===== the log kept ===== -/
def shL (a : KS) (k : Nat) : KS := (fun p m => if p = 5 ∧ k ≤ m + 1 ∧ m < 7 then Khi a 5 (m + 1) else Khi a p m, a.2.1, a.2.2.1, a.2.2.2.1, a.2.2.2.2.1, (fun m => if k ≤ m + 1 ∧ m < 7 then Klg a (m + 1) else Klg a m), a.2.2.2.2.2.2)
def shM (b : MS) (k : Nat) : MS := (fun p m => if (p = 121 ∨ p = 122) ∧ k ≤ m + 1 ∧ m < 7 then Mhi b p (m + 1) else Mhi b p m, b.2)
theorem shL_8 (a : KS) : shL a 8 = a := by
  have e1 : (fun p m => if p = 5 ∧ 8 ≤ m + 1 ∧ m < 7 then Khi a 5 (m + 1) else Khi a p m) = a.1 := by
    funext p m
    rw [if_neg (by omega)]; rfl
  have e2 : (fun m => if 8 ≤ m + 1 ∧ m < 7 then Klg a (m + 1) else Klg a m) = a.2.2.2.2.2.1 := by
    funext m
    rw [if_neg (by omega)]; rfl
  unfold shL
  rw [e1, e2]
theorem shM_8 (b : MS) : shM b 8 = b := by
  have e1 : (fun p m => if (p = 121 ∨ p = 122) ∧ 8 ≤ m + 1 ∧ m < 7 then Mhi b p (m + 1) else Mhi b p m) = b.1 := by
    funext p m
    rw [if_neg (by omega)]; rfl
  unfold shM
  rw [e1]
theorem shL_s (a : KS) {k i : Nat} (h1 : 1 ≤ k) (h2 : k < 8) (h : Klg a k = some i) : shL (sKhi (sKlg a (k - 1) (some i)) 5 (k - 1) (Khi a 5 k)) (k + 1) = shL a k := by
  have e1 : (fun p m => if p = 5 ∧ k + 1 ≤ m + 1 ∧ m < 7 then Khi (sKhi (sKlg a (k - 1) (some i)) 5 (k - 1) (Khi a 5 k)) 5 (m + 1) else Khi (sKhi (sKlg a (k - 1) (some i)) 5 (k - 1) (Khi a 5 k)) p m) = fun p m => if p = 5 ∧ k ≤ m + 1 ∧ m < 7 then Khi a 5 (m + 1) else Khi a p m := by
    funext p m
    show (if p = 5 ∧ k + 1 ≤ m + 1 ∧ m < 7 then (if 5 = 5 ∧ m + 1 = k - 1 then Khi a 5 k else Khi a 5 (m + 1)) else (if p = 5 ∧ m = k - 1 then Khi a 5 k else Khi a p m)) = _
    by_cases g : p = 5
    · by_cases g1 : k + 1 ≤ m + 1 ∧ m < 7
      · rw [if_pos ⟨g, g1⟩, if_neg (by omega), if_pos (by omega)]
      · rw [if_neg (fun q => g1 q.2)]
        by_cases g2 : m = k - 1
        · rw [if_pos ⟨g, g2⟩, if_pos (by omega), show m + 1 = k by omega]
        · rw [if_neg (fun q => g2 q.2), if_neg (by omega)]
    · rw [if_neg (fun q => g q.1), if_neg (fun q => g q.1), if_neg (fun q => g q.1)]
  have e2 : (fun m => if k + 1 ≤ m + 1 ∧ m < 7 then Klg (sKhi (sKlg a (k - 1) (some i)) 5 (k - 1) (Khi a 5 k)) (m + 1) else Klg (sKhi (sKlg a (k - 1) (some i)) 5 (k - 1) (Khi a 5 k)) m) = fun m => if k ≤ m + 1 ∧ m < 7 then Klg a (m + 1) else Klg a m := by
    funext m
    show (if k + 1 ≤ m + 1 ∧ m < 7 then (if m + 1 = k - 1 then some i else Klg a (m + 1)) else (if m = k - 1 then some i else Klg a m)) = _
    by_cases g1 : k + 1 ≤ m + 1 ∧ m < 7
    · rw [if_pos g1, if_neg (by omega), if_pos (by omega)]
    · rw [if_neg g1]
      by_cases g2 : m = k - 1
      · rw [if_pos g2, if_pos (by omega), show m + 1 = k by omega, h]
      · rw [if_neg g2, if_neg (by omega)]
  unfold shL
  rw [e1, e2]; rfl
theorem shM_s (b : MS) {k : Nat} (h1 : 1 ≤ k) (h2 : k < 8) : shM (sMhi (sMhi b 121 (k - 1) (Mhi b 121 k)) 122 (k - 1) (Mhi b 122 k)) (k + 1) = shM b k := by
  have e1 : (fun p m => if (p = 121 ∨ p = 122) ∧ k + 1 ≤ m + 1 ∧ m < 7 then Mhi (sMhi (sMhi b 121 (k - 1) (Mhi b 121 k)) 122 (k - 1) (Mhi b 122 k)) p (m + 1) else Mhi (sMhi (sMhi b 121 (k - 1) (Mhi b 121 k)) 122 (k - 1) (Mhi b 122 k)) p m) = fun p m => if (p = 121 ∨ p = 122) ∧ k ≤ m + 1 ∧ m < 7 then Mhi b p (m + 1) else Mhi b p m := by
    funext p m
    show (if (p = 121 ∨ p = 122) ∧ k + 1 ≤ m + 1 ∧ m < 7 then (if p = 122 ∧ m + 1 = k - 1 then Mhi b 122 k else if p = 121 ∧ m + 1 = k - 1 then Mhi b 121 k else Mhi b p (m + 1)) else (if p = 122 ∧ m = k - 1 then Mhi b 122 k else if p = 121 ∧ m = k - 1 then Mhi b 121 k else Mhi b p m)) = _
    by_cases g : p = 121 ∨ p = 122
    · by_cases g1 : k + 1 ≤ m + 1 ∧ m < 7
      · rw [if_pos ⟨g, g1⟩, if_neg (by omega), if_neg (by omega), if_pos ⟨g, by omega⟩]
      · rw [if_neg (fun q => g1 q.2)]
        by_cases g2 : m = k - 1
        · rw [if_pos (show (p = 121 ∨ p = 122) ∧ k ≤ m + 1 ∧ m < 7 from ⟨g, by omega⟩), show m + 1 = k by omega]
          rcases g with g | g
          · rw [if_neg (by omega), if_pos ⟨g, g2⟩, g]
          · rw [if_pos ⟨g, g2⟩, g]
        · rw [if_neg (fun q => g2 q.2), if_neg (fun q => g2 q.2), if_neg (fun q => g2 (by omega))]
    · rw [if_neg (fun q => g q.1), if_neg (fun q => g (Or.inr q.1)), if_neg (fun q => g (Or.inl q.1)), if_neg (fun q => g q.1)]
  unfold shM
  rw [e1]; rfl
theorem shift_K : ∀ (fuel : Nat) (a : KS) (k : Nat), 1 ≤ k → k ≤ 8 → 8 - k < fuel → (∀ m, k ≤ m → m < 8 → ∃ i, i < Kn a ∧ Klg a m = some i) → l_X3_removeOldest_2 fuel a (oN k) = f_X3_removeLatest (shL a k) := by
  intro fuel
  induction fuel with
  | zero => intro a k _ _ h3; omega
  | succ f ih =>
    intro a k k1 k2 k3 hl
    have e0 : l_X3_removeOldest_2 (f + 1) a (oN k) = f_X3_removeOldest_2 (l_X3_removeOldest_2 f) a (oN k) := rfl
    rw [e0]
    unfold f_X3_removeOldest_2 f_X3_removeOldest_54
    by_cases e : k = 8
    · subst e
      rw [if_pos (show (8 : Int32) ≤ oN 8 from Int32.le_refl 8), shL_8]
      cases f_X3_removeLatest a <;> rfl
    · have hk : k < 8 := by omega
      have g : ¬ (8 : Int32) ≤ oN k := fun z => by rw [show (8 : Int32) = oN 8 from rfl, oN_le (by decide) (by omega)] at z; omega
      obtain ⟨i, i1, i2⟩ := hl k (Nat.le_refl _) hk
      rw [if_neg g, if_neg g, gd_t (inb_oN hk (by decide)), lt_e, ofNat_cl (by omega), i2, odr_s i1, oN_pred k1, gd_t (inb_oN (by omega) (by decide)), gd_t (inb_oN hk (by decide)), gd_t (inb_oN (by omega) (by decide)), ofNat_cl (by omega), oN_succ]
      rw [show Khi (sKlg a (k - 1) (some i)) 5 k = Khi a 5 k from rfl, ← shL_s a k1 hk i2]
      refine ih _ (k + 1) (by omega) (by omega) (by omega) (fun m m1 m2 => ?_)
      obtain ⟨i', x1, x2⟩ := hl m (by omega) m2
      refine ⟨i', x1, ?_⟩
      show (if m = k - 1 then some i else Klg a m) = some i'
      rw [if_neg (by omega)]; exact x2
theorem shift_M {v1 v2 : Int32} : ∀ (fuel : Nat) (b : MS) (k : Nat), 1 ≤ k → k ≤ 8 → 8 - k < fuel → Mhi b 100 23 = 8 → l_X9_logs_2 fuel b v1 v2 (oN k) = f_X9_logs_51 (shM b k) v1 v2 := by
  intro fuel
  induction fuel with
  | zero => intro b k _ _ h3; omega
  | succ f ih =>
    intro b k k1 k2 k3 hl
    have e0 : l_X9_logs_2 (f + 1) b v1 v2 (oN k) = f_X9_logs_2 (l_X9_logs_2 f) b v1 v2 (oN k) := rfl
    rw [e0]
    unfold f_X9_logs_2
    by_cases e : k = 8
    · subst e
      rw [if_pos (show (8 : Int32) ≤ oN 8 from Int32.le_refl 8), shM_8]
    · have hk : k < 8 := by omega
      have g : ¬ (8 : Int32) ≤ oN k := fun z => by rw [show (8 : Int32) = oN 8 from rfl, oN_le (by decide) (by omega)] at z; omega
      rw [if_neg g, if_neg (fun z => z hl), oN_pred k1, gd_t (inb_oN hk (by decide)), gd_t (inb_oN (by omega) (by decide)), gd_t (inb_oN hk (by decide)), gd_t (inb_oN (by omega) (by decide)), ofNat_cl (by omega), ofNat_cl (by omega), oN_succ]
      rw [show Mhi (sMhi b 121 (k - 1) (Mhi b 121 k)) 122 k = Mhi b 122 k from rfl, ← shM_s b k1 hk]
      exact ih _ (k + 1) (by omega) (by omega) (by omega) hl
def lgA (a : KS) (q i : Nat) (x : Int32) : KS := sKhi (sKhi (sKlg a q (some i)) 5 q x) 3 2 (oN (q + 1))
def lgB (b : MS) (q i : Nat) (x : Int32) : MS := sMhi (sMhi (sMhi (sMhi b 100 23 (oN q)) 121 q (oN i)) 122 q x) 100 23 (oN (q + 1))
theorem put_K {a : KS} {q i : Nat} {x : Int32} (hq : q < 8) (hi : i < Kn a) (h : Khi a 3 2 = oN q) : f_X3_keep_13 a (some i) x = some (lgA a q i x) := by
  have g8 : ¬ (8 : Int32) ≤ oN q := fun z => by rw [show (8 : Int32) = oN 8 from rfl, oN_le (by decide) (by omega)] at z; omega
  unfold f_X3_keep_13
  rw [h, if_neg (oN_nn (by omega)), if_neg g8, if_neg g8, odr_s hi, gd_t (inb_oN hq (by decide)), ofNat_cl (by omega), show Khi (sKlg a q (some i)) 3 2 = Khi a 3 2 from rfl, h, gd_t (inb_oN hq (by decide)), ofNat_cl (by omega), show Khi (sKhi (sKlg a q (some i)) 5 q x) 3 2 = Khi a 3 2 from rfl, h, oN_succ]
  rfl
theorem put_M {b : MS} {q i : Nat} {x s1 s2 : Int32} (hq : q < 8) (h : s1 - s2 = oN q) : f_X9_logs_70 b (oN i) x s1 s2 = some (lgB b q i x) := by
  have cq : (oN q).toNatClampNeg = q := ofNat_cl (by omega)
  have bq : inb (oN q) 8 = true := inb_oN hq (by decide)
  unfold f_X9_logs_70 lgB
  simp (disch := decide) only [h, Mhi_np, Mhi_se, Mhi_sn, cq, gd_t bq, oN_succ]
theorem logs_rel {j : Nat} {a : KS} {b : MS} (h : Rel j a b) {i : Nat} {x : Int32} (hi : i < Kn a) (hk : ¬ Kit a i 1 = 0) (hx : VR (Kit a i) x) : ∃ (a' : KS) (b' : MS), f_X3_keep a (some i) x = some a' ∧ f_X9_logs b (oN i) x = some b' ∧ Rel j a' b' ∧ Kn a' = Kn a ∧ Kit a' = Kit a ∧ Khi a' 10 = Khi a 10 ∧ Mhi b' 100 13 = Mhi b 100 13 ∧ Mhi b' 100 0 = Mhi b 100 0 ∧ Mhi b' 107 = Mhi b 107 := by
  obtain ⟨hT, hD, ⟨⟨q, q1, q2, q3, q4⟩, gl⟩, hP, hX⟩ := h
  have okk : okr (Kn a) (some i) = true := decide_eq_true hi
  by_cases e : q = 8
  · subst e
    have hs := shift_K FU a 1 (by decide) (by decide) (by decide) (fun m _ m2 => by obtain ⟨i', x1, x2, -⟩ := q4 m m2; exact ⟨i', x1, x2⟩)
    have hm := shift_M (v1 := oN i) (v2 := x) FU b 1 (by decide) (by decide) (by decide) q3
    have r1 : f_X3_removeLatest (shL a 1) = some (sKhi (shL a 1) 3 2 (oN 7)) := by
      unfold f_X3_removeLatest
      rw [show Khi (shL a 1) 3 2 = Khi a 3 2 from rfl, q2, if_neg (by decide)]; rfl
    refine ⟨lgA (sKhi (shL a 1) 3 2 (oN 7)) 7 i x, lgB (shM b 1) 7 i x, ?_, ?_, ⟨hT, hD, ⟨⟨8, by omega, rfl, rfl, fun k hk8 => ?_⟩, fun k => ?_⟩, hP, hX⟩, rfl, rfl, rfl, rfl, rfl, rfl⟩
    · unfold f_X3_keep f_X3_removeOldest
      rw [q2, if_neg (by decide), show l_X3_removeOldest_2 FU a 1 = _ from hs, r1, bs]
      exact put_K (by decide) hi rfl
    · unfold f_X9_logs
      rw [show l_X9_logs_2 FU b (oN i) x 1 = _ from hm]
      unfold f_X9_logs_51
      rw [show Mhi (shM b 1) 100 23 = Mhi b 100 23 from rfl, q3, if_neg (show ¬ ¬ oN 8 = 8 from fun z => z rfl)]
      exact put_M (by decide) rfl
    · by_cases g : k = 7
      · subst g
        exact ⟨i, hi, rfl, rfl, rfl, hk, hx⟩
      · obtain ⟨i', x1, x2, x3, x4, x5, x6⟩ := q4 (k + 1) (by omega)
        have eA : Klg (lgA (sKhi (shL a 1) 3 2 (oN 7)) 7 i x) k = Klg a (k + 1) := by
          show (if k = 7 then some i else if 1 ≤ k + 1 ∧ k < 7 then Klg a (k + 1) else Klg a k) = _
          rw [if_neg g, if_pos (by omega)]
        have eV : Khi (lgA (sKhi (shL a 1) 3 2 (oN 7)) 7 i x) 5 k = Khi a 5 (k + 1) := by
          show (if 5 = 5 ∧ k = 7 then x else if 5 = 5 ∧ 1 ≤ k + 1 ∧ k < 7 then Khi a 5 (k + 1) else Khi a 5 k) = _
          rw [if_neg (by omega), if_pos (by omega)]
        have eM : Mhi (lgB (shM b 1) 7 i x) 121 k = Mhi b 121 (k + 1) := by
          show (if 121 = 121 ∧ k = 7 then oN i else if (121 = 121 ∨ 121 = 122) ∧ 1 ≤ k + 1 ∧ k < 7 then Mhi b 121 (k + 1) else Mhi b 121 k) = _
          rw [if_neg (by omega), if_pos (by omega)]
        have eN : Mhi (lgB (shM b 1) 7 i x) 122 k = Mhi b 122 (k + 1) := by
          show (if 122 = 122 ∧ k = 7 then x else if (122 = 121 ∨ 122 = 122) ∧ 1 ≤ k + 1 ∧ k < 7 then Mhi b 122 (k + 1) else Mhi b 122 k) = _
          rw [if_neg (by omega), if_pos (by omega)]
        rw [eA, eV, eM, eN]
        exact ⟨i', x1, x2, x3, x4, x5, x6⟩
    · show okr (Kn a) (if k = 7 then some i else if 1 ≤ k + 1 ∧ k < 7 then Klg a (k + 1) else Klg a k) = true
      by_cases g : k = 7
      · rw [if_pos g]; exact okk
      · rw [if_neg g]
        by_cases g2 : 1 ≤ k + 1 ∧ k < 7
        · rw [if_pos g2]; exact gl _
        · rw [if_neg g2]; exact gl _
  · have ql : q < 8 := by omega
    have n8 : ¬ oN q = 8 := fun z => e (oN_inj (y := 8) (by omega) (by decide) z)
    refine ⟨lgA a q i x, lgB b q i x, ?_, ?_, ⟨hT, hD, ⟨⟨q + 1, by omega, rfl, rfl, fun k hk8 => ?_⟩, fun k => ?_⟩, hP, hX⟩, rfl, rfl, rfl, rfl, rfl, rfl⟩
    · unfold f_X3_keep
      rw [q2, if_pos (show oN q < 8 from (oN_lt (y := 8) (by omega) (by decide)).mpr ql)]
      exact put_K ql hi q2
    · unfold f_X9_logs
      show f_X9_logs_2 (l_X9_logs_2 999) b (oN i) x 1 = _
      unfold f_X9_logs_2 f_X9_logs_51
      rw [if_neg (by decide), q3, if_pos n8, if_pos n8]
      exact put_M ql (Int32.sub_zero _)
    · by_cases g : k = q
      · subst g
        have eA : Klg (lgA a k i x) k = some i := by show (if k = k then some i else Klg a k) = _; rw [if_pos rfl]
        have eV : Khi (lgA a k i x) 5 k = x := by show (if 5 = 5 ∧ k = k then x else Khi a 5 k) = _; rw [if_pos ⟨rfl, rfl⟩]
        have eM : Mhi (lgB b k i x) 121 k = oN i := by show (if 121 = 121 ∧ k = k then oN i else Mhi b 121 k) = _; rw [if_pos ⟨rfl, rfl⟩]
        have eN : Mhi (lgB b k i x) 122 k = x := by show (if 122 = 122 ∧ k = k then x else Mhi b 122 k) = _; rw [if_pos ⟨rfl, rfl⟩]
        rw [eA, eV, eM, eN]
        exact ⟨i, hi, rfl, rfl, rfl, hk, hx⟩
      · obtain ⟨i', x1, x2, x3, x4, x5, x6⟩ := q4 k (by omega)
        have eA : Klg (lgA a q i x) k = Klg a k := by show (if k = q then some i else Klg a k) = _; rw [if_neg g]
        have eV : Khi (lgA a q i x) 5 k = Khi a 5 k := by show (if 5 = 5 ∧ k = q then x else Khi a 5 k) = _; rw [if_neg (fun z => g z.2)]
        have eM : Mhi (lgB b q i x) 121 k = Mhi b 121 k := by show (if 121 = 121 ∧ k = q then oN i else Mhi b 121 k) = _; rw [if_neg (fun z => g z.2)]
        have eN : Mhi (lgB b q i x) 122 k = Mhi b 122 k := by show (if 122 = 122 ∧ k = q then x else Mhi b 122 k) = _; rw [if_neg (fun z => g z.2)]
        rw [eA, eV, eM, eN]
        exact ⟨i', x1, x2, x3, x4, x5, x6⟩
    · show okr (Kn a) (if k = q then some i else Klg a k) = true
      by_cases g : k = q
      · rw [if_pos g]; exact okk
      · rw [if_neg g]; exact gl _
