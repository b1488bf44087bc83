/-! ===== the log kept ===== -/
def shL (a : KS) (k : Nat) : KS := (fun p m => if p = 5 ∧ k ≤ m + 1 ∧ m < 7 then Khi a 5 (m + 1) else Khi a p m, a.2.1, a.2.2.1, a.2.2.2.1, a.2.2.2.2.1, (fun m => if k ≤ m + 1 ∧ m < 7 then Klg a (m + 1) else Klg a m), a.2.2.2.2.2.2)
def shM (b : MS) (k : Nat) : MS := (fun p m => if (p = 121 ∨ p = 122) ∧ k ≤ m + 1 ∧ m < 7 then Mhi b p (m + 1) else Mhi b p m, b.2)
theorem shL_8 (a : KS) : shL a 8 = a := by
  have e1 : (fun p m => if p = 5 ∧ 8 ≤ m + 1 ∧ m < 7 then Khi a 5 (m + 1) else Khi a p m) = a.1 := by
    funext p m
    rw [if_neg (by omega)]; rfl
  have e2 : (fun m => if 8 ≤ m + 1 ∧ m < 7 then Klg a (m + 1) else Klg a m) = a.2.2.2.2.2.1 := by
    funext m
    rw [if_neg (by omega)]; rfl
  unfold shL
  rw [e1, e2]
theorem shM_8 (b : MS) : shM b 8 = b := by
  have e1 : (fun p m => if (p = 121 ∨ p = 122) ∧ 8 ≤ m + 1 ∧ m < 7 then Mhi b p (m + 1) else Mhi b p m) = b.1 := by
    funext p m
    rw [if_neg (by omega)]; rfl
  unfold shM
  rw [e1]
theorem shL_s (a : KS) {k i : Nat} (h1 : 1 ≤ k) (h2 : k < 8) (h : Klg a k = some i) : shL (sKhi (sKlg a (k - 1) (some i)) 5 (k - 1) (Khi a 5 k)) (k + 1) = shL a k := by
  have e1 : (fun p m => if p = 5 ∧ k + 1 ≤ m + 1 ∧ m < 7 then Khi (sKhi (sKlg a (k - 1) (some i)) 5 (k - 1) (Khi a 5 k)) 5 (m + 1) else Khi (sKhi (sKlg a (k - 1) (some i)) 5 (k - 1) (Khi a 5 k)) p m) = fun p m => if p = 5 ∧ k ≤ m + 1 ∧ m < 7 then Khi a 5 (m + 1) else Khi a p m := by
    funext p m
    show (if p = 5 ∧ k + 1 ≤ m + 1 ∧ m < 7 then (if 5 = 5 ∧ m + 1 = k - 1 then Khi a 5 k else Khi a 5 (m + 1)) else (if p = 5 ∧ m = k - 1 then Khi a 5 k else Khi a p m)) = _
    by_cases g : p = 5
    · by_cases g1 : k + 1 ≤ m + 1 ∧ m < 7
      · rw [if_pos ⟨g, g1⟩, if_neg (by omega), if_pos (by omega)]
      · rw [if_neg (fun q => g1 q.2)]
        by_cases g2 : m = k - 1
        · rw [if_pos ⟨g, g2⟩, if_pos (by omega), show m + 1 = k by omega]
        · rw [if_neg (fun q => g2 q.2), if_neg (by omega)]
    · rw [if_neg (fun q => g q.1), if_neg (fun q => g q.1), if_neg (fun q => g q.1)]
  have e2 : (fun m => if k + 1 ≤ m + 1 ∧ m < 7 then Klg (sKhi (sKlg a (k - 1) (some i)) 5 (k - 1) (Khi a 5 k)) (m + 1) else Klg (sKhi (sKlg a (k - 1) (some i)) 5 (k - 1) (Khi a 5 k)) m) = fun m => if k ≤ m + 1 ∧ m < 7 then Klg a (m + 1) else Klg a m := by
    funext m
    show (if k + 1 ≤ m + 1 ∧ m < 7 then (if m + 1 = k - 1 then some i else Klg a (m + 1)) else (if m = k - 1 then some i else Klg a m)) = _
    by_cases g1 : k + 1 ≤ m + 1 ∧ m < 7
    · rw [if_pos g1, if_neg (by omega), if_pos (by omega)]
    · rw [if_neg g1]
      by_cases g2 : m = k - 1
      · rw [if_pos g2, if_pos (by omega), show m + 1 = k by omega, h]
      · rw [if_neg g2, if_neg (by omega)]
  unfold shL
  rw [e1, e2]; rfl
theorem shM_s (b : MS) {k : Nat} (h1 : 1 ≤ k) (h2 : k < 8) : shM (sMhi (sMhi b 121 (k - 1) (Mhi b 121 k)) 122 (k - 1) (Mhi b 122 k)) (k + 1) = shM b k := by
  have e1 : (fun p m => if (p = 121 ∨ p = 122) ∧ k + 1 ≤ m + 1 ∧ m < 7 then Mhi (sMhi (sMhi b 121 (k - 1) (Mhi b 121 k)) 122 (k - 1) (Mhi b 122 k)) p (m + 1) else Mhi (sMhi (sMhi b 121 (k - 1) (Mhi b 121 k)) 122 (k - 1) (Mhi b 122 k)) p m) = fun p m => if (p = 121 ∨ p = 122) ∧ k ≤ m + 1 ∧ m < 7 then Mhi b p (m + 1) else Mhi b p m := by
    funext p m
    show (if (p = 121 ∨ p = 122) ∧ k + 1 ≤ m + 1 ∧ m < 7 then (if p = 122 ∧ m + 1 = k - 1 then Mhi b 122 k else if p = 121 ∧ m + 1 = k - 1 then Mhi b 121 k else Mhi b p (m + 1)) else (if p = 122 ∧ m = k - 1 then Mhi b 122 k else if p = 121 ∧ m = k - 1 then Mhi b 121 k else Mhi b p m)) = _
    by_cases g : p = 121 ∨ p = 122
    · by_cases g1 : k + 1 ≤ m + 1 ∧ m < 7
      · rw [if_pos ⟨g, g1⟩, if_neg (by omega), if_neg (by omega), if_pos ⟨g, by omega⟩]
      · rw [if_neg (fun q => g1 q.2)]
        by_cases g2 : m = k - 1
        · rw [if_pos (show (p = 121 ∨ p = 122) ∧ k ≤ m + 1 ∧ m < 7 from ⟨g, by omega⟩), show m + 1 = k by omega]
          rcases g with g | g
          · rw [if_neg (by omega), if_pos ⟨g, g2⟩, g]
          · rw [if_pos ⟨g, g2⟩, g]
        · rw [if_neg (fun q => g2 q.2), if_neg (fun q => g2 q.2), if_neg (fun q => g2 (by omega))]
    · rw [if_neg (fun q => g q.1), if_neg (fun q => g (Or.inr q.1)), if_neg (fun q => g (Or.inl q.1)), if_neg (fun q => g q.1)]
  unfold shM
  rw [e1]; rfl
theorem shift_K : ∀ (fuel : Nat) (a : KS) (k : Nat), 1 ≤ k → k ≤ 8 → 8 - k < fuel → (∀ m, k ≤ m → m < 8 → ∃ i, i < Kn a ∧ Klg a m = some i) → l_X3_removeOldest_2 fuel a (oN k) = f_X3_removeLatest (shL a k) := by
  intro fuel
  induction fuel with
  | zero => intro a k _ _ h3; omega
  | succ f ih =>
    intro a k k1 k2 k3 hl
    have e0 : l_X3_removeOldest_2 (f + 1) a (oN k) = f_X3_removeOldest_2 (l_X3_removeOldest_2 f) a (oN k) := rfl
    rw [e0]
    unfold f_X3_removeOldest_2 f_X3_removeOldest_54
    by_cases e : k = 8
    · subst e
      rw [if_pos (show (8 : Int32) ≤ oN 8 from Int32.le_refl 8), shL_8]
      cases f_X3_removeLatest a <;> rfl
    · have hk : k < 8 := by omega
      have g : ¬ (8 : Int32) ≤ oN k := fun z => by rw [show (8 : Int32) = oN 8 from rfl, oN_le (by decide) (by omega)] at z; omega
      obtain ⟨i, i1, i2⟩ := hl k (Nat.le_refl _) hk
      rw [if_neg g, if_neg g, gd_t (inb_oN hk (by decide)), lt_e, ofNat_cl (by omega), i2, odr_s i1, oN_pred k1, gd_t (inb_oN (by omega) (by decide)), gd_t (inb_oN hk (by decide)), gd_t (inb_oN (by omega) (by decide)), ofNat_cl (by omega), oN_succ]
      rw [show Khi (sKlg a (k - 1) (some i)) 5 k = Khi a 5 k from rfl, ← shL_s a k1 hk i2]
      refine ih _ (k + 1) (by omega) (by omega) (by omega) (fun m m1 m2 => ?_)
      obtain ⟨i', x1, x2⟩ := hl m (by omega) m2
      refine ⟨i', x1, ?_⟩
      show (if m = k - 1 then some i else Klg a m) = some i'
      rw [if_neg (by omega)]; exact x2
theorem shift_M {v1 v2 : Int32} : ∀ (fuel : Nat) (b : MS) (k : Nat), 1 ≤ k → k ≤ 8 → 8 - k < fuel → Mhi b 100 23 = 8 → l_X9_logs_2 fuel b v1 v2 (oN k) = f_X9_logs_51 (shM b k) v1 v2 := by
  intro fuel
  induction fuel with
  | zero => intro b k _ _ h3; omega
  | succ f ih =>
    intro b k k1 k2 k3 hl
    have e0 : l_X9_logs_2 (f + 1) b v1 v2 (oN k) = f_X9_logs_2 (l_X9_logs_2 f) b v1 v2 (oN k) := rfl
    rw [e0]
    unfold f_X9_logs_2
    by_cases e : k = 8
    · subst e
      rw [if_pos (show (8 : Int32) ≤ oN 8 from Int32.le_refl 8), shM_8]
    · have hk : k < 8 := by omega
      have g : ¬ (8 : Int32) ≤ oN k := fun z => by rw [show (8 : Int32) = oN 8 from rfl, oN_le (by decide) (by omega)] at z; omega
      rw [if_neg g, if_neg (fun z => z hl), oN_pred k1, gd_t (inb_oN hk (by decide)), gd_t (inb_oN (by omega) (by decide)), gd_t (inb_oN hk (by decide)), gd_t (inb_oN (by omega) (by decide)), ofNat_cl (by omega), ofNat_cl (by omega), oN_succ]
      rw [show Mhi (sMhi b 121 (k - 1) (Mhi b 121 k)) 122 k = Mhi b 122 k from rfl, ← shM_s b k1 hk]
      exact ih _ (k + 1) (by omega) (by omega) (by omega) hl
