/-! ===== closing all locks ===== -/
def TN (a : KS) : Prop := Kn a ≤ 24 ∧ Khi a 1 2 = oN (Kn a) ∧ ∀ i, i < Kn a → Kti a i = some i
theorem find_tn {a : KS} (h : TN a) {i : Nat} (hi : i < Kn a) : f_X7_find a (oN i) = some (some i) := by
  obtain ⟨h1, h2, h3⟩ := h
  unfold f_X7_find
  rw [if_neg (oN_nn (by omega)), h2, if_neg (by rw [oN_le (by omega) (by omega)]; omega), if_neg (by rw [show (24 : Int32) = oN 24 from rfl, oN_le (by omega) (by omega)]; omega), gd_t (inb_oN (by omega) (by omega)), lt_e, ofNat_cl (by omega), h3 i hi]
theorem close_K : ∀ (fuel : Nat) (a : KS) (k : Nat), TN a → k ≤ Kn a → Kn a - k < fuel → ∃ it' : Nat → Nat → Int32, l_X7_closeAll_2 fuel a (oN k) = some (a.1, it', a.2.2) ∧ ∀ i m, it' i m = if m = 12 ∧ k ≤ i ∧ i < Kn a then 0 else Kit a i m := by
  intro fuel
  induction fuel with
  | zero => intro a k _ _ h3; omega
  | succ f ih =>
    intro a k h k2 k3
    have e0 : l_X7_closeAll_2 (f + 1) a (oN k) = f_X7_closeAll_2 (l_X7_closeAll_2 f) a (oN k) := rfl
    rw [e0]
    unfold f_X7_closeAll_2 f_X7_closeAll_25
    have hn := h.1
    by_cases e : k = Kn a
    · rw [h.2.1, if_pos (by rw [oN_le (by omega) (by omega)]; omega)]
      exact ⟨a.2.1, rfl, fun i m => by rw [if_neg (by omega)]; rfl⟩
    · have hk : k < Kn a := by omega
      rw [find_tn h hk, h.2.1, if_neg (by rw [oN_le (by omega) (by omega)]; omega), bs, ocs_s, gd_d hk, gd_t (by decide), oN_succ]
      obtain ⟨it', r1, r2⟩ := ih (sKit a k 12 0) (k + 1) h (by show k + 1 ≤ Kn a; omega) (by show Kn a - (k + 1) < f; omega)
      refine ⟨it', r1, fun i m => ?_⟩
      rw [r2, show Kn (sKit a k 12 0) = Kn a from rfl]
      by_cases g : m = 12
      · subst g
        rw [Kit_e]
        by_cases g1 : i = k
        · subst g1
          rw [if_neg (by omega), if_pos rfl, if_pos (by omega)]
        · by_cases g2 : k + 1 ≤ i ∧ i < Kn a
          · rw [if_pos ⟨rfl, g2⟩, if_pos (by omega)]
          · rw [if_neg (fun q => g2 q.2), if_neg g1, if_neg (by omega)]
      · rw [if_neg (fun q => g q.1), if_neg (fun q => g q.1), Kit_n g]
theorem close_M : ∀ (fuel : Nat) (b : MS) (n k : Nat), n ≤ 24 → Mhi b 100 1 = oN n → k ≤ n → n - k < fuel → ∃ f' : Nat → Int32, l_X9_goHome_17 fuel b (oN k) = some (fun p m => if p = 109 then f' m else Mhi b p m, b.2) ∧ ∀ m, f' m = if k ≤ m ∧ m < n then 0 else Mhi b 109 m := by
  intro fuel
  induction fuel with
  | zero => intro b n k _ _ _ h3; omega
  | succ f ih =>
    intro b n k hn h k2 k3
    have e0 : l_X9_goHome_17 (f + 1) b (oN k) = f_X9_goHome_17 (l_X9_goHome_17 f) b (oN k) := rfl
    rw [e0]
    unfold f_X9_goHome_17
    rw [h]
    by_cases e : k = n
    · rw [if_pos (by rw [oN_le (by omega) (by omega)]; omega)]
      refine ⟨Mhi b 109, ?_, fun m => by rw [if_neg (by omega)]⟩
      have : (fun p m => if p = 109 then Mhi b 109 m else Mhi b p m) = b.1 := by
        funext p m
        by_cases g : p = 109
        · rw [if_pos g, g]; rfl
        · rw [if_neg g]; rfl
      rw [this]
    · rw [if_neg (by rw [oN_le (by omega) (by omega)]; omega), gd_t (inb_oN (by omega) (by omega)), ofNat_cl (by omega), oN_succ]
      obtain ⟨f', r1, r2⟩ := ih (sMhi b 109 k (vp_nar .boolean 0)) n (k + 1) hn h (by omega) (by omega)
      refine ⟨f', ?_, fun m => ?_⟩
      · rw [r1]
        have : (fun p m => if p = 109 then f' m else Mhi (sMhi b 109 k (vp_nar .boolean 0)) p m) = fun p m => if p = 109 then f' m else Mhi b p m := by
          funext p m
          by_cases g : p = 109
          · rw [if_pos g, if_pos g]
          · rw [if_neg g, if_neg g]
            show (if p = 109 ∧ m = k then _ else _) = _
            rw [if_neg (fun q => g q.1)]; rfl
        rw [this]; rfl
      · rw [r2, Mhi_s]
        by_cases g1 : m = k
        · subst g1
          rw [if_neg (by omega), if_pos rfl, if_pos (by omega)]; rfl
        · by_cases g2 : k + 1 ≤ m ∧ m < n
          · rw [if_pos g2, if_pos (by omega)]
          · rw [if_neg g2, if_neg g1, if_neg (by omega)]
