/-! ===== the class alone: what each call leaves and changes ===== -/
/-- the tree, the items but for their locks' state, the settings and the log's length are as they were -/
def SM (a a' : KS) : Prop := Kn a' = Kn a ∧ Khi a' 1 2 = Khi a 1 2 ∧ Kti a' = Kti a ∧ Kmn a' = Kmn a ∧ Kch a' = Kch a ∧ (∀ i m, m ≠ 12 → Kit a' i m = Kit a i m) ∧ Khi a' 12 = Khi a 12 ∧ Khi a' 3 2 = Khi a 3 2
theorem SM.rf (a : KS) : SM a a := ⟨rfl, rfl, rfl, rfl, rfl, fun _ _ _ => rfl, rfl, rfl⟩
theorem SM.tr {a b c : KS} (h : SM a b) (k : SM b c) : SM a c := by
  obtain ⟨h1, h2, h3, h4, h5, h6, h7, h8⟩ := h
  obtain ⟨k1, k2, k3, k4, k5, k6, k7, k8⟩ := k
  exact ⟨k1.trans h1, k2.trans h2, k3.trans h3, k4.trans h4, k5.trans h5, fun i m q => (k6 i m q).trans (h6 i m q), k7.trans h7, k8.trans h8⟩
/-- the device shows the root's first entry, and no lock is open -/
def WB (a : KS) : Prop := Ksh a = some 0 ∧ Khi a 10 7 = 0 ∧ ∀ i, i < Kn a → ¬ isOp a i
def HM (a : KS) : Prop := Khi a 10 6 = 0 ∧ WB a
theorem Rel.tn {j : Nat} {a : KS} {b : MS} (h : Rel j a b) : TN a := ⟨(rt_n h.1).2, h.1.1.2.2.1, h.1.2.1.1⟩
theorem RTs.tn {a : KS} {b : MS} (h : RTs a b) : TN a := ⟨(rt_n h).2, h.1.2.2.1, h.2.1.1⟩
theorem home_K {a : KS} {b : MS} {j : Nat} {ev mev : Nat → Int32} (h : RTs a b) (hd : RDx ev mev j a b) : (f_X2_atHome a = some 1 ∧ HM a) ∨ (f_X2_atHome a = some 0 ∧ ¬ HM a) := by
  rcases home_eq h hd with ⟨k1, -, k2, k3, k4, k5⟩ | ⟨k1, -, k2⟩
  · exact Or.inl ⟨k1, k2, k3, k4, k5⟩
  · exact Or.inr ⟨k1, fun q => k2 ⟨q.1, q.2.1, q.2.2.1, q.2.2.2⟩⟩
theorem wbh_K {a : KS} {b : MS} {j : Nat} {ev mev : Nat → Int32} (h : RTs a b) (hd : RDx ev mev j a b) : (f_X2_wouldBeHomeBrowsing a = some 1 ∧ WB a) ∨ (f_X2_wouldBeHomeBrowsing a = some 0 ∧ ¬ WB a) := by
  rcases wbh_eq h hd with ⟨k1, k3, k4, k5⟩ | ⟨k1, k2⟩
  · exact Or.inl ⟨k1, k3, k4, k5⟩
  · exact Or.inr ⟨k1, fun q => k2 ⟨q.1, q.2.1, q.2.2⟩⟩
/-- going home -/
theorem goHome_K {a : KS} (h : TN a) : ∃ a', f_X2_goHome a = some a' ∧ SM a a' ∧ HM a' ∧ Khi a' 13 = Khi a 13 ∧ (∀ k, k ≠ 6 → k ≠ 7 → Khi a' 10 k = Khi a 10 k) := by
  have tn : TN (sKhi (sKsh (sKhi a 10 6 0) (some 0)) 10 7 0) := ⟨h.1, h.2.1, h.2.2⟩
  obtain ⟨it', i1, i2⟩ := close_K FU _ 0 tn (Nat.zero_le _) (by rw [FU_e]; have := h.1; show Kn a - 0 < 1000; omega)
  refine ⟨((sKhi (sKsh (sKhi a 10 6 0) (some 0)) 10 7 0).1, it', (sKhi (sKsh (sKhi a 10 6 0) (some 0)) 10 7 0).2.2), ?_, ⟨rfl, rfl, rfl, rfl, rfl, fun i m q => ?_, rfl, rfl⟩, ⟨rfl, rfl, rfl, fun i hi q => q.2 ?_⟩, rfl, fun k h6 h7 => ?_⟩
  · unfold f_X2_goHome
    rw [show f_X7_closeAll (sKhi (sKsh (sKhi a 10 6 0) (some 0)) 10 7 0) = _ from i1]
    rfl
  · show it' i m = _
    rw [i2, if_neg (fun z => q z.1)]; rfl
  · show it' i 12 = 0
    rw [i2, if_pos ⟨rfl, Nat.zero_le _, hi⟩]
  · show Khi (sKhi (sKsh (sKhi a 10 6 0) (some 0)) 10 7 0) 10 k = _
    rw [Khi_sn h7]
    show Khi (sKhi a 10 6 0) 10 k = _
    rw [Khi_sn h6]
/-- holding -/
theorem hold_K {a : KS} (h : TN a) : ∃ a', f_X2_holdKnob a = some (Khi a 10 6, a') ∧ SM a a' ∧ Khi a' 10 6 = 0 ∧ Khi a' 10 10 = 0 ∧ Khi a' 10 11 = Khi a 10 11 ∧ Khi a' 13 = Khi a 13 ∧ (Khi a 10 6 = 0 → HM a') ∧ (¬ Khi a 10 6 = 0 → Ksh a' = Ksh a ∧ Khi a' 10 7 = Khi a 10 7 ∧ Kit a' = Kit a) := by
  unfold f_X2_holdKnob f_X2_holdKnob_18
  by_cases m : Khi a 10 6 = 0
  · rw [if_neg (fun z => z m)]
    obtain ⟨a', g1, g2, g3, g4, g5⟩ := goHome_K (a := sKhi a 10 10 0) ⟨h.1, h.2.1, h.2.2⟩
    rw [g1, bs]
    refine ⟨_, rfl, g2, rfl, ?_, ?_, g4, fun _ => ⟨rfl, g3.2⟩, fun z => absurd m z⟩
    · exact g5 10 (by decide) (by decide)
    · exact g5 11 (by decide) (by decide)
  · rw [if_pos m]
    exact ⟨_, rfl, ⟨rfl, rfl, rfl, rfl, rfl, fun _ _ _ => rfl, rfl, rfl⟩, rfl, rfl, rfl, rfl, fun z => absurd z m, fun _ => ⟨rfl, rfl, rfl⟩⟩
/-- the state behind a turn to r -/
def tnA (a : KS) (r v : Int32) (X : KS) : KS := sKhi (sKhi X 10 10 0) 13 0 (Khi a 13 0 + mabs v)
theorem turn_K {a : KS} {v r : Int32} {p : Nat} (hp : p < 4) (h9 : Khi a 10 9 = oN p) (hr : f_X2_turned a v = some r) : f_X2_turnBy a v = some (r, tnA a r v (if Khi a 10 6 = 1 then sKhi a 10 8 r else if Khi a 10 6 = 2 then sKhi a 11 p r else sKhi a 10 7 r)) := by
  unfold f_X2_turnBy f_X2_turnBy_47
  rw [hr, bs]
  by_cases m1 : Khi a 10 6 = 1
  · rw [if_neg (fun z => z m1), if_pos m1, show (0 : Int32) = oN 0 from rfl, count_in _ (by decide), bs]; rfl
  · rw [if_pos m1, if_neg m1]
    by_cases m2 : Khi a 10 6 = 2
    · rw [if_neg (fun z => z m2), if_pos m2]
      unfold f_X2_changeDigit
      rw [h9, if_neg (oN_nn (by omega)), if_neg (show ¬ (4 : Int32) ≤ oN p from fun z => by rw [show (4 : Int32) = oN 4 from rfl, oN_le (by decide) (by omega)] at z; omega), gd_t (inb_oN hp (by decide)), ofNat_cl (by omega), bs, show (0 : Int32) = oN 0 from rfl, count_in _ (by decide), bs]; rfl
    · rw [if_pos m2, if_neg m2, show (0 : Int32) = oN 0 from rfl, count_in _ (by decide), bs]; rfl
theorem tnA_sm {a : KS} {v r : Int32} {p : Nat} : SM a (tnA a r v (if Khi a 10 6 = 1 then sKhi a 10 8 r else if Khi a 10 6 = 2 then sKhi a 11 p r else sKhi a 10 7 r)) := by
  by_cases m1 : Khi a 10 6 = 1
  · rw [if_pos m1]; exact ⟨rfl, rfl, rfl, rfl, rfl, fun _ _ _ => rfl, rfl, rfl⟩
  · rw [if_neg m1]
    by_cases m2 : Khi a 10 6 = 2
    · rw [if_pos m2]; exact ⟨rfl, rfl, rfl, rfl, rfl, fun _ _ _ => rfl, rfl, rfl⟩
    · rw [if_neg m2]; exact ⟨rfl, rfl, rfl, rfl, rfl, fun _ _ _ => rfl, rfl, rfl⟩
/-! ===== the invariant ===== -/
/-- whoever edits, edits what is not closed -/
def EO (a : KS) : Prop := Khi a 10 6 = 1 → ∀ i, f_X2_chosenItem a = some (some i) → ¬ (¬ Kit a i 11 = -1 ∧ Kit a i 12 = 0)
def LI (B : Nat) (a : KS) : Prop := (∃ b, Rel 500 a b) ∧ (∃ q, q ≤ B ∧ Khi a 10 10 = oN q) ∧ EO a
theorem EO.m {a : KS} (h : ¬ Khi a 10 6 = 1) : EO a := fun z => absurd z h
theorem LI.up {B B' : Nat} {a : KS} (h : LI B a) (hB : B ≤ B') : LI B' a := by
  obtain ⟨h1, ⟨q, q1, q2⟩, h3⟩ := h
  exact ⟨h1, ⟨q, by omega, q2⟩, h3⟩
/-- what the class's own state is known to be -/
theorem LI.sc {B : Nat} {a : KS} (h : LI B a) (f : Nat → Int32) : LI B (sc a f) := by
  obtain ⟨⟨b, hb⟩, h2, h3⟩ := h
  exact ⟨⟨b, hb⟩, h2, h3⟩
theorem mode_c {j : Nat} {a : KS} {b : MS} (h : Rel j a b) : Khi a 10 6 = 0 ∨ Khi a 10 6 = 1 ∨ Khi a 10 6 = 2 := h.2.1.2.1.2
theorem barred_c {j : Nat} {a : KS} {b : MS} (h : Rel j a b) : ∃ q : Nat, q ≤ 30 ∧ Khi a 10 11 = oN q := by
  obtain ⟨q, q1, q2, -⟩ := h.2.1.2.2.2.2.2.1
  exact ⟨q, q1, q2⟩
theorem place_c {j : Nat} {a : KS} {b : MS} (h : Rel j a b) : ∃ q : Nat, q < 4 ∧ Khi a 10 9 = oN q := by
  obtain ⟨q, q1, q2, -⟩ := h.2.1.2.2.2.1
  exact ⟨q, q1, q2⟩
theorem wrong_c {j : Nat} {a : KS} {b : MS} (h : Rel j a b) : ∃ q : Nat, q < 3 ∧ Khi a 10 12 = oN q := by
  obtain ⟨q, q1, q2, -⟩ := h.2.1.2.2.2.2.2.2.1
  exact ⟨q, q1, q2⟩
theorem log_c {j : Nat} {a : KS} {b : MS} (h : Rel j a b) : ∃ q : Nat, q ≤ 8 ∧ Khi a 3 2 = oN q ∧ ∀ k, k < q → ∃ i, i < Kn a ∧ Klg a k = some i ∧ ¬ Kit a i 1 = 0 ∧ VR (Kit a i) (Khi a 5 k) := by
  obtain ⟨q, q1, q2, -, q3⟩ := h.2.2.1.1
  exact ⟨q, q1, q2, fun k hk => by
    obtain ⟨i, x1, x2, x3, x4, x5, x6⟩ := q3 k hk
    exact ⟨i, x1, x2, x5, x6⟩⟩
theorem set_c {j : Nat} {a : KS} {b : MS} (h : Rel j a b) : (∃ q : Nat, 1 ≤ q ∧ q ≤ 60 ∧ Khi a 12 0 = oN q) ∧ (∃ q : Nat, 1 ≤ q ∧ q ≤ 99 ∧ Khi a 12 1 = oN q) ∧ (Khi a 12 2 = 0 ∨ Khi a 12 2 = 1) := by
  obtain ⟨⟨-, s0⟩, ⟨-, s1⟩, -, s2⟩ := h.2.1.2.2.2.2.2.2.2.2.1
  exact ⟨s0, s1, s2⟩
/-- the chosen item -/
theorem chos_c {j : Nat} {a : KS} {b : MS} (h : Rel j a b) : ∃ s c, Ksh a = some s ∧ s < Kn a ∧ Kit a s 1 = 0 ∧ Khi a 10 7 = oN c ∧ ((∃ i, 1 ≤ i ∧ i < Kn a ∧ Kmn a i = some s ∧ cnt (Kmn a) s i = c ∧ c < cnt (Kmn a) s (Kn a) ∧ Kch a s c = some i ∧ f_X2_chosenItem a = some (some i) ∧ (Khi a 10 6 = 1 → ¬ Kit a i 1 = 0 ∧ VR (Kit a i) (Khi a 10 8))) ∨ (Khi a 10 6 = 0 ∧ c = cnt (Kmn a) s (Kn a) ∧ (1 ≤ s ∨ c = 0) ∧ f_X2_chosenItem a = some none)) := by
  obtain ⟨s, c, d1, d2, d2b, d3, d4, d5, d6, ⟨i, i1, i2, i3, i4, i5, i6, i7, i8⟩ | ⟨m', e1, e2, e3, e4⟩⟩ := chosen_eq h.1 h.2.1
  · exact ⟨s, c, d1, d2, d2b, d4, Or.inl ⟨i, i1, i2, i3, i4, i5, i6, i8, (cho h i8).2.2⟩⟩
  · exact ⟨s, c, d1, d2, d2b, d4, Or.inr ⟨m', e1, e2, e4⟩⟩
