/-! ===== the reference's loops, said by what the class keeps ===== -/
theorem FU_e : FU = 1000 := rfl
theorem cnt_mono {mn : Nat → Option Nat} {p : Nat} : ∀ {m k : Nat}, k ≤ m → cnt mn p k ≤ cnt mn p m := by
  intro m
  induction m with
  | zero => intro k h; rw [Nat.le_zero.mp h]; exact Nat.le_refl _
  | succ m ih =>
    intro k h
    by_cases e : k = m + 1
    · rw [e]; exact Nat.le_refl _
    · exact Nat.le_trans (ih (by omega)) (Nat.le_add_right _ _)
theorem cnt_hit {mn : Nat → Option Nat} {p i : Nat} (h1 : 1 ≤ i) (h : mn i = some p) : cnt mn p (i + 1) = cnt mn p i + 1 := by
  show cnt mn p i + _ = _
  rw [if_pos ⟨h1, h⟩]
theorem cnt_miss {mn : Nat → Option Nat} {p i : Nat} (h : ¬ (1 ≤ i ∧ mn i = some p)) : cnt mn p (i + 1) = cnt mn p i := by
  show cnt mn p i + _ = _
  rw [if_neg h]; rfl
theorem cnt_one {mn : Nat → Option Nat} {p : Nat} : cnt mn p 1 = 0 := by
  rw [cnt_miss (by omega)]; rfl
theorem cnt_ex {mn : Nat → Option Nat} {p c : Nat} : ∀ {m : Nat}, c < cnt mn p m → ∃ i, 1 ≤ i ∧ i < m ∧ mn i = some p ∧ cnt mn p i = c := by
  intro m
  induction m with
  | zero => intro h; exact absurd h (Nat.not_lt_zero _)
  | succ m ih =>
    intro h
    by_cases e : c < cnt mn p m
    · obtain ⟨i, h1, h2, h3⟩ := ih e
      exact ⟨i, h1, by omega, h3⟩
    · by_cases g : 1 ≤ m ∧ mn m = some p
      · rw [cnt_hit g.1 g.2] at h
        exact ⟨m, g.1, by omega, g.2, by omega⟩
      · rw [cnt_miss g] at h
        exact absurd h e
theorem cnt_uni {mn : Nat → Option Nat} {p i k : Nat} (hi : 1 ≤ i) (hk : 1 ≤ k) (h1 : mn i = some p) (h2 : mn k = some p) (h : cnt mn p i = cnt mn p k) : i = k := by
  rcases Nat.lt_trichotomy i k with q | q | q
  · have := cnt_mono (mn := mn) (p := p) (Nat.succ_le_of_lt q)
    have e := cnt_hit hi h1
    rw [Nat.succ_eq_add_one] at this
    omega
  · exact q
  · have := cnt_mono (mn := mn) (p := p) (Nat.succ_le_of_lt q)
    have e := cnt_hit hk h2
    rw [Nat.succ_eq_add_one] at this
    omega
section LO
variable {a : KS} {b : MS} {v : Int32}
theorem m3_iff (h : RTs a b) {i p : Nat} (h1 : 1 ≤ i) (hi : i < Kn a) (hp : p < Kn a) : Mhi b 103 i = oN p ↔ Kmn a i = some p := by
  have hn := rt_n h
  obtain ⟨q, q1, q2, q3, -⟩ := h.2.2.2.2.1 i h1 hi
  rw [q2, q3]
  constructor
  · intro e; rw [oN_inj (by omega) (by omega) e]
  · intro e; rw [Option.some.inj e]
theorem itemsOf_l (h : RTs a b) {p : Nat} (hp : p < Kn a) : ∀ (fuel k : Nat), 1 ≤ k → k ≤ Kn a → Kn a - k < fuel → l_X9_itemsOf_4 fuel b (oN p) (oN (cnt (Kmn a) p k)) (oN k) = some (oN (cnt (Kmn a) p (Kn a))) := by
  have hn := rt_n h
  intro fuel
  induction fuel with
  | zero => intro k _ _ h3; omega
  | succ f ih =>
    intro k h1 h2 h3
    show f_X9_itemsOf_4 (l_X9_itemsOf_4 f) b (oN p) (oN (cnt (Kmn a) p k)) (oN k) = _
    unfold f_X9_itemsOf_4
    rw [h.1.2.2.2]
    by_cases e : k = Kn a
    · rw [if_pos (by rw [oN_le (by omega) (by omega)]; omega), e]
    · rw [if_neg (by rw [oN_le (by omega) (by omega)]; omega), gd_t (in24 h (by omega)), cl_n h (by omega)]
      by_cases g : Mhi b 103 k = oN p
      · rw [if_neg (fun q => q g)]
        unfold f_X9_itemsOf_28
        rw [lt_e, oN_succ, oN_succ, ← cnt_hit h1 ((m3_iff h h1 (by omega) hp).mp g)]
        exact ih (k + 1) (by omega) (by omega) (by omega)
      · rw [if_pos g]
        unfold f_X9_itemsOf_28
        rw [lt_e, oN_succ, show oN (cnt (Kmn a) p k) + 0 = oN (cnt (Kmn a) p k) from Int32.add_zero _, ← cnt_miss (p := p) (fun q => g ((m3_iff h h1 (by omega) hp).mpr q.2))]
        exact ih (k + 1) (by omega) (by omega) (by omega)
theorem itemsOf_in (h : RTs a b) {p : Nat} (hp : p < Kn a) : f_X9_itemsOf b (oN p) = some (oN (cnt (Kmn a) p (Kn a))) := by
  have hn := rt_n h
  have := itemsOf_l h hp FU 1 (Nat.le_refl _) hn.1 (by rw [FU_e]; omega)
  rw [cnt_one] at this
  exact this
theorem indexOf_l (h : RTs a b) {i p : Nat} (h1 : 1 ≤ i) (hi : i < Kn a) (hp : Kmn a i = some p) : ∀ (fuel k : Nat), 1 ≤ k → k ≤ i → i - k < fuel → l_X9_indexOf_4 fuel b (oN i) (oN (cnt (Kmn a) p k)) (oN k) = some (oN (cnt (Kmn a) p i)) := by
  have hn := rt_n h
  obtain ⟨p', q1, q2, q3, -⟩ := h.2.2.2.2.1 i h1 hi
  obtain rfl : p' = p := Option.some.inj (q2.symm.trans hp)
  intro fuel
  induction fuel with
  | zero => intro k _ _ h3; omega
  | succ f ih =>
    intro k k1 k2 k3
    show f_X9_indexOf_4 (l_X9_indexOf_4 f) b (oN i) (oN (cnt (Kmn a) p' k)) (oN k) = _
    unfold f_X9_indexOf_4
    by_cases e : k = i
    · rw [if_pos (by rw [oN_le (by omega) (by omega)]; omega), e]
    · rw [if_neg (by rw [oN_le (by omega) (by omega)]; omega), gd_t (in24 h (by omega)), gd_t (in24 h (by omega)), cl_n h (by omega), cl_n h (by omega), q3]
      by_cases g : Mhi b 103 k = oN p'
      · rw [if_neg (fun q => q g)]
        unfold f_X9_indexOf_30
        rw [lt_e, oN_succ, oN_succ, ← cnt_hit k1 ((m3_iff h k1 (by omega) (by omega)).mp g)]
        exact ih (k + 1) (by omega) (by omega) (by omega)
      · rw [if_pos g]
        unfold f_X9_indexOf_30
        rw [lt_e, oN_succ, show oN (cnt (Kmn a) p' k) + 0 = oN (cnt (Kmn a) p' k) from Int32.add_zero _, ← cnt_miss (p := p') (fun q => g ((m3_iff h k1 (by omega) (by omega)).mpr q.2))]
        exact ih (k + 1) (by omega) (by omega) (by omega)
theorem indexOf_in (h : RTs a b) {i p : Nat} (h1 : 1 ≤ i) (hi : i < Kn a) (hp : Kmn a i = some p) : f_X9_indexOf b (oN i) = some (oN (cnt (Kmn a) p i)) := by
  have hn := rt_n h
  have := indexOf_l h h1 hi hp FU 1 (Nat.le_refl _) h1 (by rw [FU_e]; omega)
  rw [cnt_one] at this
  exact this
theorem cnt_lt {mn : Nat → Option Nat} {p : Nat} : ∀ m : Nat, cnt mn p m ≤ m := by
  intro m
  induction m with
  | zero => exact Nat.le_refl _
  | succ m ih =>
    show cnt mn p m + _ ≤ _
    split <;> omega
theorem itemAt_l (h : RTs a b) {s c : Nat} (hs : s < Kn a) (hsh : Mhi b 100 11 = oN s) (hc : c < 1000) : ∀ (fuel k : Nat), 1 ≤ k → k ≤ Kn a → Kn a - k < fuel → (∀ i, k ≤ i → i < Kn a → Kmn a i = some s → cnt (Kmn a) s i = c → l_X9_itemAt_2 fuel b (oN c) (oN k) = some (oN i)) ∧ ((∀ i, k ≤ i → i < Kn a → Kmn a i = some s → ¬ cnt (Kmn a) s i = c) → l_X9_itemAt_2 fuel b (oN c) (oN k) = some (-1)) := by
  have hn := rt_n h
  intro fuel
  induction fuel with
  | zero => intro k _ _ h3; omega
  | succ f ih =>
    intro k k1 k2 k3
    have e0 : l_X9_itemAt_2 (f + 1) b (oN c) (oN k) = f_X9_itemAt_2 (l_X9_itemAt_2 f) b (oN c) (oN k) := rfl
    rw [e0]
    unfold f_X9_itemAt_2
    rw [h.1.2.2.2]
    by_cases e : k = Kn a
    · rw [if_pos (by rw [oN_le (by omega) (by omega)]; omega)]
      exact ⟨fun i i1 i2 => absurd i2 (by omega), fun _ => rfl⟩
    · rw [if_neg (by rw [oN_le (by omega) (by omega)]; omega), gd_t (in24 h (by omega)), cl_n h (by omega), hsh]
      have ih1 := ih (k + 1) (by omega) (by omega) (by omega)
      by_cases g : Mhi b 103 k = oN s
      · have g1 := (m3_iff h k1 (by omega) hs).mp g
        have cl := cnt_lt (mn := Kmn a) (p := s) k
        rw [if_neg (fun q => q g), indexOf_in h k1 (by omega) g1, bs]
        by_cases w : cnt (Kmn a) s k = c
        · rw [if_neg (fun q => q (by rw [w]))]
          refine ⟨fun i i1 i2 i3 i4 => ?_, fun q => absurd w (q k (Nat.le_refl _) (by omega) g1)⟩
          rw [cnt_uni (by omega) k1 i3 g1 (i4.trans w.symm)]
        · rw [if_pos (fun q => w (oN_inj (by omega) (by omega) q))]
          unfold f_X9_itemAt_34
          rw [oN_succ]
          refine ⟨fun i i1 i2 i3 i4 => ih1.1 i ?_ i2 i3 i4, fun q => ih1.2 (fun i i1 => q i (by omega))⟩
          rcases Nat.lt_or_eq_of_le i1 with z | z
          · exact z
          · subst z; exact absurd i4 w
      · rw [if_pos g]
        unfold f_X9_itemAt_34
        rw [oN_succ]
        refine ⟨fun i i1 i2 i3 i4 => ih1.1 i ?_ i2 i3 i4, fun q => ih1.2 (fun i i1 => q i (by omega))⟩
        rcases Nat.lt_or_eq_of_le i1 with z | z
        · exact z
        · subst z; exact absurd ((m3_iff h k1 (by omega) hs).mpr i3) g
/-- the item at an entry, on both sides -/
theorem at_in (h : RTs a b) {s c : Nat} (hs : s < Kn a) (hsh : Mhi b 100 11 = oN s) (hc : c < cnt (Kmn a) s (Kn a)) : ∃ i, 1 ≤ i ∧ i < Kn a ∧ Kmn a i = some s ∧ cnt (Kmn a) s i = c ∧ Kch a s c = some i ∧ f_X9_itemAt b (oN c) = some (oN i) ∧ f_X4_childAt a s (oN c) = some (some i) := by
  have hn := rt_n h
  obtain ⟨i, i1, i2, i3, i4⟩ := cnt_ex hc
  have c8 := (h.2.2.2.2.2.2.1 s hs).2
  obtain ⟨p, p1, p2, -, -, -, -, p7⟩ := h.2.2.2.2.1 i i1 i2
  obtain rfl : p = s := Option.some.inj (p2.symm.trans i3)
  have hch : Kch a p c = some i := by rw [← i4]; exact p7
  refine ⟨i, i1, i2, i3, i4, hch, (itemAt_l h hs hsh (c := c) (by omega) FU 1 (Nat.le_refl _) hn.1 (by rw [FU_e]; omega)).1 i i1 i2 i3 i4, ?_⟩
  unfold f_X4_childAt
  rw [if_neg (oN_nn (by omega)), gd_d hs, (h.2.2.2.2.2.2.1 p hs).1, if_neg (by rw [oN_le (by omega) (by omega)]; omega), if_neg (by rw [show (8 : Int32) = oN 8 from rfl, oN_le (by omega) (by omega)]; omega), gd_t (inb_oN (by omega) (by omega)), lt_e, ofNat_cl (by omega), hch]
theorem at_out (h : RTs a b) {s c : Nat} (hs : s < Kn a) (hsh : Mhi b 100 11 = oN s) (hc : ¬ c < cnt (Kmn a) s (Kn a)) (hb : c < 1000) : f_X9_itemAt b (oN c) = some (-1) ∧ f_X4_childAt a s (oN c) = some none := by
  have hn := rt_n h
  have c8 := (h.2.2.2.2.2.2.1 s hs).2
  refine ⟨(itemAt_l h hs hsh (c := c) hb FU 1 (Nat.le_refl _) hn.1 (by rw [FU_e]; omega)).2 (fun i i1 i2 i3 i4 => ?_), ?_⟩
  · have e := cnt_hit i1 i3
    have := cnt_mono (mn := Kmn a) (p := s) (k := i + 1) (m := Kn a) (by omega)
    omega
  · unfold f_X4_childAt
    rw [if_neg (oN_nn (by omega)), gd_d hs, (h.2.2.2.2.2.2.1 s hs).1, if_pos (by rw [oN_le (by omega) (by omega)]; omega)]
theorem levelOf_l (h : RTs a b) : ∀ (fuel i : Nat) (acc : Int32), i < Kn a → i < fuel → l_X9_levelOf_4 fuel b acc (oN i) = some (acc + Kit a i 3) := by
  have hn := rt_n h
  intro fuel
  induction fuel with
  | zero => intro i _ _ h3; omega
  | succ f ih =>
    intro i acc hi hf
    show f_X9_levelOf_4 (l_X9_levelOf_4 f) b acc (oN i) = _
    unfold f_X9_levelOf_4
    rw [gd_t (in24 h hi), cl_n h hi]
    by_cases e : i = 0
    · subst e
      rw [if_pos h.2.2.2.1.2.1, h.2.2.2.1.2.2.1, Int32.add_zero]
    · obtain ⟨p, p1, p2, p3, -, p5, -⟩ := h.2.2.2.2.1 i (by omega) hi
      rw [p3, if_neg (oN_ne1 (by omega)), gd_t (in24 h hi), lt_e, ih p (acc + 1) (by omega) (by omega), p5, Int32.add_assoc, Int32.add_comm 1]
theorem levelOf_in (h : RTs a b) {i : Nat} (hi : i < Kn a) : f_X9_levelOf b (oN i) = some (Kit a i 3) := by
  have hn := rt_n h
  unfold f_X9_levelOf
  rw [levelOf_l h FU i 0 hi (by rw [FU_e]; omega), Int32.zero_add]
/-- whether some lock is open -/
def isOp (a : KS) (i : Nat) : Prop := ¬ Kit a i 11 = -1 ∧ ¬ Kit a i 12 = 0
theorem anyK_l (h : RTs a b) : ∀ (fuel k : Nat), k ≤ Kn a → Kn a - k < fuel → ((∃ i, k ≤ i ∧ i < Kn a ∧ isOp a i) → l_X7_anyOpen_2 fuel a (oN k) = some 1) ∧ ((¬ ∃ i, k ≤ i ∧ i < Kn a ∧ isOp a i) → l_X7_anyOpen_2 fuel a (oN k) = some 0) := by
  have hn := rt_n h
  intro fuel
  induction fuel with
  | zero => intro k _ h3; omega
  | succ f ih =>
    intro k k2 k3
    have e0 : l_X7_anyOpen_2 (f + 1) a (oN k) = f_X7_anyOpen_2 (l_X7_anyOpen_2 f) a (oN k) := rfl
    rw [e0]
    unfold f_X7_anyOpen_2 f_X7_anyOpen_36
    rw [h.1.2.2.1]
    by_cases e : k = Kn a
    · rw [if_pos (by rw [oN_le (by omega) (by omega)]; omega)]
      exact ⟨fun ⟨i, i1, i2, _⟩ => absurd i2 (by omega), fun _ => rfl⟩
    · have hk : k < Kn a := by omega
      rw [if_neg (by rw [oN_le (by omega) (by omega)]; omega), find_in h hk, bs, ocs_s, gd_d hk, locked_in hk, bs, oN_succ]
      have ih1 := ih (k + 1) (by omega) (by omega)
      have key : ¬ isOp a k → (∃ i, k ≤ i ∧ i < Kn a ∧ isOp a i) → ∃ i, k + 1 ≤ i ∧ i < Kn a ∧ isOp a i := by
        rintro q ⟨i, i1, i2, i3⟩
        refine ⟨i, ?_, i2, i3⟩
        rcases Nat.lt_or_eq_of_le i1 with z | z
        · exact z
        · subst z; exact absurd i3 q
      have key2 : (¬ ∃ i, k ≤ i ∧ i < Kn a ∧ isOp a i) → ¬ ∃ i, k + 1 ≤ i ∧ i < Kn a ∧ isOp a i := fun q ⟨i, i1, i2⟩ => q ⟨i, by omega, i2⟩
      by_cases g : Kit a k 11 = -1
      · rw [if_pos g, if_pos rfl]
        exact ⟨fun q => ih1.1 (key (fun z => z.1 g) q), fun q => ih1.2 (key2 q)⟩
      · rw [if_neg g, if_neg (by decide)]
        by_cases o : Kit a k 12 = 0
        · rw [if_pos o]
          exact ⟨fun q => ih1.1 (key (fun z => z.2 o) q), fun q => ih1.2 (key2 q)⟩
        · rw [if_neg o]
          exact ⟨fun _ => rfl, fun q => absurd ⟨k, Nat.le_refl _, hk, g, o⟩ q⟩
theorem anyM_1 (h : RTs a b) : ∀ (fuel k : Nat), k ≤ Kn a → Kn a - k < fuel → l_X9_anyOpen_4 fuel b 1 (oN k) = some 1 := by
  have hn := rt_n h
  intro fuel
  induction fuel with
  | zero => intro k _ h3; omega
  | succ f ih =>
    intro k k2 k3
    show f_X9_anyOpen_4 (l_X9_anyOpen_4 f) b 1 (oN k) = _
    unfold f_X9_anyOpen_4 f_X9_anyOpen_35 f_X9_anyOpen_40
    rw [h.1.2.2.2]
    by_cases e : k = Kn a
    · rw [if_pos (by rw [oN_le (by omega) (by omega)]; omega)]; rfl
    · rw [if_neg (by rw [oN_le (by omega) (by omega)]; omega), if_pos (by decide), oN_succ]
      exact ih (k + 1) (by omega) (by omega)
theorem anyM_l (h : RTs a b) : ∀ (fuel k : Nat), k ≤ Kn a → Kn a - k < fuel → ((∃ i, k ≤ i ∧ i < Kn a ∧ isOp a i) → l_X9_anyOpen_4 fuel b 0 (oN k) = some 1) ∧ ((¬ ∃ i, k ≤ i ∧ i < Kn a ∧ isOp a i) → l_X9_anyOpen_4 fuel b 0 (oN k) = some 0) := by
  have hn := rt_n h
  intro fuel
  induction fuel with
  | zero => intro k _ h3; omega
  | succ f ih =>
    intro k k2 k3
    have e0 : l_X9_anyOpen_4 (f + 1) b 0 (oN k) = f_X9_anyOpen_4 (l_X9_anyOpen_4 f) b 0 (oN k) := rfl
    rw [e0]
    unfold f_X9_anyOpen_4 f_X9_anyOpen_39 f_X9_anyOpen_35 f_X9_anyOpen_40
    rw [h.1.2.2.2]
    by_cases e : k = Kn a
    · rw [if_pos (by rw [oN_le (by omega) (by omega)]; omega)]
      exact ⟨fun ⟨i, i1, i2, _⟩ => absurd i2 (by omega), fun _ => rfl⟩
    · have hk : k < Kn a := by omega
      have hh := it_at h hk
      rw [if_neg (by rw [oN_le (by omega) (by omega)]; omega), if_neg (by decide), gd_t (in24 h hk), gd_t (in24 h hk), cl_n h hk, oN_succ, ← hh.2.2.2.2.2.2.1, ← hh.2.2.2.2.2.2.2.1]
      have z1 := anyM_1 h f (k + 1) (by omega) (by omega)
      have ih1 := ih (k + 1) (by omega) (by omega)
      have key : ¬ isOp a k → (∃ i, k ≤ i ∧ i < Kn a ∧ isOp a i) → ∃ i, k + 1 ≤ i ∧ i < Kn a ∧ isOp a i := by
        rintro q ⟨i, i1, i2, i3⟩
        refine ⟨i, ?_, i2, i3⟩
        rcases Nat.lt_or_eq_of_le i1 with z | z
        · exact z
        · subst z; exact absurd i3 q
      have key2 : (¬ ∃ i, k ≤ i ∧ i < Kn a ∧ isOp a i) → ¬ ∃ i, k + 1 ≤ i ∧ i < Kn a ∧ isOp a i := fun q ⟨i, i1, i2⟩ => q ⟨i, by omega, i2⟩
      by_cases g : Kit a k 11 = -1
      · rw [if_pos g]
        exact ⟨fun q => ih1.1 (key (fun z => z.1 g) q), fun q => ih1.2 (key2 q)⟩
      · rw [if_neg g]
        by_cases o : Kit a k 12 = 0
        · rw [if_pos o]
          exact ⟨fun q => ih1.1 (key (fun z => z.2 o) q), fun q => ih1.2 (key2 q)⟩
        · rw [if_neg o]
          exact ⟨fun _ => z1, fun q => absurd ⟨k, Nat.le_refl _, hk, g, o⟩ q⟩
/-- both say alike whether a lock is open -/
theorem any_eq (h : RTs a b) : (f_X7_anyOpen a = some 1 ∧ f_X9_anyOpen b = some 1 ∧ ∃ i, i < Kn a ∧ isOp a i) ∨ (f_X7_anyOpen a = some 0 ∧ f_X9_anyOpen b = some 0 ∧ ∀ i, i < Kn a → ¬ isOp a i) := by
  have hn := rt_n h
  have k1 := anyK_l h FU 0 (Nat.zero_le _) (by rw [FU_e]; omega)
  have k2 := anyM_l h FU 0 (Nat.zero_le _) (by rw [FU_e]; omega)
  by_cases g : ∃ i, 0 ≤ i ∧ i < Kn a ∧ isOp a i
  · obtain ⟨i, -, i2⟩ := g
    exact Or.inl ⟨k1.1 ⟨i, Nat.zero_le _, i2⟩, k2.1 ⟨i, Nat.zero_le _, i2⟩, i, i2⟩
  · exact Or.inr ⟨k1.2 g, k2.2 g, fun i hi q => g ⟨i, Nat.zero_le _, hi, q⟩⟩
end LO
