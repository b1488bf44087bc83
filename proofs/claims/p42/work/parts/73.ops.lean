/-! ===== questions ===== -/
section QQ
variable {a : KS} {b : MS}
theorem q_items (h : RTs a b) : f_X8_items a = some (oN (Kn a)) := by
  unfold f_X8_items
  rw [h.1.2.2.1]
theorem q_kind (h : RTs a b) {i : Nat} (hi : i < Kn a) : f_X8_kind a (oN i) = some (0, Kit a i 1) := by
  simp only [f_X8_kind, num_in h hi, bs, if_true, lt_e, odr_s hi]
theorem q_value (h : RTs a b) {i : Nat} (hi : i < Kn a) (hk : ¬ Kit a i 1 = 0) : f_X8_value a (oN i) = some (0, Kit a i 10) := by
  unfold f_X8_value
  rw [num_in h hi, bs, if_pos rfl, lt_e, odr_s hi, if_pos hk]
theorem q_presses (h : RTs a b) {i : Nat} (hi : i < Kn a) : f_X8_pressesTo a (oN i) = some (0, Kit a i 3) := by
  simp only [f_X8_pressesTo, num_in h hi, bs, if_true, lt_e, odr_s hi]
theorem q_menu (h : RTs a b) {i p : Nat} (hi : i < Kn a) (hp : p < Kn a) (hm : Kmn a i = some p) : f_X8_menuOf a (oN i) = some (0, oN p) := by
  unfold f_X8_menuOf f_X8_numberOf
  rw [num_in h hi, bs, if_pos rfl, lt_e, odr_s hi, lt_e, hm, ocs_s, gd_d hp, bs, (it_at h hp).1]
theorem q_menu0 (h : RTs a b) : f_X8_menuOf a 0 = some (0, -1) := by
  have hn := rt_n h
  unfold f_X8_menuOf f_X8_numberOf
  rw [show (0 : Int32) = oN 0 from rfl, num_in h (by omega), bs, if_pos rfl, lt_e, odr_s (by omega), lt_e, h.2.2.2.1.1]
  rfl
theorem q_closed (h : RTs a b) {i : Nat} (hi : i < Kn a) : f_X8_isClosed a (oN i) = some (0, if ¬ Kit a i 11 = -1 ∧ Kit a i 12 = 0 then 1 else 0) := by
  unfold f_X8_isClosed
  rw [num_in h hi, bs, if_pos rfl, lt_e, odr_s hi, closed_in hi, bs]
  by_cases k : ¬ Kit a i 11 = -1 ∧ Kit a i 12 = 0
  · rw [if_pos k]; rfl
  · rw [if_neg k]; rfl
theorem q_chosen (h : RTs a b) {i : Nat} (hi : i < Kn a) (hc : f_X2_chosenItem a = some (some i)) : f_X8_chosen a = some (oN i) := by
  unfold f_X8_chosen f_X8_numberOf
  rw [hc, bs, ocs_s, gd_d hi, bs, (it_at h hi).1]
theorem q_shown (h : RTs a b) {s : Nat} (hs : s < Kn a) (d : Ksh a = some s) : f_X8_shown a = some (oN s) := by
  unfold f_X8_shown
  rw [lt_e, d, odr_s hs, (it_at h hs).1]
theorem q_home {j : Nat} {ev mev : Nat → Int32} (h : RTs a b) (hd : RDx ev mev j a b) : (f_X8_isHome a = some 1 ∧ HM a) ∨ (f_X8_isHome a = some 0 ∧ ¬ HM a) := by
  unfold f_X8_isHome
  rcases home_K h hd with ⟨k1, k2⟩ | ⟨k1, k2⟩
  · rw [k1]; exact Or.inl ⟨rfl, k2⟩
  · rw [k1]; exact Or.inr ⟨rfl, k2⟩
theorem q_event (a : KS) {e : Nat} (he : e < 8) : f_X8_events a (oN e) = some (0, Khi a 13 e) := by
  unfold f_X8_events f_X2_counted
  have g8 : oN e < 8 := (oN_lt (y := 8) (by omega) (by decide)).mpr he
  rw [if_neg (oN_nn (by omega)), if_pos g8, if_neg (oN_nn (by omega)), if_neg (Int32.not_le.mpr g8), gd_t (inb_oN he (by decide)), ofNat_cl (by omega), bs]
theorem q_draft1 (h : Khi a 10 6 = 1) : f_X8_draft a = some (Khi a 10 8) := by
  unfold f_X8_draft
  rw [if_neg (fun z => z h)]
theorem q_draft0 (h : ¬ Khi a 10 6 = 1) : f_X8_draft a = some 0 := by
  unfold f_X8_draft
  rw [if_pos h]
/-- the values, as the law sums them up -/
def vs (it : Nat → Nat → Int32) (h : Int64) (k : Nat) : Nat → Int64
  | 0 => h
  | m + 1 => vs it (1009 * h + (if it k 1 = 0 then (0 : Int32) else it k 10).toInt64) (k + 1) m
theorem vs_cg {it it' : Nat → Nat → Int32} : ∀ (m k : Nat) (h : Int64), (∀ i, k ≤ i → i < k + m → it' i 1 = it i 1 ∧ it' i 10 = it i 10) → vs it' h k m = vs it h k m := by
  intro m
  induction m with
  | zero => intro k h _; rfl
  | succ m ih =>
    intro k h hh
    have e := hh k (Nat.le_refl _) (by omega)
    show vs it' (1009 * h + (if it' k 1 = 0 then (0 : Int32) else it' k 10).toInt64) (k + 1) m = _
    rw [e.1, e.2, ih (k + 1) _ (fun i h1 h2 => hh i (by omega) (by omega))]
    rfl
theorem values_l (h : RTs a b) : ∀ (fuel k : Nat) (H : Int64), k ≤ Kn a → Kn a - k < fuel → l_L_values_6 fuel a H (oN k) = some (vs (Kit a) H k (Kn a - k)) := by
  have hn := rt_n h
  intro fuel
  induction fuel with
  | zero => intro k H _ h; omega
  | succ n ih =>
    intro k H h1 h2
    show f_L_values_6 (l_L_values_6 n) a H (oN k) = _
    unfold f_L_values_6
    rw [q_items h, bs]
    by_cases g : k = Kn a
    · subst g
      rw [if_pos (Int32.le_refl _), Nat.sub_self]; rfl
    · have hk : k < Kn a := by omega
      rw [if_neg (show ¬ oN (Kn a) ≤ oN k by rw [oN_le (by omega) (by omega)]; omega), q_kind h hk, bs, gd_d rfl]
      have e : Kn a - k = (Kn a - (k + 1)) + 1 := by omega
      rw [e]
      show _ = some (vs (Kit a) (1009 * H + (if Kit a k 1 = 0 then (0 : Int32) else Kit a k 10).toInt64) (k + 1) (Kn a - (k + 1)))
      by_cases kd : Kit a k 1 = 0
      · rw [if_neg (fun z => z kd), if_pos kd]
        unfold f_L_values_36
        rw [lt_e, oN_succ]
        exact ih (k + 1) _ (by omega) (by omega)
      · rw [if_pos kd, if_neg kd, q_value h hk kd, bs, gd_d rfl]
        unfold f_L_values_36
        rw [lt_e, oN_succ]
        exact ih (k + 1) _ (by omega) (by omega)
theorem q_values (h : RTs a b) : f_L_values a = some (vs (Kit a) 43 0 (Kn a)) := by
  have hn := rt_n h
  exact values_l h FU 0 43 (Nat.zero_le _) (by rw [FU_e]; omega)
theorem values_same {a' : KS} {b' : MS} (h : RTs a' b') (hn : Kn a' = Kn a) (h1 : ∀ i, Kit a' i 1 = Kit a i 1) (h10 : ∀ i, Kit a' i 10 = Kit a i 10) : f_L_values a' = some (vs (Kit a) 43 0 (Kn a)) := by
  rw [q_values h, hn, vs_cg _ _ _ (fun i _ _ => ⟨h1 i, h10 i⟩)]
end QQ
theorem up_q {x : Int32} {n : Nat} (h1 : 1 ≤ n) (h2 : n < 2147483648) (a : KS) : ∃ q : Nat, q < n ∧ f_L_up a x (oN n) = some (oN q) := by
  unfold f_L_up
  have hz : nz (oN n) = true := decide_eq_true (fun z => by have := oN_inj (y := 0) h2 (by decide) z; omega)
  rw [gd_t hz]
  have hx : ¬ (x &&& 2147483647) < 0 := by
    intro z
    have e : (x &&& 2147483647).toBitVec.msb = false := by
      rw [Int32.toBitVec_and, BitVec.msb_and, show (2147483647 : Int32).toBitVec.msb = false from by decide, Bool.and_false]
    have h3 : 0 ≤ (x &&& 2147483647).toInt := by
      show 0 ≤ (x &&& 2147483647).toBitVec.toInt
      rw [BitVec.toInt_eq_msb_cond, e]
      simp
    rw [Int32.lt_iff_toInt_lt] at z
    have e0 : (0 : Int32).toInt = 0 := by decide
    omega
  have e1 := nn_eq hx
  have e2 := nn_lt hx
  generalize (x &&& 2147483647).toNatClampNeg = y at e1 e2
  rw [e1]
  refine ⟨y % n, Nat.mod_lt _ (by omega), congrArg some ?_⟩
  have hd : oN y / oN n = oN (y / n) := by
    apply i32_ext
    rw [Int32.toInt_div, ofNat_i32 e2, ofNat_i32 h2, ofNat_i32 (Nat.lt_of_le_of_lt (Nat.div_le_self _ _) e2)]
    have : ((y : Int).tdiv n) = ((y / n : Nat) : Int) := by
      rw [Int.tdiv_eq_ediv_of_nonneg (by omega)]; rfl
    rw [this]
    have h4 := Nat.div_le_self y n
    generalize y / n = w at h4 ⊢
    exact Int.bmod_eq_of_le (by omega) (by omega)
  rw [hd, oN_mul]
  have h5 := Nat.div_add_mod y n
  have h6 : y / n * n ≤ y := Nat.div_mul_le_self y n
  have h7 : oN y = oN (y % n) + oN (y / n * n) := by
    rw [oN_add]
    congr 1
    rw [Nat.mul_comm] at h5
    omega
  rw [h7]
  exact Int32.add_sub_cancel _ _
theorem and1_q (y : Int32) : y &&& 1 = 0 ∨ y &&& 1 = 1 := by
  have e : ∀ v : BitVec 32, v &&& 1#32 = 0#32 ∨ v &&& 1#32 = 1#32 := by
    intro v
    have h : v &&& 1#32 = BitVec.ofNat 32 (v.toNat % 2) := by
      apply BitVec.eq_of_toNat_eq
      rw [BitVec.toNat_and]
      simp [Nat.and_one_is_mod]
      omega
    rw [h]
    rcases Nat.mod_two_eq_zero_or_one v.toNat with h | h <;> rw [h]
    · exact Or.inl rfl
    · exact Or.inr rfl
  rcases e y.toBitVec with h | h
  · exact Or.inl (Int32.toBitVec_inj.mp (by rw [Int32.toBitVec_and]; exact h))
  · exact Or.inr (Int32.toBitVec_inj.mp (by rw [Int32.toBitVec_and]; exact h))
/-! ===== the invariant, out of whole's own operations ===== -/
theorem Rel.dn {j B : Nat} {a : KS} {b : MS} (h : Rel j a b) (hq : ∃ q, q ≤ B ∧ Khi a 10 10 = oN q) (hB : B ≤ 1000000) : Rel 500 a b := by
  obtain ⟨h1, ⟨d1, d2, d3, d4, ⟨q, q1, q2, q3⟩, d6⟩, h3⟩ := h
  obtain ⟨w, w1, w2⟩ := hq
  exact ⟨h1, ⟨d1, d2, d3, d4, ⟨w, by omega, w2, q3.trans (q2.symm.trans w2)⟩, d6⟩, h3⟩
theorem set_all {B : Nat} (hB : B ≤ 1000000) {a : KS} (h : LI B a) {i : Nat} (hi : i < 3) {v : Int32} (hl : f_X8_leastOf a (oN i) = some 1 ∧ ¬ v < 1 ∨ f_X8_leastOf a (oN i) = some 0 ∧ ¬ v < 0) (hu : ∃ m, f_X8_mostOf a (oN i) = some m ∧ v ≤ m) : f_X8_set a (oN i) v = some (0, Khi a 12 i, sKhi a 12 i v) ∧ LI B (sKhi a 12 i v) := by
  have e : f_X8_set a (oN i) v = some (0, Khi a 12 i, sKhi a 12 i v) := by
    have g3 : oN i < 3 := (oN_lt (y := 3) (by omega) (by decide)).mpr hi
    have n3 : ¬ (3 : Int32) ≤ oN i := Int32.not_le.mpr g3
    unfold f_X8_set
    rw [if_neg (oN_nn (by omega)), if_pos g3]
    obtain ⟨m, m1, m2⟩ := hu
    have fin : (f_X2_setting a (oN i)).bind (fun z11 => (f_X2_changeSetting a (oN i) v).bind (fun z14 => some (0, z11, z14))) = some (0, Khi a 12 i, sKhi a 12 i v) := by
      unfold f_X2_setting f_X2_changeSetting
      rw [if_neg (oN_nn (by omega)), if_neg n3, gd_t (inb_oN hi (by decide)), ofNat_cl (by omega), bs, if_neg (oN_nn (by omega)), if_neg n3, gd_t (inb_oN hi (by decide)), bs]
    rcases hl with ⟨l1, l2⟩ | ⟨l1, l2⟩
    · rw [l1, bs, if_neg l2, m1, bs, if_pos m2, fin]
    · rw [l1, bs, if_neg l2, m1, bs, if_pos m2, fin]
  refine ⟨e, ?_⟩
  obtain ⟨⟨b, hb⟩, hq, eo⟩ := h
  obtain ⟨z, w, t, z1, -, -, -, -, z6⟩ := s_13 500 a b (oN i) v 0 0 (by decide) hb
  unfold f_L_set at z1
  rw [e, bs, if_pos rfl] at z1
  obtain rfl := Option.some.inj z1
  have z7 : Rel 501 (sKhi a 12 i v) w.2 := z6
  exact ⟨⟨_, z7.dn hq hB⟩, hq, eo⟩
theorem set_pos {B : Nat} {a : KS} (h : LI B a) : (0 : Int32) < Khi a 12 0 ∧ (0 : Int32) < Khi a 12 1 ∧ ¬ Khi a 12 2 < 0 := by
  obtain ⟨⟨b, hb⟩, -, -⟩ := h
  obtain ⟨⟨q, q1, q2, q3⟩, ⟨w, w1, w2, w3⟩, s⟩ := set_c hb
  refine ⟨?_, ?_, ?_⟩
  · rw [q3]; exact (oN_lt (x := 0) (by decide) (by omega)).mpr (by omega)
  · rw [w3]; exact (oN_lt (x := 0) (by decide) (by omega)).mpr (by omega)
  · rcases s with s | s <;> rw [s] <;> decide
/-- the latest edit is taken back -/
theorem take_all {B : Nat} (hB : B ≤ 1000000) {a : KS} (h : LI B a) {q i : Nat} (hq : q < 8) (hi : i < Kn a) (h1 : Khi a 3 2 = oN (q + 1)) (h2 : Klg a q = some i) : f_X8_takeBack a = some (0, oN i, sKhi (sKhi (sKit a i 10 (Khi a 5 q)) 3 2 (oN q)) 13 3 (Khi a 13 3 + 1)) ∧ LI B (sKhi (sKhi (sKit a i 10 (Khi a 5 q)) 3 2 (oN q)) 13 3 (Khi a 13 3 + 1)) := by
  obtain ⟨⟨b, hb⟩, hid, eo⟩ := h
  have e := take_K hq hi h1 h2
  rw [(it_at hb.1 hi).1] at e
  refine ⟨e, ?_⟩
  obtain ⟨z, w, t, z1, -, -, -, -, z6⟩ := s_14 500 a b 0 0 0 0 (by decide) hb
  unfold f_L_takeBack at z1
  rw [e, bs, if_pos rfl] at z1
  obtain rfl := Option.some.inj z1
  have z7 : Rel 501 (sKhi (sKhi (sKit a i 10 (Khi a 5 q)) 3 2 (oN q)) 13 3 (Khi a 13 3 + 1)) w.2 := z6
  refine ⟨⟨_, z7.dn hid hB⟩, hid, fun m k hc => ?_⟩
  have e2 := chos_same (a := a) (a' := sKhi (sKhi (sKit a i 10 (Khi a 5 q)) 3 2 (oN q)) 13 3 (Khi a 13 3 + 1)) rfl rfl rfl (fun k => by
    show Kit (sKit a i 10 _) k 9 = _
    exact Kit_n (by decide)) rfl
  have := eo m k (e2.symm.trans hc)
  show ¬ (¬ Kit (sKit a i 10 _) k 11 = -1 ∧ Kit (sKit a i 10 _) k 12 = 0)
  rw [Kit_n (by decide), Kit_n (by decide)]
  exact this
