/-! ===== the ways to the items ===== -/
def clo (a : KS) (i : Nat) : Nat := if ¬ Kit a i 11 = -1 ∧ Kit a i 12 = 0 then 1 else 0
def cdN (a : KS) : Nat → Nat → Nat
  | 0, _ => 0
  | f + 1, i => clo a i + (match Kmn a i with | none => 0 | some p => cdN a f p)
/-- the detents from the menu's first entry to this one -/
def wy (a : KS) (p i : Nat) : Nat := if Khi a 12 2 = 1 then min (cnt (Kmn a) p i) (cnt (Kmn a) p (Kn a) + (if p = 0 then 0 else 1) - cnt (Kmn a) p i) else cnt (Kmn a) p i
def dtN (a : KS) : Nat → Nat → Nat
  | 0, _ => 0
  | f + 1, i => (match Kmn a i with | none => 0 | some p => wy a p i + dtN a f p)
def cd (a : KS) (i : Nat) : Nat := cdN a (i + 1) i
def dt (a : KS) (i : Nat) : Nat := dtN a (i + 1) i
section WY
variable {a : KS} {b : MS}
theorem par (h : RTs a b) {i : Nat} (h1 : 1 ≤ i) (hi : i < Kn a) : ∃ p, p < i ∧ Kmn a i = some p ∧ Kit a p 1 = 0 ∧ Kit a i 3 = Kit a p 3 + 1 ∧ Kit a i 4 = oN (cnt (Kmn a) p i) ∧ Kch a p (cnt (Kmn a) p i) = some i ∧ cnt (Kmn a) p i < cnt (Kmn a) p (Kn a) ∧ cnt (Kmn a) p (Kn a) ≤ 8 := by
  obtain ⟨p, p1, p2, p3, p4, p5, p6, p7⟩ := h.2.2.2.2.1 i h1 hi
  have hlt := cnt_hit (mn := Kmn a) (p := p) (i := i) h1 p2
  have hmo := cnt_mono (mn := Kmn a) (p := p) (k := i + 1) (m := Kn a) (by omega)
  exact ⟨p, p1, p2, p4, p5, p6, p7, by omega, (h.2.2.2.2.2.2.1 p (by omega)).2⟩
theorem cdN_ind (h : RTs a b) : ∀ (f g i : Nat), i < Kn a → i < f → i < g → cdN a f i = cdN a g i := by
  intro f
  induction f with
  | zero => intro g i _ h1; omega
  | succ f ih =>
    intro g i hi h1 h2
    obtain ⟨g', rfl⟩ : ∃ g', g = g' + 1 := ⟨g - 1, by omega⟩
    show clo a i + (match Kmn a i with | none => 0 | some p => cdN a f p) = clo a i + (match Kmn a i with | none => 0 | some p => cdN a g' p)
    by_cases e : i = 0
    · subst e
      rw [h.2.2.2.1.1]
    · obtain ⟨p, p1, p2, -⟩ := par h (by omega) hi
      rw [p2]
      show clo a i + cdN a f p = clo a i + cdN a g' p
      rw [ih g' p (by omega) (by omega) (by omega)]
theorem dtN_ind (h : RTs a b) : ∀ (f g i : Nat), i < Kn a → i < f → i < g → dtN a f i = dtN a g i := by
  intro f
  induction f with
  | zero => intro g i _ h1; omega
  | succ f ih =>
    intro g i hi h1 h2
    obtain ⟨g', rfl⟩ : ∃ g', g = g' + 1 := ⟨g - 1, by omega⟩
    show (match Kmn a i with | none => 0 | some p => wy a p i + dtN a f p) = (match Kmn a i with | none => 0 | some p => wy a p i + dtN a g' p)
    by_cases e : i = 0
    · subst e
      rw [h.2.2.2.1.1]
    · obtain ⟨p, p1, p2, -⟩ := par h (by omega) hi
      rw [p2]
      show wy a p i + dtN a f p = wy a p i + dtN a g' p
      rw [ih g' p (by omega) (by omega) (by omega)]
theorem cd_s (h : RTs a b) {i p : Nat} (hi : i < Kn a) (hp : p < i) (hm : Kmn a i = some p) : cd a i = clo a i + cd a p := by
  show clo a i + (match Kmn a i with | none => 0 | some p => cdN a i p) = _
  rw [hm]
  show clo a i + cdN a i p = _
  rw [cdN_ind h i (p + 1) p (by omega) hp (by omega)]
  rfl
theorem dt_s (h : RTs a b) {i p : Nat} (hi : i < Kn a) (hp : p < i) (hm : Kmn a i = some p) : dt a i = wy a p i + dt a p := by
  show (match Kmn a i with | none => 0 | some p => wy a p i + dtN a i p) = _
  rw [hm]
  show wy a p i + dtN a i p = _
  rw [dtN_ind h i (p + 1) p (by omega) hp (by omega)]
  rfl
theorem dt_0 (h : RTs a b) : dt a 0 = 0 := by
  show (match Kmn a 0 with | none => 0 | some p => wy a p 0 + dtN a 0 p) = _
  rw [h.2.2.2.1.1]
theorem cd_0 (h : RTs a b) : cd a 0 = clo a 0 := by
  show clo a 0 + (match Kmn a 0 with | none => 0 | some p => cdN a 0 p) = _
  rw [h.2.2.2.1.1]
  rfl
theorem clo_le (a : KS) (i : Nat) : clo a i ≤ 1 := by
  unfold clo
  by_cases k : ¬ Kit a i 11 = -1 ∧ Kit a i 12 = 0
  · rw [if_pos k]; exact Nat.le_refl _
  · rw [if_neg k]; exact Nat.zero_le _
theorem cnt_le8 (h : RTs a b) {i p : Nat} (h1 : 1 ≤ i) (hi : i < Kn a) (hm : Kmn a i = some p) : wy a p i ≤ 8 := by
  obtain ⟨p', p1, p2, p3, p4, p5, p6, p7, p8⟩ := par h h1 hi
  obtain rfl : p' = p := Option.some.inj (p2.symm.trans hm)
  unfold wy
  by_cases k : Khi a 12 2 = 1
  · rw [if_pos k]; omega
  · rw [if_neg k]; omega
theorem cd_le (h : RTs a b) : ∀ i, i < Kn a → cd a i ≤ i + 1 := by
  intro i
  induction i using Nat.strongRecOn with
  | ind i ih =>
    intro hi
    by_cases e : i = 0
    · subst e
      rw [cd_0 h]
      have := clo_le a 0
      omega
    · obtain ⟨p, p1, p2, -⟩ := par h (by omega) hi
      rw [cd_s h hi p1 p2]
      have := ih p p1 (by omega)
      have := clo_le a i
      omega
theorem dt_le (h : RTs a b) : ∀ i, i < Kn a → dt a i ≤ 8 * i := by
  intro i
  induction i using Nat.strongRecOn with
  | ind i ih =>
    intro hi
    by_cases e : i = 0
    · subst e
      rw [dt_0 h]
      omega
    · obtain ⟨p, p1, p2, -⟩ := par h (by omega) hi
      rw [dt_s h hi p1 p2]
      have := ih p p1 (by omega)
      have := cnt_le8 h (by omega) hi p2
      omega
theorem codes_K (h : RTs a b) : ∀ (f i : Nat) (acc : Nat), i < Kn a → i + 1 < f → l_X8_codesTo_8 f a (oN acc) (some i) = some (0, oN (acc + cd a i)) := by
  intro f
  induction f with
  | zero => intro i acc _ h2; omega
  | succ f ih =>
    intro i acc hi h1
    have e1 : l_X8_codesTo_8 (f + 1) a (oN acc) (some i) = f_X8_codesTo_8 (l_X8_codesTo_8 f) a (oN acc) (some i) := rfl
    rw [e1]
    unfold f_X8_codesTo_8 f_X8_codesTo_22
    rw [ocs_s, gd_d hi, closed_in hi, bs]
    have key : ∀ acc2 : Nat, gd (decide (i < Kn a)) (lt (Kmn a i) fun o2 => l_X8_codesTo_8 f a (oN acc2) o2) = some (0, oN (acc2 + (cd a i - clo a i))) := by
      intro acc2
      rw [gd_d hi, lt_e]
      by_cases e : i = 0
      · subst e
        rw [h.2.2.2.1.1]
        obtain ⟨f', rfl⟩ : ∃ f', f = f' + 1 := ⟨f - 1, by omega⟩
        rw [cd_0 h, Nat.sub_self]
        rfl
      · obtain ⟨p, p1, p2, -⟩ := par h (by omega) hi
        rw [p2, ih p acc2 (by omega) (by omega), cd_s h hi p1 p2, Nat.add_sub_cancel_left]
    have hc : clo a i ≤ cd a i := by
      by_cases e : i = 0
      · subst e; rw [cd_0 h]; exact Nat.le_refl _
      · obtain ⟨p, p1, p2, -⟩ := par h (by omega) hi
        rw [cd_s h hi p1 p2]; omega
    by_cases k : ¬ Kit a i 11 = -1 ∧ Kit a i 12 = 0
    · have e : clo a i = 1 := if_pos k
      rw [if_pos k, if_neg n10, oN_succ, key (acc + 1), show acc + 1 + (cd a i - clo a i) = acc + cd a i by omega]
    · have e : clo a i = 0 := if_neg k
      rw [if_neg k, if_pos rfl, key acc, show acc + (cd a i - clo a i) = acc + cd a i by omega]
theorem q_codes (h : RTs a b) {i : Nat} (hi : i < Kn a) : f_X8_codesTo a (oN i) = some (0, oN (cd a i)) := by
  have hn := rt_n h
  unfold f_X8_codesTo
  rw [num_in h hi, bs, if_pos rfl, lt_e]
  have e := codes_K h FU i 0 hi (by rw [FU_e]; omega)
  rw [Nat.zero_add] at e
  exact e
theorem oN_sub {x y : Nat} (h : y ≤ x) : oN x - oN y = oN (x - y) := by
  have e : oN x = oN (x - y) + oN y := by rw [oN_add, Nat.sub_add_cancel h]
  rw [e]
  exact Int32.add_sub_cancel _ _
theorem way_K {j : Nat} (hb : Rel j a b) {i p : Nat} (h1 : 1 ≤ i) (hi : i < Kn a) (hm : Kmn a i = some p) : (f_X4_entries a p).bind (fun z6 => (f_X2_detentsToEntry a (Kit a i 4) z6).bind (fun z9 => some z9)) = some (oN (wy a p i)) := by
  have h := hb.1
  obtain ⟨p', p1, p2, p3, p4, p5, p6, p7, p8⟩ := par h h1 hi
  obtain rfl : p' = p := Option.some.inj (p2.symm.trans hm)
  rw [entries_K h (show p' < Kn a by omega), bs]
  unfold f_X2_detentsToEntry wy
  rw [show f_X2_setting a 2 = some (Khi a 12 2) from rfl, bs, p5]
  by_cases k : Khi a 12 2 = 1
  · rw [if_neg (fun z => z k), if_pos k]
    unfold mmin
    have e9 : cnt (Kmn a) p' i ≤ cnt (Kmn a) p' (Kn a) + (if p' = 0 then 0 else 1) := by omega
    rw [oN_sub e9]
    have hi1 : (if p' = 0 then 0 else 1) ≤ 1 := by split <;> omega
    have hD : cnt (Kmn a) p' (Kn a) + (if p' = 0 then 0 else 1) - cnt (Kmn a) p' i ≤ 9 := by omega
    generalize cnt (Kmn a) p' (Kn a) + (if p' = 0 then 0 else 1) - cnt (Kmn a) p' i = D at *
    by_cases z : D < cnt (Kmn a) p' i
    · rw [if_pos ((oN_lt (by omega) (by omega)).mpr z), bs, Nat.min_eq_right (by omega)]
    · rw [if_neg (fun q => z ((oN_lt (by omega) (by omega)).mp q)), bs, Nat.min_eq_left (by omega)]
  · rw [if_pos k, if_neg k]; rfl
theorem dets_K {j : Nat} (hb : Rel j a b) : ∀ (f i : Nat) (acc : Nat), i < Kn a → i + 1 < f → l_X2_detentsFromHome_10 f a (oN acc) i (Kmn a i) = some (oN (acc + dt a i)) := by
  have h := hb.1
  intro f
  induction f with
  | zero => intro i acc _ h2; omega
  | succ f ih =>
    intro i acc hi h1
    have e1 : l_X2_detentsFromHome_10 (f + 1) a (oN acc) i (Kmn a i) = f_X2_detentsFromHome_10 (l_X2_detentsFromHome_10 f) a (oN acc) i (Kmn a i) := rfl
    rw [e1]
    unfold f_X2_detentsFromHome_10
    by_cases e : i = 0
    · subst e
      rw [h.2.2.2.1.1, dt_0 h]
      rfl
    · obtain ⟨p, p1, p2, -⟩ := par h (by omega) hi
      rw [p2, ocs_s, gd_d hi, gd_d (show p < Kn a by omega)]
      have e2 := way_K hb (by omega) hi p2
      obtain ⟨z6, z1, z2⟩ := Option.bind_eq_some_iff.mp e2
      obtain ⟨z9, z3, z4⟩ := Option.bind_eq_some_iff.mp z2
      obtain rfl := Option.some.inj z4
      rw [z1, bs, z3, bs, lt_e, lt_e, oN_add, ih p _ (by omega) (by omega), dt_s h hi p1 p2, Nat.add_assoc]
theorem q_dets {j : Nat} (hb : Rel j a b) {i : Nat} (hi : i < Kn a) : f_X8_detentsTo a (oN i) = some (0, oN (dt a i)) := by
  have hn := rt_n hb.1
  unfold f_X8_detentsTo f_X2_detentsFromHome
  rw [num_in hb.1 hi, bs, if_pos rfl, lt_e, odr_s hi, lt_e]
  have e := dets_K hb FU i 0 hi (by rw [FU_e]; omega)
  rw [Nat.zero_add] at e
  rw [show (0 : Int32) = oN 0 from rfl, e, bs]
/-- the level of an item, as a number -/
theorem lev (h : RTs a b) {i : Nat} (hi : i < Kn a) : ∃ l : Nat, l ≤ 4 ∧ Kit a i 3 = oN l ∧ (Kit a i 1 = 0 → l ≤ 3) := h.2.2.2.2.2.1 i hi
end WY
