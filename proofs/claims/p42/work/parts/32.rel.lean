/-! ===== the pure part: numbers ===== -/
abbrev oN (n : Nat) : Int32 := Int32.ofNat n
theorem i32_ext {x y : Int32} (h : x.toInt = y.toInt) : x = y := Int32.toInt.inj h
theorem oN_inj {x y : Nat} (hx : x < 2147483648) (hy : y < 2147483648) (h : oN x = oN y) : x = y := by
  have := congrArg Int32.toInt h
  rw [ofNat_i32 hx, ofNat_i32 hy] at this
  omega
theorem oN_lt {x y : Nat} (hx : x < 2147483648) (hy : y < 2147483648) : oN x < oN y ↔ x < y := by
  rw [Int32.lt_iff_toInt_lt, ofNat_i32 hx, ofNat_i32 hy]
  omega
theorem oN_le {x y : Nat} (hx : x < 2147483648) (hy : y < 2147483648) : oN x ≤ oN y ↔ x ≤ y := by
  rw [Int32.le_iff_toInt_le, ofNat_i32 hx, ofNat_i32 hy]
  omega
theorem oN_nn {x : Nat} (hx : x < 2147483648) : ¬ oN x < 0 := by
  rw [Int32.lt_iff_toInt_lt, ofNat_i32 hx]
  have : (0 : Int32).toInt = 0 := by decide
  omega
theorem oN_ne1 {x : Nat} (hx : x < 2147483648) : ¬ oN x = -1 := by
  intro h
  have := congrArg Int32.toInt h
  rw [ofNat_i32 hx] at this
  have e : (-1 : Int32).toInt = -1 := by decide
  omega
theorem inb_oN {i N : Nat} (h : i < N) (hN : N ≤ 2147483648) : inb (oN i) N = true := by
  unfold inb
  rw [ofNat_i32 (by omega)]
  exact decide_eq_true ⟨by omega, by omega⟩
theorem nn_eq {v : Int32} (h : ¬ v < 0) : v = oN v.toNatClampNeg := by
  have h0 : (0 : Int32).toInt = 0 := by decide
  have h1 : ¬ v.toInt < 0 := fun q => h (Int32.lt_iff_toInt_lt.mpr (by rw [h0]; exact q))
  have h2 : v.toNatClampNeg = v.toInt.toNat := rfl
  have h3 := Int32.toInt_lt v
  apply i32_ext
  rw [ofNat_i32 (by omega), h2]
  omega
theorem nn_lt {v : Int32} (h : ¬ v < 0) : v.toNatClampNeg < 2147483648 := by
  have h0 : (0 : Int32).toInt = 0 := by decide
  have h1 : ¬ v.toInt < 0 := fun q => h (Int32.lt_iff_toInt_lt.mpr (by rw [h0]; exact q))
  have h2 : v.toNatClampNeg = v.toInt.toNat := rfl
  have h3 := Int32.toInt_lt v
  omega
theorem oN_add (x y : Nat) : oN x + oN y = oN (x + y) := (Int32.ofNat_add _ _).symm
theorem oN_succ (x : Nat) : oN x + 1 = oN (x + 1) := oN_add x 1
theorem oN_pred {x : Nat} (h : 1 ≤ x) : oN x - 1 = oN (x - 1) := by
  have e : oN x = oN (x - 1) + 1 := by rw [oN_succ, Nat.sub_add_cancel h]
  rw [e]
  exact Int32.add_sub_cancel _ _
theorem gd_t {α : Type} {t : Bool} {x : Option α} (h : t = true) : gd t x = x := if_pos h
theorem gd_d {α : Type} {P : Prop} {inst : Decidable P} {x : Option α} (h : P) : gd (decide P) x = x := if_pos (decide_eq_true h)
theorem odr_s {α : Type} {N i : Nat} {f : Nat → Option α} (h : i < N) : odr N (some i) f = f i := if_pos h
theorem ocs_s {α : Type} {i : Nat} {f : α} {g : Nat → α} : ocs (some i) f g = g i := rfl
theorem ocs_n {α : Type} {f : α} {g : Nat → α} : ocs none f g = f := rfl
theorem lt_e {α β : Type} (x : α) (f : α → β) : lt x f = f x := rfl
theorem bs {α β : Type} {x : α} {f : α → Option β} : (some x).bind f = f x := rfl
/-! ===== the relation of the two states ===== -/
/-- how many of the items 1 .. m - 1 stand in the menu p -/
def cnt (mn : Nat → Option Nat) (p : Nat) : Nat → Nat
  | 0 => 0
  | m + 1 => cnt mn p m + (if 1 ≤ m ∧ mn m = some p then 1 else 0)
/-- the kinds of items and their limits -/
def K9 (it : Nat → Int32) : Prop := (it 1 = 0 ∧ it 5 = 0 ∧ it 6 = 0 ∧ it 7 = 0) ∨ (it 1 = 1 ∧ -999 ≤ (it 5).toInt ∧ (it 5).toInt < (it 6).toInt ∧ (it 6).toInt ≤ 999 ∧ 1 ≤ (it 7).toInt ∧ (it 7).toInt ≤ 100) ∨ (it 1 = 2 ∧ it 5 = 0 ∧ 1 ≤ (it 6).toInt ∧ (it 6).toInt ≤ 8 ∧ it 7 = 1)
def VR (it : Nat → Int32) (v : Int32) : Prop := (it 5).toInt ≤ v.toInt ∧ v.toInt ≤ (it 6).toInt
/-- the tree -/
def RT (n : Nat) (c12 m1 : Int32) (it : Nat → Nat → Int32) (mn : Nat → Option Nat) (ch : Nat → Nat → Option Nat) (ti : Nat → Option Nat) (m2 m3 m4 m5 m6 m7 m8 m9 : Nat → Int32) : Prop :=
  (1 ≤ n ∧ n ≤ 24 ∧ c12 = oN n ∧ m1 = oN n) ∧
  ((∀ i, i < n → ti i = some i) ∧ (∀ j, okr n (ti j) = true) ∧ (∀ i, i < n → ∀ j, okr n (ch i j) = true)) ∧
  (∀ i, i < n → it i 0 = oN i ∧ it i 1 = m2 i ∧ it i 5 = m4 i ∧ it i 6 = m5 i ∧ it i 7 = m6 i ∧ it i 10 = m7 i ∧ it i 11 = m8 i ∧ it i 12 = m9 i ∧ (it i 12 = 0 ∨ it i 12 = 1)) ∧
  (mn 0 = none ∧ m3 0 = -1 ∧ it 0 3 = 0 ∧ it 0 1 = 0) ∧
  (∀ i, 1 ≤ i → i < n → ∃ p, p < i ∧ mn i = some p ∧ m3 i = oN p ∧ it p 1 = 0 ∧ it i 3 = it p 3 + 1 ∧ it i 4 = oN (cnt mn p i) ∧ ch p (cnt mn p i) = some i) ∧
  (∀ i, i < n → ∃ lv : Nat, lv ≤ 4 ∧ it i 3 = oN lv ∧ (it i 1 = 0 → lv ≤ 3)) ∧
  (∀ i, i < n → it i 9 = oN (cnt mn i n) ∧ cnt mn i n ≤ 8) ∧
  (∀ i, i < n → K9 (it i) ∧ VR (it i) (it i 10)) ∧
  (∀ i, n ≤ i → i < 24 → m4 i = 0 ∧ m5 i = 0 ∧ m6 i = 0 ∧ m7 i = 0 ∧ m9 i = 0)
abbrev RTs (a : KS) (b : MS) : Prop := RT (Kn a) (Khi a 1 2) (Mhi b 100 1) (Kit a) (Kmn a) (Kch a) (Kti a) (Mhi b 102) (Mhi b 103) (Mhi b 104) (Mhi b 105) (Mhi b 106) (Mhi b 107) (Mhi b 108) (Mhi b 109)
/-- the device: what it shows, its numbers, its rows -/
def RD (n : Nat) (it : Nat → Nat → Int32) (mn : Nat → Option Nat) (ch : Nat → Nat → Option Nat) (sh : Option Nat) (d : Nat → Int32) (dg se ev : Nat → Int32) (m : Nat → Int32) (mdg mse mev : Nat → Int32) (j : Nat) : Prop :=
  (∃ s c : Nat, sh = some s ∧ s < n ∧ it s 1 = 0 ∧ m 11 = oN s ∧ d 7 = oN c ∧ m 12 = oN c ∧ (c < cnt mn s n ∨ (c = cnt mn s n ∧ (1 ≤ s ∨ c = 0))) ∧ (¬ d 6 = 0 → c < cnt mn s n) ∧ (d 6 = 1 → ∀ i, ch s c = some i → ¬ it i 1 = 0 ∧ VR (it i) (d 8))) ∧
  (d 6 = m 10 ∧ (d 6 = 0 ∨ d 6 = 1 ∨ d 6 = 2)) ∧ d 8 = m 13 ∧
  (∃ q : Nat, q < 4 ∧ d 9 = oN q ∧ m 15 = oN q) ∧
  (∃ q : Nat, q ≤ 2000 * j ∧ d 10 = oN q ∧ m 16 = oN q) ∧
  (∃ q : Nat, q ≤ 30 ∧ d 11 = oN q ∧ m 17 = oN q) ∧
  (∃ q : Nat, q < 3 ∧ d 12 = oN q ∧ m 18 = oN q) ∧
  (∀ k, k < 4 → dg k = mdg k ∧ ∃ q : Nat, q < 10 ∧ dg k = oN q) ∧
  ((se 0 = mse 0 ∧ ∃ q : Nat, 1 ≤ q ∧ q ≤ 60 ∧ se 0 = oN q) ∧ (se 1 = mse 1 ∧ ∃ q : Nat, 1 ≤ q ∧ q ≤ 99 ∧ se 1 = oN q) ∧ (se 2 = mse 2 ∧ (se 2 = 0 ∨ se 2 = 1))) ∧
  (∀ k, k < 8 → ev k = mev k)
abbrev RDx (ev mev : Nat → Int32) (j : Nat) (a : KS) (b : MS) : Prop := RD (Kn a) (Kit a) (Kmn a) (Kch a) (Ksh a) (Khi a 10) (Khi a 11) (Khi a 12) ev (Mhi b 100) (Mhi b 114) (Mhi b 119) mev j
abbrev RDs (j : Nat) (a : KS) (b : MS) : Prop := RDx (Khi a 13) (Mhi b 120) j a b
/-- the log -/
def RG (n : Nat) (it : Nat → Nat → Int32) (lg : Nat → Option Nat) (c : Int32) (lv : Nat → Int32) (m : Int32) (mi mv : Nat → Int32) : Prop :=
  (∃ q : Nat, q ≤ 8 ∧ c = oN q ∧ m = oN q ∧ ∀ k, k < q → ∃ i, i < n ∧ lg k = some i ∧ mi k = oN i ∧ lv k = mv k ∧ ¬ it i 1 = 0 ∧ VR (it i) (lv k)) ∧ ∀ k, okr n (lg k) = true
abbrev RGs (a : KS) (b : MS) : Prop := RG (Kn a) (Kit a) (Klg a) (Khi a 3 2) (Khi a 5) (Mhi b 100 23) (Mhi b 121) (Mhi b 122)
/-- a preset -/
def RP (n : Nat) (it : Nat → Nat → Int32) (p : Nat → Int32) (v : Nat → Int32) (m : Int32) (mv : Nat → Int32) : Prop :=
  ∃ q : Nat, q ≤ n ∧ m = oN q ∧ p 1 = oN q ∧ ((q = 0 ∧ p 2 = 0) ∨ (1 ≤ q ∧ p 2 = 1)) ∧ ∀ k, k < q → (¬ it k 1 = 0 → v k = mv k ∧ VR (it k) (v k)) ∧ (it k 1 = 0 → mv k = 0)
abbrev RPs (a : KS) (b : MS) : Prop := RP (Kn a) (Kit a) (Khi a 6) (Khi a 7) (Mhi b 125 0) (fun k => Mhi b 124 k) ∧ RP (Kn a) (Kit a) (Khi a 8) (Khi a 9) (Mhi b 125 1) (fun k => Mhi b 124 (24 + k))
/-- the buffer -/
def RB (c : Int32) (v : Nat → Int32) (m : Int32) (mv : Nat → Int32) : Prop :=
  ∃ q : Nat, q ≤ 60 ∧ c = oN q ∧ m = oN q ∧ ∀ k, k < q → v k = mv k ∧ ∃ x : Nat, 33 ≤ x ∧ x ≤ 126 ∧ v k = oN x
abbrev RBs (a : KS) (b : MS) : Prop := RB (Khi a 16 2) (Khi a 17) (Mhi b 100 27) (Mhi b 126)
def Rel (j : Nat) (a : KS) (b : MS) : Prop := RTs a b ∧ RDs j a b ∧ RGs a b ∧ RPs a b ∧ RBs a b
theorem Rel.up (j : Nat) (a : KS) (b : MS) (h : Rel j a b) : Rel (j + 1) a b := by
  obtain ⟨h1, ⟨d1, d2, d3, d4, ⟨q, q1, q2, q3⟩, d6⟩, h3⟩ := h
  exact ⟨h1, ⟨d1, d2, d3, d4, ⟨q, by omega, q2, q3⟩, d6⟩, h3⟩
theorem Rel.rok {j : Nat} {a : KS} {b : MS} (h : Rel j a b) : Rok a := by
  obtain ⟨⟨⟨t1, -⟩, ⟨-, t2, t3⟩, -, ⟨t4, -⟩, t5, -⟩, ⟨⟨s, c, d1, d2, -⟩, -⟩, ⟨-, g⟩, -⟩ := h
  refine ⟨t1, fun i hi => ?_, t3, t2, g, ?_⟩
  · by_cases hz : i = 0
    · subst hz; rw [t4]; rfl
    · obtain ⟨p, p1, p2, -⟩ := t5 i (by omega) hi
      rw [p2]
      exact decide_eq_true (by omega)
  · rw [d1]
    exact decide_eq_true d2
/-! ===== looking items up ===== -/
section LU
variable {a : KS} {b : MS} {v : Int32}
theorem rt_n (h : RTs a b) : 1 ≤ Kn a ∧ Kn a ≤ 24 := ⟨h.1.1, h.1.2.1⟩
/-- a number in range is an item's -/
theorem in_n (h : RTs a b) (h0 : ¬ v < 0) (h1 : ¬ Khi a 1 2 ≤ v) : v = oN v.toNatClampNeg ∧ v.toNatClampNeg < Kn a := by
  have e := nn_eq h0
  refine ⟨e, ?_⟩
  rw [h.1.2.2.1] at h1
  have h2 := nn_lt h0
  have := rt_n h
  rw [e, oN_le (by omega) h2] at h1
  omega
theorem find_in (h : RTs a b) {i : Nat} (hi : i < Kn a) : f_X7_find a (oN i) = some (some i) := by
  have hn := rt_n h
  unfold f_X7_find
  rw [if_neg (oN_nn (by omega)), h.1.2.2.1, if_neg (by rw [oN_le (by omega) (by omega)]; omega), if_neg (by rw [show (24 : Int32) = oN 24 from rfl, oN_le (by omega) (by omega)]; omega), gd_t (inb_oN (by omega) (by omega)), lt_e, ofNat_cl (by omega), h.2.1.1 i hi]
theorem find_out (h : v < 0 ∨ Khi a 1 2 ≤ v) : f_X7_find a v = some none := by
  unfold f_X7_find
  by_cases h0 : v < 0
  · rw [if_pos h0]
  · rw [if_neg h0, if_pos (h.resolve_left h0)]
theorem num_in (h : RTs a b) {i : Nat} (hi : i < Kn a) : f_X8_itemNumbered a (oN i) = some (0, some i) := by
  unfold f_X8_itemNumbered
  rw [find_in h hi]; rfl
theorem num_out (h : v < 0 ∨ Khi a 1 2 ≤ v) : f_X8_itemNumbered a v = some (1, none) := by
  unfold f_X8_itemNumbered
  rw [find_out h]; rfl
/-- every number is an item's, or none's -/
theorem num_cases (h : RTs a b) (v : Int32) : (v < 0 ∨ Khi a 1 2 ≤ v) ∨ ∃ i, i < Kn a ∧ v = oN i := by
  by_cases h0 : v < 0
  · exact Or.inl (Or.inl h0)
  · by_cases h1 : Khi a 1 2 ≤ v
    · exact Or.inl (Or.inr h1)
    · have := in_n h h0 h1
      exact Or.inr ⟨_, this.2, this.1⟩
theorem isItem_in (h : RTs a b) {i : Nat} (hi : i < Kn a) : f_X9_isItem b (oN i) = some 1 := by
  have hn := rt_n h
  unfold f_X9_isItem f_X9_in
  rw [if_neg (oN_nn (by omega)), h.1.2.2.2, oN_pred hn.1, if_neg (by rw [oN_lt (by omega) (by omega)]; omega)]
  rfl
theorem isItem_out (h : RTs a b) (hv : v < 0 ∨ Khi a 1 2 ≤ v) : f_X9_isItem b v = some 0 := by
  have hn := rt_n h
  unfold f_X9_isItem f_X9_in
  by_cases h0 : v < 0
  · rw [if_pos h0]; rfl
  · rw [if_neg h0]
    have h1 := hv.resolve_left h0
    have e := nn_eq h0
    have h2 := nn_lt h0
    rw [h.1.2.2.1, e, oN_le (by omega) h2] at h1
    rw [h.1.2.2.2, oN_pred hn.1, e, if_pos (by rw [oN_lt (by omega) h2]; omega)]
    rfl
theorem it_at (h : RTs a b) {i : Nat} (hi : i < Kn a) : Kit a i 0 = oN i ∧ Kit a i 1 = Mhi b 102 i ∧ Kit a i 5 = Mhi b 104 i ∧ Kit a i 6 = Mhi b 105 i ∧ Kit a i 7 = Mhi b 106 i ∧ Kit a i 10 = Mhi b 107 i ∧ Kit a i 11 = Mhi b 108 i ∧ Kit a i 12 = Mhi b 109 i ∧ (Kit a i 12 = 0 ∨ Kit a i 12 = 1) := h.2.2.1 i hi
theorem in24 (h : RTs a b) {i : Nat} (hi : i < Kn a) : inb (oN i) 24 = true := inb_oN (by have := rt_n h; omega) (by omega)
theorem cl_n (h : RTs a b) {i : Nat} (hi : i < Kn a) : (oN i).toNatClampNeg = i := ofNat_cl (by have := rt_n h; omega)
theorem isMenu_in (h : RTs a b) {i : Nat} (hi : i < Kn a) : f_X9_isMenu b (oN i) = some (if Kit a i 1 = 0 then 1 else 0) := by
  unfold f_X9_isMenu
  rw [gd_t (in24 h hi), cl_n h hi, ← (it_at h hi).2.1]
  by_cases k : Kit a i 1 = 0
  · rw [if_neg (fun q => q k), if_pos k]
  · rw [if_pos k, if_neg k]
theorem locked_in {i : Nat} (hi : i < Kn a) : f_X4_locked a i = some (if Kit a i 11 = -1 then 0 else 1) := by
  unfold f_X4_locked
  rw [gd_d hi]
  by_cases k : Kit a i 11 = -1
  · rw [if_pos k, if_pos k]
  · rw [if_neg k, if_neg k]
theorem closed_in {i : Nat} (hi : i < Kn a) : f_X4_closed a i = some (if ¬ Kit a i 11 = -1 ∧ Kit a i 12 = 0 then 1 else 0) := by
  unfold f_X4_closed
  rw [gd_d hi, locked_in hi, bs]
  by_cases k : Kit a i 11 = -1
  · rw [if_pos k, if_pos rfl, if_neg (fun q => q.1 k)]
  · rw [if_neg k, if_neg (by decide)]
    by_cases o : Kit a i 12 = 0
    · rw [if_neg (fun q => q o), if_pos ⟨k, o⟩]
    · rw [if_pos o, if_neg (fun q => o q.2)]
theorem isShut_in (h : RTs a b) {i : Nat} (hi : i < Kn a) : f_X9_isShut b (oN i) = some (if ¬ Kit a i 11 = -1 ∧ Kit a i 12 = 0 then 1 else 0) := by
  unfold f_X9_isShut
  rw [gd_t (in24 h hi), cl_n h hi, ← (it_at h hi).2.2.2.2.2.2.1, ← (it_at h hi).2.2.2.2.2.2.2.1]
  by_cases k : Kit a i 11 = -1
  · rw [if_pos k, if_neg (fun q => q.1 k)]
  · rw [if_neg k, gd_t (in24 h hi)]
    by_cases o : Kit a i 12 = 0
    · rw [if_neg (fun q => q o), if_pos ⟨k, o⟩]
    · rw [if_pos o, if_neg (fun q => o q.2)]
end LU
