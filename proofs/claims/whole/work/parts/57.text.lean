/-! ===== texts: signs, the class's reader, the reference's ===== -/
def rd (a : KS) (v m : Int32) : KS := (fun p => if p = 18 then (fun k => if k = 0 then v else if k = 1 then m else Khi a 18 k) else a.1 p, a.2)
def md (b : MS) (x y z : Int32) : MS := (fun p => if p = 100 then (fun k => if k = 28 then x else if k = 29 then y else if k = 30 then z else Mhi b 100 k) else b.1 p, b.2)
theorem rd_0 {a : KS} {v m w : Int32} : sKhi (rd a v m) 18 0 w = rd a w m := by
  have e : (sKhi (rd a v m) 18 0 w).1 = (rd a w m).1 := by
    funext p k
    show (if p = 18 ∧ k = 0 then w else (if p = 18 then (fun k => if k = 0 then v else if k = 1 then m else Khi a 18 k) else a.1 p) k) = (if p = 18 then (fun k => if k = 0 then w else if k = 1 then m else Khi a 18 k) else a.1 p) k
    by_cases g : p = 18
    · rw [if_pos g, if_pos g]
      by_cases g2 : k = 0
      · rw [if_pos ⟨g, g2⟩]; show w = if k = 0 then w else _; rw [if_pos g2]
      · rw [if_neg (fun z => g2 z.2)]; show (if k = 0 then v else _) = if k = 0 then w else _; rw [if_neg g2, if_neg g2]
    · rw [if_neg (fun z => g z.1), if_neg g, if_neg g]
  exact Prod.ext e rfl
theorem rd_1 {a : KS} {v m w : Int32} : sKhi (rd a v m) 18 1 w = rd a v w := by
  have e : (sKhi (rd a v m) 18 1 w).1 = (rd a v w).1 := by
    funext p k
    show (if p = 18 ∧ k = 1 then w else (if p = 18 then (fun k => if k = 0 then v else if k = 1 then m else Khi a 18 k) else a.1 p) k) = (if p = 18 then (fun k => if k = 0 then v else if k = 1 then w else Khi a 18 k) else a.1 p) k
    by_cases g : p = 18
    · rw [if_pos g, if_pos g]
      by_cases g2 : k = 1
      · rw [if_pos ⟨g, g2⟩, g2]; rfl
      · rw [if_neg (fun z => g2 z.2)]; show (if k = 0 then v else if k = 1 then m else _) = if k = 0 then v else if k = 1 then w else _; rw [if_neg g2, if_neg g2]
    · rw [if_neg (fun z => g z.1), if_neg g, if_neg g]
  exact Prod.ext e rfl
theorem rd_id (a : KS) : rd a (Khi a 18 0) (Khi a 18 1) = a := by
  have e : (rd a (Khi a 18 0) (Khi a 18 1)).1 = a.1 := by
    funext p k
    show (if p = 18 then (fun k => if k = 0 then Khi a 18 0 else if k = 1 then Khi a 18 1 else Khi a 18 k) else a.1 p) k = a.1 p k
    by_cases g : p = 18
    · rw [if_pos g, g]
      show (if k = 0 then Khi a 18 0 else if k = 1 then Khi a 18 1 else Khi a 18 k) = Khi a 18 k
      by_cases g0 : k = 0
      · rw [if_pos g0, g0]
      · rw [if_neg g0]
        by_cases g1 : k = 1
        · rw [if_pos g1, g1]
        · rw [if_neg g1]
    · rw [if_neg g]
  exact Prod.ext e rfl
theorem rd_16 {a : KS} {v m w : Int32} : sKhi (rd a v m) 16 3 w = rd (sKhi a 16 3 w) v m := by
  have e : (sKhi (rd a v m) 16 3 w).1 = (rd (sKhi a 16 3 w) v m).1 := by
    funext p k
    show (if p = 16 ∧ k = 3 then w else (if p = 18 then (fun k => if k = 0 then v else if k = 1 then m else Khi a 18 k) else a.1 p) k) = (if p = 18 then (fun k => if k = 0 then v else if k = 1 then m else Khi a 18 k) else (fun k => if p = 16 ∧ k = 3 then w else a.1 p k)) k
    by_cases g : p = 18
    · rw [if_pos g, if_pos g, if_neg (by omega)]
    · rw [if_neg g, if_neg g]
  exact Prod.ext e rfl
theorem begin_K {a : KS} {v m : Int32} : f_X0_begin (rd a v m) = some (rd a 32 0) := by
  unfold f_X0_begin
  rw [gd_t (by decide), rd_0, rd_1]
theorem md_28 {b : MS} {x y z w : Int32} : sMhi (md b x y z) 100 28 w = md b w y z := by
  have e : (sMhi (md b x y z) 100 28 w).1 = (md b w y z).1 := by
    funext p k
    show (if p = 100 ∧ k = 28 then w else (if p = 100 then (fun k => if k = 28 then x else if k = 29 then y else if k = 30 then z else Mhi b 100 k) else b.1 p) k) = (if p = 100 then (fun k => if k = 28 then w else if k = 29 then y else if k = 30 then z else Mhi b 100 k) else b.1 p) k
    by_cases g : p = 100
    · rw [if_pos g, if_pos g]
      by_cases g2 : k = 28
      · rw [if_pos ⟨g, g2⟩, g2]; rfl
      · rw [if_neg (fun z => g2 z.2)]; show (if k = 28 then x else _) = if k = 28 then w else _; rw [if_neg g2, if_neg g2]
    · rw [if_neg (fun z => g z.1), if_neg g, if_neg g]
  exact Prod.ext e rfl
theorem md_29 {b : MS} {x y z w : Int32} : sMhi (md b x y z) 100 29 w = md b x w z := by
  have e : (sMhi (md b x y z) 100 29 w).1 = (md b x w z).1 := by
    funext p k
    show (if p = 100 ∧ k = 29 then w else (if p = 100 then (fun k => if k = 28 then x else if k = 29 then y else if k = 30 then z else Mhi b 100 k) else b.1 p) k) = (if p = 100 then (fun k => if k = 28 then x else if k = 29 then w else if k = 30 then z else Mhi b 100 k) else b.1 p) k
    by_cases g : p = 100
    · rw [if_pos g, if_pos g]
      by_cases g2 : k = 29
      · rw [if_pos ⟨g, g2⟩, g2]; rfl
      · rw [if_neg (fun z => g2 z.2)]; show (if k = 28 then x else if k = 29 then y else _) = if k = 28 then x else if k = 29 then w else _; rw [if_neg g2, if_neg g2]
    · rw [if_neg (fun z => g z.1), if_neg g, if_neg g]
  exact Prod.ext e rfl
theorem md_30 {b : MS} {x y z w : Int32} : sMhi (md b x y z) 100 30 w = md b x y w := by
  have e : (sMhi (md b x y z) 100 30 w).1 = (md b x y w).1 := by
    funext p k
    show (if p = 100 ∧ k = 30 then w else (if p = 100 then (fun k => if k = 28 then x else if k = 29 then y else if k = 30 then z else Mhi b 100 k) else b.1 p) k) = (if p = 100 then (fun k => if k = 28 then x else if k = 29 then y else if k = 30 then w else Mhi b 100 k) else b.1 p) k
    by_cases g : p = 100
    · rw [if_pos g, if_pos g]
      by_cases g2 : k = 30
      · rw [if_pos ⟨g, g2⟩, g2]; rfl
      · rw [if_neg (fun z => g2 z.2)]; show (if k = 28 then x else if k = 29 then y else if k = 30 then z else _) = if k = 28 then x else if k = 29 then y else if k = 30 then w else _; rw [if_neg g2, if_neg g2]
    · rw [if_neg (fun z => g z.1), if_neg g, if_neg g]
  exact Prod.ext e rfl
theorem md_id (b : MS) : md b (Mhi b 100 28) (Mhi b 100 29) (Mhi b 100 30) = b := by
  have e : (md b (Mhi b 100 28) (Mhi b 100 29) (Mhi b 100 30)).1 = b.1 := by
    funext p k
    show (if p = 100 then (fun k => if k = 28 then Mhi b 100 28 else if k = 29 then Mhi b 100 29 else if k = 30 then Mhi b 100 30 else Mhi b 100 k) else b.1 p) k = b.1 p k
    by_cases g : p = 100
    · rw [if_pos g, g]
      show (if k = 28 then Mhi b 100 28 else if k = 29 then Mhi b 100 29 else if k = 30 then Mhi b 100 30 else Mhi b 100 k) = Mhi b 100 k
      by_cases g0 : k = 28
      · rw [if_pos g0, g0]
      · rw [if_neg g0]
        by_cases g1 : k = 29
        · rw [if_pos g1, g1]
        · rw [if_neg g1]
          by_cases g2 : k = 30
          · rw [if_pos g2, g2]
          · rw [if_neg g2]
    · rw [if_neg g]
  exact Prod.ext e rfl
/-- the text: n signs, numbers of signs; 0 behind its end -/
def TXa (σ : Nat → Nat) (n : Nat) (a : KS) : Prop := Khi a 16 2 = oN n ∧ ∀ k, k < n → Khi a 17 k = oN (σ k)
def TXb (σ : Nat → Nat) (n : Nat) (b : MS) : Prop := Mhi b 100 27 = oN n ∧ ∀ k, k < n → Mhi b 126 k = oN (σ k)
def TX (σ : Nat → Nat) (n : Nat) : Prop := n ≤ 60 ∧ ∀ k, (k < n → 33 ≤ σ k ∧ σ k ≤ 126) ∧ (n ≤ k → σ k = 0)
theorem sign_K {σ : Nat → Nat} {n k : Nat} {a : KS} {v m : Int32} (hx : TX σ n) (h : TXa σ n a) (hk : k < n) : f_X1_signAt (rd a v m) (oN k) = some (oN (σ k)) := by
  have hn := hx.1
  obtain ⟨x1, x2⟩ := (hx.2 k).1 hk
  have g : ¬ 60 ≤ oN k := fun z => by rw [show (60 : Int32) = oN 60 from rfl, oN_le (by decide) (by omega)] at z; omega
  unfold f_X1_signAt
  rw [if_neg (oN_nn (by omega)), if_neg g, gd_t (inb_oN (by omega) (by decide)), ofNat_cl (by omega), show Khi (rd a v m) 17 k = Khi a 17 k from rfl, h.2 k hk, gd_t (okc_in _ (by omega))]
theorem sign_M {σ : Nat → Nat} {n k : Nat} {b : MS} {y z : Int32} (hx : TX σ n) (h : TXb σ n b) (hk : k ≤ n + 2) : f_X9_sign (md b (oN k) y z) = some (oN (σ k)) := by
  have hn := hx.1
  unfold f_X9_sign
  rw [show Mhi (md b (oN k) y z) 100 27 = Mhi b 100 27 from rfl, show Mhi (md b (oN k) y z) 100 28 = oN k from rfl, h.1]
  by_cases g : n ≤ k
  · rw [if_pos ((oN_le (by omega) (by omega)).mpr g), (hx.2 k).2 g]; rfl
  · rw [if_neg (fun z => g ((oN_le (by omega) (by omega)).mp z)), gd_t (inb_oN (show k < 60 by omega) (by decide)), ofNat_cl (by omega), show Mhi (md b (oN k) y z) 126 k = Mhi b 126 k from rfl, h.2 k (by omega)]
/-- the class's reader: what it takes -/
def isV (t : Nat) : Prop := t = 112 ∨ t = 104
def isN (t : Nat) : Prop := t = 114 ∨ t = 108 ∨ t = 116
def mx (t : Nat) : Nat := if t = 116 then 99 else 50
theorem most_V {a : KS} {t : Nat} (h : isV t) : f_X0_mostFor a (oN t) = some 0 := by
  rcases h with rfl | rfl <;> rfl
theorem most_N {a : KS} {t : Nat} (h : isN t) : f_X0_mostFor a (oN t) = some (oN (mx t)) := by
  rcases h with rfl | rfl | rfl <;> rfl
theorem most_o {a : KS} {t : Nat} (ht : t ≤ 126) (h1 : ¬ isV t) (h2 : ¬ isN t) : f_X0_mostFor a (oN t) = some (-1) := by
  have ne : ∀ u : Nat, u < 200 → ¬ t = u → ¬ oN t = oN u := fun u hu h z => h (oN_inj (by omega) (by omega) z)
  unfold f_X0_mostFor
  rw [if_neg (show ¬ oN t = 114 from ne 114 (by decide) (fun z => h2 (Or.inl z))), if_pos (show ¬ oN t = 108 from ne 108 (by decide) (fun z => h2 (Or.inr (Or.inl z)))), if_pos (show ¬ oN t = 116 from ne 116 (by decide) (fun z => h2 (Or.inr (Or.inr z)))), if_neg (show ¬ oN t = 112 from ne 112 (by decide) (fun z => h1 (Or.inl z))), if_pos (show ¬ oN t = 104 from ne 104 (by decide) (fun z => h1 (Or.inr z)))]
theorem mx_le (t : Nat) : mx t = 99 ∨ mx t = 50 := by
  unfold mx
  by_cases g : t = 116
  · rw [if_pos g]; exact Or.inl rfl
  · rw [if_neg g]; exact Or.inr rfl
theorem okz1 {α : Type} {x : α} : okz ((1 : Int32), x).1 = true := rfl
theorem okz0 {α : Type} {x : α} : okz ((0 : Int32), x).1 = true := rfl
/-- the first sign of an action -/
theorem tk_verb {a : KS} {t : Nat} (ht : t ≤ 126) : f_X0_takes (rd a 32 0) (oN t) = if t = 112 ∨ t = 104 ∨ t = 114 ∨ t = 108 ∨ t = 116 then some (1, rd a (oN t) 0) else some (0, rd a 32 0) := by
  have e0 : Khi (rd a 32 0) 18 0 = 32 := rfl
  have nn : ¬ ¬ (32 : Int32) = 32 := fun z => z rfl
  have mm : ¬ ¬ (-1 : Int32) = -1 := fun z => z rfl
  unfold f_X0_takes f_X0_takesVerb
  rw [e0, if_neg nn]
  by_cases g1 : isV t
  · rw [most_V g1, bs, if_pos (by decide), gd_t (okc_in t (by omega)), bs, gd_t okz1, rd_0, if_pos]
    rcases g1 with z | z
    · exact Or.inl z
    · exact Or.inr (Or.inl z)
  · by_cases g2 : isN t
    · have n1 : ¬ oN (mx t) = -1 := oN_ne1 (by have := mx_le t; omega)
      rw [most_N g2, bs, if_pos n1, gd_t (okc_in t (by omega)), bs, gd_t okz1, rd_0, if_pos]
      rcases g2 with z | z | z
      · exact Or.inr (Or.inr (Or.inl z))
      · exact Or.inr (Or.inr (Or.inr (Or.inl z)))
      · exact Or.inr (Or.inr (Or.inr (Or.inr z)))
    · rw [most_o ht g1 g2, bs, if_neg mm, bs, gd_t okz0, if_neg]
      rintro (z | z | z | z | z)
      · exact g1 (Or.inl z)
      · exact g1 (Or.inr z)
      · exact g2 (Or.inl z)
      · exact g2 (Or.inr (Or.inl z))
      · exact g2 (Or.inr (Or.inr z))
theorem ne32 {t : Nat} (h : isV t ∨ isN t) : ¬ oN t = 32 := by
  rcases h with (rfl | rfl) | (rfl | rfl | rfl) <;> decide
/-- may an action end here -/
theorem end_V {a : KS} {t : Nat} {m : Int32} (h : isV t) : f_X0_atEnd (rd a (oN t) m) = some 1 := by
  unfold f_X0_atEnd
  rw [show Khi (rd a (oN t) m) 18 0 = oN t from rfl, if_neg (ne32 (Or.inl h)), most_V h, bs, if_neg nn00]
  by_cases g : 0 < Khi (rd a (oN t) m) 18 1
  · rw [if_pos g]
  · rw [if_neg g]
theorem end_0 {a : KS} {t : Nat} (h : isN t) : f_X0_atEnd (rd a (oN t) 0) = some 0 := by
  have g : ¬ oN (mx t) = 0 := fun z => by
    have := mx_le t
    have := oN_inj (y := 0) (by omega) (by decide) z
    omega
  unfold f_X0_atEnd
  rw [show Khi (rd a (oN t) 0) 18 0 = oN t from rfl, show Khi (rd a (oN t) 0) 18 1 = 0 from rfl, if_neg (ne32 (Or.inr h)), if_neg (by decide), most_N h, bs, if_pos g]
theorem end_32 {a : KS} {m : Int32} : f_X0_atEnd (rd a 32 m) = some 0 := rfl
theorem end_N {a : KS} {t q : Nat} (h : isN t) (q1 : 1 ≤ q) (q2 : q < 1000) : f_X0_atEnd (rd a (oN t) (oN q)) = some 1 := by
  unfold f_X0_atEnd
  rw [show Khi (rd a (oN t) (oN q)) 18 0 = oN t from rfl, show Khi (rd a (oN t) (oN q)) 18 1 = oN q from rfl, if_neg (ne32 (Or.inr h)), if_pos (show (0 : Int32) < oN q from (oN_lt (x := 0) (by decide) (by omega)).mpr (by omega))]
/-- a comma -/
theorem tk_comma {a : KS} {t q : Nat} {e : Int32} (h : isV t ∨ isN t) (he : f_X0_atEnd (rd a (oN t) (oN q)) = some e) (h01 : e = 0 ∨ e = 1) : f_X0_takes (rd a (oN t) (oN q)) 44 = some (e, if e = 0 then rd a (oN t) (oN q) else rd a 32 0) := by
  unfold f_X0_takes f_X0_takesComma
  rw [show Khi (rd a (oN t) (oN q)) 18 0 = oN t from rfl, if_pos (ne32 h), if_neg (show ¬ ¬ (44 : Int32) = 44 from fun z => z rfl), he, bs]
  rcases h01 with rfl | rfl
  · rw [if_pos rfl, gd_t (by decide), bs, gd_t okz0, if_pos rfl]
  · rw [if_neg n10, begin_K, bs, gd_t (by decide), bs, gd_t okz1, if_neg n10]
theorem oN_sub {x y : Nat} (h : y ≤ x) : oN x - oN y = oN (x - y) := by
  have e : oN x = oN (x - y) + oN y := by rw [oN_add, Nat.sub_add_cancel h]
  rw [e]
  exact Int32.add_sub_cancel _ _
/-- another sign behind a verb -/
theorem tk_else {a : KS} {t q x M : Nat} (h : isV t ∨ isN t) (hx : x ≤ 126) (q2 : q < 1000) (x44 : ¬ x = 44) (hM : M < 1000) (hm : ∀ a, f_X0_mostFor a (oN t) = some (oN M)) : f_X0_takes (rd a (oN t) (oN q)) (oN x) = if (48 ≤ x ∧ x ≤ 57) ∧ 1 ≤ 10 * q + (x - 48) ∧ 10 * q + (x - 48) ≤ M then some (1, rd a (oN t) (oN (10 * q + (x - 48)))) else some (0, rd a (oN t) (oN q)) := by
  have n44 : ¬ oN x = 44 := fun z => x44 (oN_inj (y := 44) (by omega) (by decide) z)
  have d0 : Khi (rd a (oN t) (oN q)) 18 0 = oN t := rfl
  have d1 : Khi (rd a (oN t) (oN q)) 18 1 = oN q := rfl
  unfold f_X0_takes f_X0_takesDigit
  rw [d0, if_pos (ne32 h), if_pos n44]
  by_cases g1 : x < 48
  · rw [if_pos (show oN x < 48 from (oN_lt (y := 48) (by omega) (by decide)).mpr g1), if_neg (by omega)]
  · rw [if_neg (show ¬ oN x < 48 from fun z => g1 ((oN_lt (y := 48) (by omega) (by decide)).mp z))]
    by_cases g2 : 57 < x
    · rw [if_pos (show (57 : Int32) < oN x from (oN_lt (x := 57) (by decide) (by omega)).mpr g2), if_neg (by omega)]
    · rw [if_neg (show ¬ (57 : Int32) < oN x from fun z => g2 ((oN_lt (x := 57) (by decide) (by omega)).mp z)), show oN x - 48 = oN (x - 48) from oN_sub (y := 48) (by omega), d1, show (10 : Int32) = oN 10 from rfl, oN_mul, oN_add, lt_e]
      by_cases g3 : 10 * q + (x - 48) < 1
      · rw [if_pos (show oN (10 * q + (x - 48)) < 1 from (oN_lt (y := 1) (by omega) (by decide)).mpr g3), bs, if_pos rfl, if_neg (by omega)]
      · rw [if_neg (show ¬ oN (10 * q + (x - 48)) < 1 from fun z => g3 ((oN_lt (y := 1) (by omega) (by decide)).mp z)), hm, bs]
        by_cases g4 : 10 * q + (x - 48) ≤ M
        · rw [if_pos (show oN (10 * q + (x - 48)) ≤ oN M from (oN_le (by omega) (by omega)).mpr g4), bs, if_neg n10, rd_1, if_pos ⟨⟨by omega, by omega⟩, by omega, g4⟩]
        · rw [if_neg (show ¬ oN (10 * q + (x - 48)) ≤ oN M from fun z => g4 ((oN_le (by omega) (by omega)).mp z)), bs, if_pos rfl, if_neg (fun z => g4 z.2.2)]
