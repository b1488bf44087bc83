/-! ===== texts: one action ===== -/
theorem md_g28 {b : MS} {x y z : Int32} : Mhi (md b x y z) 100 28 = x := rfl
theorem md_g29 {b : MS} {x y z : Int32} : Mhi (md b x y z) 100 29 = y := rfl
theorem md_g30 {b : MS} {x y z : Int32} : Mhi (md b x y z) 100 30 = z := rfl
theorem in_N {b : MS} {x lo hi : Nat} (hx : x < 2147483648) (h1 : lo < 2147483648) (h2 : hi < 2147483648) : f_X9_in b (oN x) (oN lo) (oN hi) = some (if lo ≤ x ∧ x ≤ hi then 1 else 0) := by
  by_cases g : lo ≤ x ∧ x ≤ hi
  · rw [if_pos g]
    exact in_t (fun z => by rw [oN_lt hx h1] at z; omega) (fun z => by rw [oN_lt h2 hx] at z; omega)
  · rw [if_neg g]
    refine in_f ?_
    rw [oN_lt hx h1, oN_lt h2 hx]
    omega
theorem num_M {σ : Nat → Nat} {n k M : Nat} {b : MS} {y z : Int32} (hx : TX σ n) (h : TXb σ n b) (hk : k ≤ n + 1) (hM : M < 1000) : f_X9_readsNumber (md b (oN k) y z) (oN M) = if 49 ≤ σ k ∧ σ k ≤ 57 then (if (48 ≤ σ (k + 1) ∧ σ (k + 1) ≤ 57) ∧ 10 * (σ k - 48) + (σ (k + 1) - 48) ≤ M then some (1, md b (oN (k + 2)) y (oN (10 * (σ k - 48) + (σ (k + 1) - 48)))) else some (1, md b (oN (k + 1)) y (oN (σ k - 48)))) else some (0, md b (oN k) y z) := by
  have hn := hx.1
  have hs : ∀ m, σ m ≤ 126 := fun m => by
    by_cases g : m < n
    · exact ((hx.2 m).1 g).2
    · have := (hx.2 m).2 (by omega); omega
  have s1 := hs k
  have s2 := hs (k + 1)
  unfold f_X9_readsNumber
  simp only [md_28, md_30, md_g28, md_g30, oN_succ]
  rw [sign_M hx h (by omega), bs, show (49 : Int32) = oN 49 from rfl, show (57 : Int32) = oN 57 from rfl, in_N (by omega) (by decide) (by decide), bs]
  by_cases g : 49 ≤ σ k ∧ σ k ≤ 57
  · have e48 : oN (σ k) - 48 = oN (σ k - 48) := oN_sub (y := 48) (by omega)
    rw [if_pos g, if_pos g, if_pos n10, bs, e48, sign_M hx h (by omega), bs, show (48 : Int32) = oN 48 from rfl, in_N (by omega) (by decide) (by decide), bs]
    by_cases g2 : 48 ≤ σ (k + 1) ∧ σ (k + 1) ≤ 57
    · have e2 : (10 : Int32) * oN (σ k - 48) + oN (σ (k + 1)) - oN 48 = oN (10 * (σ k - 48) + (σ (k + 1) - 48)) := by
        rw [show (10 : Int32) = oN 10 from rfl, oN_mul, oN_add, oN_sub (by omega)]
        congr 1
        omega
      rw [if_pos g2, if_neg n10, bs, bs, e2]
      by_cases g3 : 10 * (σ k - 48) + (σ (k + 1) - 48) ≤ M
      · rw [if_neg (show ¬ oN M < oN (10 * (σ k - 48) + (σ (k + 1) - 48)) from fun y => by rw [oN_lt (by omega) (by omega)] at y; omega), if_pos ⟨g2, g3⟩]
      · rw [if_pos (show oN M < oN (10 * (σ k - 48) + (σ (k + 1) - 48)) from (oN_lt (by omega) (by omega)).mpr (by omega)), if_neg (fun y => g3 y.2)]
    · rw [if_neg g2, if_pos rfl, if_neg (fun y => g2 y.1)]
  · rw [if_neg g, if_neg g, if_neg nn00]
theorem act_V {σ : Nat → Nat} {n i : Nat} {b : MS} {le nu : Int32} (hx : TX σ n) (h : TXb σ n b) (hi : i ≤ n) (ht : isV (σ i)) : f_X9_readsAction (md b (oN i) le nu) = some (1, md b (oN (i + 1)) (oN (σ i)) nu) := by
  unfold f_X9_readsAction f_X9_readsAction_26 f_X9_readsAction_31 f_X9_readsAction_59 f_X9_readsAction_64 f_X9_readsAction_78 f_X9_readsAction_83
  rw [sign_M hx h (by omega), bs]
  simp only [md_28, md_29, md_g28, md_g29, oN_succ]
  rcases ht with e | e <;> rw [e] <;> rfl
theorem act_O {σ : Nat → Nat} {n i : Nat} {b : MS} {le nu : Int32} (hx : TX σ n) (h : TXb σ n b) (hi : i ≤ n + 1) (h1 : ¬ isV (σ i)) (h2 : ¬ isN (σ i)) : f_X9_readsAction (md b (oN i) le nu) = some (0, md b (oN i) (oN (σ i)) nu) := by
  have ht : σ i ≤ 126 := by
    by_cases g : i < n
    · exact ((hx.2 i).1 g).2
    · have := (hx.2 i).2 (by omega); omega
  have ne : ∀ u : Nat, u < 200 → ¬ σ i = u → ¬ oN (σ i) = oN u := fun u hu h z => h (oN_inj (by omega) (by omega) z)
  have m1 : ¬ oN (σ i) = 112 := ne 112 (by decide) (fun z => h1 (Or.inl z))
  have m2 : ¬ oN (σ i) = 104 := ne 104 (by decide) (fun z => h1 (Or.inr z))
  have m3 : ¬ oN (σ i) = 114 := ne 114 (by decide) (fun z => h2 (Or.inl z))
  have m4 : ¬ oN (σ i) = 108 := ne 108 (by decide) (fun z => h2 (Or.inr (Or.inl z)))
  have m5 : ¬ oN (σ i) = 116 := ne 116 (by decide) (fun z => h2 (Or.inr (Or.inr z)))
  unfold f_X9_readsAction f_X9_readsAction_26 f_X9_readsAction_31 f_X9_readsAction_59 f_X9_readsAction_64 f_X9_readsAction_78 f_X9_readsAction_83
  rw [sign_M hx h (by omega), bs]
  simp only [md_28, md_29, md_g28, md_g29]
  rw [if_neg m1, if_pos m2, if_neg m3, if_neg m4, if_pos m5]
  simp only [not_true_eq_false, if_false, if_true, Int32.add_zero]
theorem act_N {σ : Nat → Nat} {n i : Nat} {b : MS} {le nu : Int32} (hx : TX σ n) (h : TXb σ n b) (hi : i ≤ n) (ht : isN (σ i)) : f_X9_readsAction (md b (oN i) le nu) = f_X9_readsAction_112 (md b (oN (i + 1)) (oN (σ i)) nu) (oN (mx (σ i))) := by
  unfold f_X9_readsAction f_X9_readsAction_26 f_X9_readsAction_31 f_X9_readsAction_59 f_X9_readsAction_64 f_X9_readsAction_78 f_X9_readsAction_83
  rw [sign_M hx h (by omega), bs]
  simp only [md_28, md_29, md_g28, md_g29, oN_succ]
  rcases ht with e | e | e <;> rw [e] <;> rfl
/-- the class takes l signs from place k on -/
def pth (σ : Nat → Nat) (n : Nat) : Nat → Nat → Int32 → Int32 → Int32 → Int32 → Prop
  | 0, _, v, m, v', m' => v = v' ∧ m = m'
  | l + 1, k, v, m, v', m' => k < n ∧ ¬ σ k = 44 ∧ ∃ v1 m1, (∀ a, f_X0_takes (rd a v m) (oN (σ k)) = some (1, rd a v1 m1)) ∧ pth σ n l (k + 1) v1 m1 v' m'
theorem pth_E {σ : Nat → Nat} {n : Nat} (hx : TX σ n) : ∀ (l k fuel : Nat) (v m v' m' : Int32) (a : KS), TXa σ n a → pth σ n l k v m v' m' → l_X1_errorIndex_9 (fuel + l) (rd a v m) (oN k) = l_X1_errorIndex_9 fuel (rd a v' m') (oN (k + l)) := by
  have hn := hx.1
  intro l
  induction l with
  | zero =>
    intro k fuel v m v' m' a _ h
    obtain ⟨rfl, rfl⟩ := h
    rfl
  | succ l ih =>
    intro k fuel v m v' m' a ha h
    obtain ⟨h1, h2, v1, m1, h3, h4⟩ := h
    have e0 : l_X1_errorIndex_9 (fuel + (l + 1)) (rd a v m) (oN k) = f_X1_errorIndex_9 (l_X1_errorIndex_9 (fuel + l)) (rd a v m) (oN k) := rfl
    rw [e0]
    unfold f_X1_errorIndex_9
    rw [show Khi (rd a v m) 16 2 = Khi a 16 2 from rfl, ha.1, if_neg (show ¬ oN n ≤ oN k from fun z => by rw [oN_le (by omega) (by omega)] at z; omega), sign_K hx ha h1, bs, h3, bs, if_pos n10, oN_succ, ih (k + 1) fuel v1 m1 v' m' a ha h4, show k + 1 + l = k + (l + 1) by omega]
theorem sKhi_tw {a : KS} {p i : Nat} {x y : Int32} : sKhi (sKhi a p i x) p i y = sKhi a p i y := by
  have e : (sKhi (sKhi a p i x) p i y).1 = (sKhi a p i y).1 := by
    funext q k
    show (if q = p ∧ k = i then y else if q = p ∧ k = i then x else a.1 q k) = (if q = p ∧ k = i then y else a.1 q k)
    by_cases g : q = p ∧ k = i
    · rw [if_pos g, if_pos g]
    · rw [if_neg g, if_neg g, if_neg g]
  exact Prod.ext e rfl
theorem pth_R {σ : Nat → Nat} {n : Nat} (hx : TX σ n) : ∀ (l k fuel : Nat) (v m v' m' : Int32) (a : KS), TXa σ n a → pth σ n l k v m v' m' → l_X1_readAction_20 (fuel + l) (rd (sKhi a 16 3 (oN k)) v m) = l_X1_readAction_20 fuel (rd (sKhi a 16 3 (oN (k + l))) v' m') := by
  have hn := hx.1
  intro l
  induction l with
  | zero =>
    intro k fuel v m v' m' a _ h
    obtain ⟨rfl, rfl⟩ := h
    rfl
  | succ l ih =>
    intro k fuel v m v' m' a ha h
    obtain ⟨h1, h2, v1, m1, h3, h4⟩ := h
    have ha' : TXa σ n (sKhi a 16 3 (oN k)) := ha
    have n44 : ¬ oN (σ k) = 44 := fun z => h2 (oN_inj (y := 44) (by have := (hx.2 k).1 h1; omega) (by decide) z)
    have e0 : l_X1_readAction_20 (fuel + (l + 1)) (rd (sKhi a 16 3 (oN k)) v m) = f_X1_readAction_20 (l_X1_readAction_20 (fuel + l)) (rd (sKhi a 16 3 (oN k)) v m) := rfl
    rw [e0]
    unfold f_X1_readAction_20
    rw [show Khi (rd (sKhi a 16 3 (oN k)) v m) 16 2 = Khi a 16 2 from rfl, show Khi (rd (sKhi a 16 3 (oN k)) v m) 16 3 = oN k from rfl, ha.1, if_neg (show ¬ oN n ≤ oN k from fun z => by rw [oN_le (by omega) (by omega)] at z; omega), sign_K hx ha' h1, bs, if_neg n44, bs, h3, bs]
    rw [show Khi (rd (sKhi a 16 3 (oN k)) v1 m1) 16 3 = oN k from rfl, oN_succ]
    show l_X1_readAction_20 (fuel + l) (sKhi (rd (sKhi a 16 3 (oN k)) v1 m1) 16 3 (oN (k + 1))) = _
    rw [rd_16, sKhi_tw, ih (k + 1) fuel v1 m1 v' m' a ha h4, show k + 1 + l = k + (l + 1) by omega]
def okA (σ : Nat → Nat) (n i i' L q : Nat) : Prop := i < i' ∧ i' ≤ n ∧ ((isV L ∧ q = 0) ∨ (isN L ∧ 1 ≤ q ∧ q ≤ mx L ∧ q ≤ 25 * (i' + 1 - i))) ∧ (∀ b le nu, TXb σ n b → ∃ N, f_X9_readsAction (md b (oN i) le nu) = some (1, md b (oN i') (oN L) N) ∧ (isN L → N = oN q)) ∧ pth σ n (i' - i) i 32 0 (oN L) (oN q) ∧ (i' < n → ¬ σ i' = 44 → ∀ a, f_X0_takes (rd a (oN L) (oN q)) (oN (σ i')) = some (0, rd a (oN L) (oN q)))
def noA (σ : Nat → Nat) (n i i' : Nat) : Prop := i ≤ i' ∧ i' ≤ n ∧ (∀ b le nu, TXb σ n b → ∃ le' nu', f_X9_readsAction (md b (oN i) le nu) = some (0, md b (oN i') le' nu')) ∧ ∃ v m, pth σ n (i' - i) i 32 0 v m ∧ (i' < n → ∀ a, f_X0_takes (rd a v m) (oN (σ i')) = some (0, rd a v m)) ∧ ∀ a, f_X0_atEnd (rd a v m) = some 0
theorem act {σ : Nat → Nat} {n i : Nat} (hx : TX σ n) (hi : i ≤ n) : (∃ i', noA σ n i i') ∨ ∃ i' L q, okA σ n i i' L q := by
  have hn := hx.1
  have hs : ∀ m, σ m ≤ 126 := fun m => by
    by_cases g : m < n
    · exact ((hx.2 m).1 g).2
    · have := (hx.2 m).2 (by omega); omega
  have pos : ∀ m, ¬ σ m = 0 → m < n := fun m hm => Decidable.byContradiction fun g => hm ((hx.2 m).2 (by omega))
  have mxl := mx_le (σ i)
  by_cases hv : isV (σ i)
  · have ilt : i < n := pos i (by rcases hv with z | z <;> omega)
    have tv : ∀ a, f_X0_takes (rd a 32 0) (oN (σ i)) = some (1, rd a (oN (σ i)) 0) := fun a => by
      rw [tk_verb (hs i), if_pos]
      rcases hv with z | z
      · exact Or.inl z
      · exact Or.inr (Or.inl z)
    refine Or.inr ⟨i + 1, σ i, 0, by omega, by omega, Or.inl ⟨hv, rfl⟩, fun b le nu hb => ⟨nu, act_V hx hb hi hv, fun hN => ?_⟩, ?_, fun g g44 a => ?_⟩
    · exfalso
      rcases hv with z | z <;> rcases hN with y | y | y <;> omega
    · rw [show i + 1 - i = 0 + 1 by omega]
      exact ⟨ilt, by rcases hv with z | z <;> omega, _, _, tv, rfl, rfl⟩
    · rw [tk_else (M := 0) (Or.inl hv) (hs _) (by decide) g44 (by decide) (fun a => most_V hv), if_neg (by omega)]
  · by_cases hN : isN (σ i)
    · have ilt : i < n := pos i (by rcases hN with z | z | z <;> omega)
      have i44 : ¬ σ i = 44 := by rcases hN with z | z | z <;> omega
      have tv : ∀ a, f_X0_takes (rd a 32 0) (oN (σ i)) = some (1, rd a (oN (σ i)) 0) := fun a => by
        rw [tk_verb (hs i), if_pos]
        rcases hN with z | z | z
        · exact Or.inr (Or.inr (Or.inl z))
        · exact Or.inr (Or.inr (Or.inr (Or.inl z)))
        · exact Or.inr (Or.inr (Or.inr (Or.inr z)))
      have te : ∀ (a : KS) (q x : Nat), x ≤ 126 → q < 1000 → ¬ x = 44 → _ := fun a q x h1 h2 h3 => tk_else (a := a) (q := q) (x := x) (M := mx (σ i)) (Or.inr hN) h1 h2 h3 (by omega) (fun a => most_N hN)
      by_cases hd : 49 ≤ σ (i + 1) ∧ σ (i + 1) ≤ 57
      · have klt : i + 1 < n := pos (i + 1) (by omega)
        have t2 : ∀ a, f_X0_takes (rd a (oN (σ i)) 0) (oN (σ (i + 1))) = some (1, rd a (oN (σ i)) (oN (σ (i + 1) - 48))) := fun a => by
          show f_X0_takes (rd a (oN (σ i)) (oN 0)) (oN (σ (i + 1))) = _
          rw [te a 0 _ (hs _) (by decide) (by omega), if_pos ⟨by omega, by omega, by omega⟩, Nat.mul_zero, Nat.zero_add]
        by_cases h2 : (48 ≤ σ (i + 2) ∧ σ (i + 2) ≤ 57) ∧ 10 * (σ (i + 1) - 48) + (σ (i + 2) - 48) ≤ mx (σ i)
        · have mlt : i + 2 < n := pos (i + 2) (by omega)
          have t3 : ∀ a, f_X0_takes (rd a (oN (σ i)) (oN (σ (i + 1) - 48))) (oN (σ (i + 2))) = some (1, rd a (oN (σ i)) (oN (10 * (σ (i + 1) - 48) + (σ (i + 2) - 48)))) := fun a => by
            rw [te a _ _ (hs _) (by omega) (by omega), if_pos ⟨h2.1, by omega, h2.2⟩]
          refine Or.inr ⟨i + 3, σ i, 10 * (σ (i + 1) - 48) + (σ (i + 2) - 48), by omega, by omega, Or.inr ⟨hN, by omega, h2.2, by omega⟩, fun b le nu hb => ⟨oN (10 * (σ (i + 1) - 48) + (σ (i + 2) - 48)), ?_, fun _ => rfl⟩, ?_, fun g g44 a => ?_⟩
          · rw [act_N hx hb hi hN]
            unfold f_X9_readsAction_112
            rw [num_M hx hb (by omega) (by omega), if_pos hd, if_pos h2, bs, if_neg n10]
          · rw [show i + 3 - i = 0 + 1 + 1 + 1 by omega]
            exact ⟨ilt, i44, _, _, tv, klt, by omega, _, _, t2, mlt, show ¬ σ (i + 2) = 44 by omega, _, _, t3, rfl, rfl⟩
          · rw [te a _ _ (hs _) (by omega) g44, if_neg (by omega)]
        · refine Or.inr ⟨i + 2, σ i, σ (i + 1) - 48, by omega, by omega, Or.inr ⟨hN, by omega, by omega, by omega⟩, fun b le nu hb => ⟨oN (σ (i + 1) - 48), ?_, fun _ => rfl⟩, ?_, fun g g44 a => ?_⟩
          · rw [act_N hx hb hi hN]
            unfold f_X9_readsAction_112
            rw [num_M hx hb (by omega) (by omega), if_pos hd, if_neg h2, bs, if_neg n10]
          · rw [show i + 2 - i = 0 + 1 + 1 by omega]
            exact ⟨ilt, i44, _, _, tv, klt, by omega, _, _, t2, rfl, rfl⟩
          · rw [te a _ _ (hs _) (by omega) g44, if_neg (by omega)]
      · refine Or.inl ⟨i + 1, by omega, by omega, fun b le nu hb => ⟨oN (σ i), nu, ?_⟩, oN (σ i), 0, ?_, fun g a => ?_, fun a => end_0 hN⟩
        · rw [act_N hx hb hi hN]
          unfold f_X9_readsAction_112
          rw [num_M hx hb (by omega) (by omega), if_neg hd, bs, if_pos rfl]
        · rw [show i + 1 - i = 0 + 1 by omega]
          exact ⟨ilt, i44, _, _, tv, rfl, rfl⟩
        · by_cases g44 : σ (i + 1) = 44
          · rw [g44]
            show f_X0_takes (rd a (oN (σ i)) (oN 0)) 44 = _
            rw [tk_comma (Or.inr hN) (e := 0) (end_0 hN) (Or.inl rfl), if_pos rfl]
            rfl
          · show f_X0_takes (rd a (oN (σ i)) (oN 0)) (oN (σ (i + 1))) = _
            rw [te a 0 _ (hs _) (by decide) g44, if_neg (by omega)]
            rfl
    · refine Or.inl ⟨i, Nat.le_refl _, hi, fun b le nu hb => ⟨oN (σ i), nu, act_O hx hb (by omega) hv hN⟩, 32, 0, ?_, fun g a => ?_, fun a => end_32⟩
      · rw [Nat.sub_self]; exact ⟨rfl, rfl⟩
      · rw [tk_verb (hs i), if_neg]
        rintro (z | z | z | z | z)
        · exact hv (Or.inl z)
        · exact hv (Or.inr z)
        · exact hN (Or.inl z)
        · exact hN (Or.inr (Or.inl z))
        · exact hN (Or.inr (Or.inr z))
