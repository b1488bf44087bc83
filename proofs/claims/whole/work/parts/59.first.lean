/-! ===== texts: the first error ===== -/
def cpl (σ : Nat → Nat) (n : Nat) : Nat → Nat → Prop
  | 0, _ => False
  | f + 1, i => ∃ i' L q, okA σ n i i' L q ∧ (i' = n ∨ (i' < n ∧ σ i' = 44 ∧ cpl σ n f (i' + 1)))
theorem err_end {σ : Nat → Nat} {n g : Nat} {a : KS} {v m : Int32} (ha : TXa σ n a) : l_X1_errorIndex_9 (g + 1) (rd a v m) (oN n) = some (oN n, rd a v m) := by
  have e0 : l_X1_errorIndex_9 (g + 1) (rd a v m) (oN n) = f_X1_errorIndex_9 (l_X1_errorIndex_9 g) (rd a v m) (oN n) := rfl
  rw [e0]
  unfold f_X1_errorIndex_9
  rw [show Khi (rd a v m) 16 2 = Khi a 16 2 from rfl, ha.1, if_pos (Int32.le_refl _)]
theorem err_no {σ : Nat → Nat} {n g k : Nat} {a : KS} {v m : Int32} (hx : TX σ n) (ha : TXa σ n a) (hk : k < n) (ht : f_X0_takes (rd a v m) (oN (σ k)) = some (0, rd a v m)) : l_X1_errorIndex_9 (g + 1) (rd a v m) (oN k) = some (oN k, rd a v m) := by
  have hn := hx.1
  have e0 : l_X1_errorIndex_9 (g + 1) (rd a v m) (oN k) = f_X1_errorIndex_9 (l_X1_errorIndex_9 g) (rd a v m) (oN k) := rfl
  rw [e0]
  unfold f_X1_errorIndex_9
  rw [show Khi (rd a v m) 16 2 = Khi a 16 2 from rfl, ha.1, if_neg (show ¬ oN n ≤ oN k from fun z => by rw [oN_le (by omega) (by omega)] at z; omega), sign_K hx ha hk, bs, ht, bs, if_neg nn00]
theorem err_go {σ : Nat → Nat} {n g k : Nat} {a : KS} {v m v' m' : Int32} (hx : TX σ n) (ha : TXa σ n a) (hk : k < n) (ht : f_X0_takes (rd a v m) (oN (σ k)) = some (1, rd a v' m')) : l_X1_errorIndex_9 (g + 1) (rd a v m) (oN k) = l_X1_errorIndex_9 g (rd a v' m') (oN (k + 1)) := by
  have hn := hx.1
  have e0 : l_X1_errorIndex_9 (g + 1) (rd a v m) (oN k) = f_X1_errorIndex_9 (l_X1_errorIndex_9 g) (rd a v m) (oN k) := rfl
  rw [e0]
  unfold f_X1_errorIndex_9
  rw [show Khi (rd a v m) 16 2 = Khi a 16 2 from rfl, ha.1, if_neg (show ¬ oN n ≤ oN k from fun z => by rw [oN_le (by omega) (by omega)] at z; omega), sign_K hx ha hk, bs, ht, bs, if_pos n10, oN_succ]
theorem okA_end {σ : Nat → Nat} {n i i' L q : Nat} (h : okA σ n i i' L q) (a : KS) : f_X0_atEnd (rd a (oN L) (oN q)) = some 1 := by
  obtain ⟨-, -, h, -⟩ := h
  rcases h with ⟨h1, -⟩ | ⟨h1, h2, h3, -⟩
  · exact end_V h1
  · exact end_N h1 h2 (by have := mx_le L; omega)
theorem okA_v {σ : Nat → Nat} {n i i' L q : Nat} (h : okA σ n i i' L q) : isV L ∨ isN L := by
  obtain ⟨-, -, h, -⟩ := h
  rcases h with ⟨h1, -⟩ | ⟨h1, -⟩
  · exact Or.inl h1
  · exact Or.inr h1
theorem comp_l {σ : Nat → Nat} {n : Nat} (hx : TX σ n) : ∀ (fuel i : Nat) (a : KS) (b : MS) (le nu : Int32), TXa σ n a → TXb σ n b → i ≤ n → n - i < fuel → ∃ (e : Nat) (c le' nu' v m : Int32), e ≤ n ∧ l_X9_isComplete_5 fuel (md b (oN i) le nu) = some (c, md b (oN e) le' nu') ∧ (∀ g, n - i < g → l_X1_errorIndex_9 g (rd a 32 0) (oN i) = some (oN e, rd a v m)) ∧ ((c = 1 ∧ e = n ∧ (∀ a, f_X0_atEnd (rd a v m) = some 1) ∧ cpl σ n fuel i) ∨ (c = 0 ∧ (e = n → ∀ a, f_X0_atEnd (rd a v m) = some 0))) := by
  have hn := hx.1
  intro fuel
  induction fuel with
  | zero => intro i a b le nu _ _ _ h; omega
  | succ f ih =>
    intro i a b le nu ha hb hi hf
    have e0 : l_X9_isComplete_5 (f + 1) (md b (oN i) le nu) = f_X9_isComplete_5 (l_X9_isComplete_5 f) (md b (oN i) le nu) := rfl
    rw [e0]
    unfold f_X9_isComplete_5
    rcases act hx hi with ⟨i', hno⟩ | ⟨i', L, q, hok⟩
    · obtain ⟨w1, w2, w3, v, m, w4, w5, w6⟩ := hno
      obtain ⟨le', nu', r1⟩ := w3 b le nu hb
      refine ⟨i', 0, le', nu', v, m, w2, ?_, fun g hg => ?_, Or.inr ⟨rfl, fun _ => w6⟩⟩
      · rw [r1, bs, if_pos rfl]
      · obtain ⟨g', rfl⟩ : ∃ g', g = g' + 1 + (i' - i) := ⟨g - 1 - (i' - i), by omega⟩
        rw [pth_E hx (i' - i) i (g' + 1) 32 0 v m a ha w4, show i + (i' - i) = i' by omega]
        by_cases z : i' < n
        · exact err_no hx ha z (w5 z a)
        · obtain rfl : i' = n := by omega
          exact err_end ha
    · have hok' := hok
      obtain ⟨w1, w2, w3, w4, w5, w6⟩ := hok
      obtain ⟨N, r1, r2⟩ := w4 b le nu hb
      have hend := okA_end hok'
      rw [r1, bs, if_neg n10, show Mhi (md b (oN i') (oN L) N) 100 27 = Mhi b 100 27 from rfl, hb.1, md_g28]
      have start : ∀ g', l_X1_errorIndex_9 (g' + (i' - i)) (rd a 32 0) (oN i) = l_X1_errorIndex_9 g' (rd a (oN L) (oN q)) (oN i') := fun g' => by
        rw [pth_E hx (i' - i) i g' 32 0 (oN L) (oN q) a ha w5, show i + (i' - i) = i' by omega]
      by_cases z : i' = n
      · subst z
        rw [if_neg (show ¬ ¬ oN i' = oN i' from fun y => y rfl)]
        refine ⟨i', 1, oN L, N, oN L, oN q, Nat.le_refl _, rfl, fun g hg => ?_, Or.inl ⟨rfl, rfl, hend, i', L, q, hok', Or.inl rfl⟩⟩
        obtain ⟨g', rfl⟩ : ∃ g', g = g' + 1 + (i' - i) := ⟨g - 1 - (i' - i), by omega⟩
        rw [start, err_end ha]
      · have zl : i' < n := by omega
        rw [if_pos (show ¬ oN i' = oN n from fun y => z (oN_inj (by omega) (by omega) y)), sign_M hx hb (by omega), bs]
        by_cases c : σ i' = 44
        · have h44 : oN (σ i') = 44 := by rw [c]; rfl
          rw [if_pos h44, md_28, oN_succ]
          obtain ⟨e, c', le', nu', v, m, y1, y2, y3, y4⟩ := ih (i' + 1) a b (oN L) N ha hb (by omega) (by omega)
          refine ⟨e, c', le', nu', v, m, y1, y2, fun g hg => ?_, ?_⟩
          · obtain ⟨g', rfl⟩ : ∃ g', g = g' + 1 + (i' - i) := ⟨g - 1 - (i' - i), by omega⟩
            have tc : f_X0_takes (rd a (oN L) (oN q)) (oN (σ i')) = some (1, rd a 32 0) := by
              rw [h44, tk_comma (okA_v hok') (hend a) (Or.inr rfl), if_neg n10]
            rw [start, err_go hx ha zl tc]
            exact y3 g' (by omega)
          · rcases y4 with ⟨x1, x2, x3, x4⟩ | y4
            · exact Or.inl ⟨x1, x2, x3, i', L, q, hok', Or.inr ⟨zl, c, x4⟩⟩
            · exact Or.inr y4
        · have h44 : ¬ oN (σ i') = 44 := fun y => c (oN_inj (y := 44) (by have := (hx.2 i').1 zl; omega) (by decide) y)
          rw [if_neg h44]
          refine ⟨i', 0, oN L, N, oN L, oN q, w2, rfl, fun g hg => ?_, Or.inr ⟨rfl, fun y => absurd y z⟩⟩
          obtain ⟨g', rfl⟩ : ∃ g', g = g' + 1 + (i' - i) := ⟨g - 1 - (i' - i), by omega⟩
          rw [start]
          exact err_no hx ha zl (w6 zl c a)
theorem tx_of {a : KS} {b : MS} (h : RBs a b) : ∃ σ n, TX σ n ∧ TXa σ n a ∧ TXb σ n b := by
  obtain ⟨q, q1, q2, q3, q4⟩ := h
  refine ⟨fun k => if k < q then (Khi a 17 k).toNatClampNeg else 0, q, ⟨q1, fun k => ⟨fun hk => ?_, fun hk => ?_⟩⟩, ⟨q2, fun k hk => ?_⟩, ⟨q3, fun k hk => ?_⟩⟩
  · obtain ⟨-, x, x1, x2, x3⟩ := q4 k hk
    show 33 ≤ (if k < q then (Khi a 17 k).toNatClampNeg else 0) ∧ (if k < q then (Khi a 17 k).toNatClampNeg else 0) ≤ 126
    rw [if_pos hk, x3, ofNat_cl (by omega)]
    omega
  · show (if k < q then (Khi a 17 k).toNatClampNeg else 0) = 0
    rw [if_neg (by omega)]
  · obtain ⟨-, x, x1, x2, x3⟩ := q4 k hk
    show _ = oN (if k < q then (Khi a 17 k).toNatClampNeg else 0)
    rw [if_pos hk, x3, ofNat_cl (by omega)]
  · obtain ⟨x0, x, x1, x2, x3⟩ := q4 k hk
    show _ = oN (if k < q then (Khi a 17 k).toNatClampNeg else 0)
    rw [← x0, if_pos hk, x3, ofNat_cl (by omega)]
theorem begin_a (a : KS) : f_X0_begin a = some (rd a 32 0) := by
  have := begin_K (a := a) (v := Khi a 18 0) (m := Khi a 18 1)
  rw [rd_id] at this
  exact this
theorem at_b (b : MS) (x : Int32) : sMhi b 100 28 x = md b x (Mhi b 100 29) (Mhi b 100 30) := by
  have := md_28 (b := b) (x := Mhi b 100 28) (y := Mhi b 100 29) (z := Mhi b 100 30) (w := x)
  rw [md_id] at this
  exact this
theorem s_36 : S_36 Rel := by
  intro j a b v1 v2 v3 v4 hj h
  obtain ⟨σ, n, hx, ha, hb⟩ := tx_of h.2.2.2.2
  have hb' : TXb σ n (sMhi b 100 0 0) := hb
  have hn := hx.1
  obtain ⟨e, c, le, nu, v, m, y1, y2, y3, -⟩ := comp_l hx FU 0 a (sMhi b 100 0 0) (Mhi (sMhi b 100 0 0) 100 29) (Mhi (sMhi b 100 0 0) 100 30) ha hb' (Nat.zero_le _) (by rw [FU_e]; omega)
  have hr : Rel j (rd a v m) (md (sMhi b 100 0 0) (oN e) le nu) := h
  refine ⟨(oN e, rd a v m), (oN e, md (sMhi b 100 0 0) (oN e) le nu), ?_, ?_, rfl, hr.up⟩
  · unfold f_X8_firstError f_X1_errorIndex
    rw [begin_a, bs, show l_X1_errorIndex_9 FU (rd a 32 0) 0 = _ from y3 FU (by rw [FU_e]; omega), bs]
  · unfold f_X9_firstError f_X9_isComplete
    rw [at_b, show l_X9_isComplete_5 FU (md (sMhi b 100 0 0) 0 (Mhi (sMhi b 100 0 0) 100 29) (Mhi (sMhi b 100 0 0) 100 30)) = _ from y2, bs]
    rfl
