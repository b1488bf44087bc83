/-! ===== running a text ===== -/
theorem frm_ex (a : KS) (b : MS) : ∃ F, FRM F a b := by
  refine ⟨fun k => if k = 0 then Khi a 16 3 else if k = 1 then Mhi b 100 28 else if k = 2 then Khi a 16 2 else if k = 3 then Mhi b 100 27 else if k % 2 = 0 then Khi a 17 ((k - 4) / 2) else Mhi b 126 ((k - 5) / 2), rfl, rfl, rfl, rfl, fun k => ⟨?_, ?_⟩⟩
  · show Khi a 17 k = if 2 * k + 4 = 0 then Khi a 16 3 else if 2 * k + 4 = 1 then Mhi b 100 28 else if 2 * k + 4 = 2 then Khi a 16 2 else if 2 * k + 4 = 3 then Mhi b 100 27 else if (2 * k + 4) % 2 = 0 then Khi a 17 ((2 * k + 4 - 4) / 2) else Mhi b 126 ((2 * k + 4 - 5) / 2)
    rw [if_neg (by omega), if_neg (by omega), if_neg (by omega), if_neg (by omega), if_pos (by omega), show (2 * k + 4 - 4) / 2 = k by omega]
  · show Mhi b 126 k = if 2 * k + 5 = 0 then Khi a 16 3 else if 2 * k + 5 = 1 then Mhi b 100 28 else if 2 * k + 5 = 2 then Khi a 16 2 else if 2 * k + 5 = 3 then Mhi b 100 27 else if (2 * k + 5) % 2 = 0 then Khi a 17 ((2 * k + 5 - 4) / 2) else Mhi b 126 ((2 * k + 5 - 5) / 2)
    rw [if_neg (by omega), if_neg (by omega), if_neg (by omega), if_neg (by omega), if_neg (by omega), show (2 * k + 5 - 5) / 2 = k by omega]
theorem upF {F : Nat → Int32} {a : KS} {b : MS} (h : RelF F 0 a b) (j : Nat) : RelF F j a b ∧ Khi a 10 10 = oN 0 := by
  obtain ⟨h1, ⟨d1, d2, d3, d4, ⟨q, q1, q2, q3⟩, d6⟩, h3⟩ := h
  obtain rfl : q = 0 := by omega
  exact ⟨⟨h1, ⟨d1, d2, d3, d4, ⟨0, by omega, q2, q3⟩, d6⟩, h3⟩, q2⟩
theorem neg_i {q : Nat} (hq : q ≤ 50) : (-(oN q)).toInt = -(q : Int) := by
  rw [← Int32.zero_sub, Int32.toInt_sub, ofNat_i32 (by omega), show (0 : Int32).toInt = 0 by decide, Int.bmod_eq_of_le (by omega) (by omega)]
  omega
theorem perf {F : Nat → Int32} {j B L q : Nat} {a : KS} {b : MS} (h : RelF F j a b) (hI : ∃ q, q ≤ B ∧ Khi a 10 10 = oN q) (hv : (isV L ∧ q = 0) ∨ (isN L ∧ 1 ≤ q ∧ q ≤ mx L)) (hL : Mhi b 100 29 = oN L) (hN : isN L → Mhi b 100 30 = oN q) (hB : B + q ≤ 2000 * j) : ∃ (r : Int32) (a' : KS) (b' : MS), f_X2_perform a (oN L) (oN q) = some (r, a') ∧ f_X9_does b = some (r, b') ∧ Mhi b' 100 0 = Mhi b 100 0 ∧ RelF F j a' b' ∧ ∃ q', q' ≤ B + q ∧ Khi a' 10 10 = oN q' := by
  unfold f_X2_perform f_X2_perform_53 f_X9_does f_X9_does_85
  rw [hL, lt_e]
  rcases hv with ⟨rfl | rfl, -⟩ | ⟨rfl | rfl | rfl, q1, q2⟩
  · obtain ⟨r, a', b', r1, r2, r3, r4⟩ := presses_eqF 0 h
    obtain ⟨u1, u2⟩ := upF r4 j
    refine ⟨r, a', b', ?_, ?_, r3, u1, 0, by omega, u2⟩
    · rw [if_neg (show ¬ ¬ oN 112 = 112 from fun z => z rfl), r1]; rfl
    · rw [if_neg (show ¬ oN 112 = 104 by decide), if_pos (show oN 112 = 112 from rfl), r2]; rfl
  · obtain ⟨r, a', b', r1, r2, r3, r4⟩ := held_eqF 0 h
    obtain ⟨u1, u2⟩ := upF r4 j
    refine ⟨0, a', b', ?_, ?_, r3, u1, 0, by omega, u2⟩
    · rw [if_pos (show ¬ oN 104 = 112 by decide), if_neg (show ¬ ¬ oN 104 = 104 from fun z => z rfl), r1]; rfl
    · rw [if_pos (show oN 104 = 104 from rfl), r2]; rfl
  · have q2 : q ≤ 50 := q2
    have eq : (oN q).toInt = (q : Int) := ofNat_i32 (by omega)
    obtain ⟨r, a', b', r1, r2, r3, r4⟩ := turns_eqF 0 h (v := oN q) (by omega) (by omega)
    obtain ⟨u1, u2⟩ := upF r4 j
    refine ⟨0, a', b', ?_, ?_, r3, u1, 0, by omega, u2⟩
    · rw [if_pos (show ¬ oN 114 = 112 by decide), if_pos (show ¬ oN 114 = 104 by decide), if_pos (show ¬ oN 114 = 116 by decide), if_pos (show ¬ oN 114 = 108 by decide), r1]; rfl
    · rw [if_neg (show ¬ oN 114 = 104 by decide), if_neg (show ¬ oN 114 = 112 by decide), if_neg (show ¬ oN 114 = 116 by decide), if_neg (show ¬ ¬ oN 114 = 114 from fun z => z rfl), hN (Or.inl rfl), r2]; rfl
  · have q2 : q ≤ 50 := q2
    have eq : (-(oN q)).toInt = -(q : Int) := neg_i q2
    obtain ⟨r, a', b', r1, r2, r3, r4⟩ := turns_eqF 0 h (v := -(oN q)) (by omega) (by omega)
    obtain ⟨u1, u2⟩ := upF r4 j
    refine ⟨0, a', b', ?_, ?_, r3, u1, 0, by omega, u2⟩
    · rw [if_pos (show ¬ oN 108 = 112 by decide), if_pos (show ¬ oN 108 = 104 by decide), if_pos (show ¬ oN 108 = 116 by decide), if_neg (show ¬ ¬ oN 108 = 108 from fun z => z rfl), r1]; rfl
    · rw [if_neg (show ¬ oN 108 = 104 by decide), if_neg (show ¬ oN 108 = 112 by decide), if_neg (show ¬ oN 108 = 116 by decide), if_pos (show ¬ oN 108 = 114 by decide), hN (Or.inr (Or.inl rfl)), r2]; rfl
  · have q2 : q ≤ 99 := q2
    obtain ⟨r, a', b', r1, r2, r3, r4, r5⟩ := passes_eqF (n := q) q2 hB h hI
    refine ⟨0, a', b', ?_, ?_, r3, r4, r5⟩
    · rw [if_pos (show ¬ oN 116 = 112 by decide), if_pos (show ¬ oN 116 = 104 by decide), if_neg (show ¬ ¬ oN 116 = 116 from fun z => z rfl), r1]; rfl
    · rw [if_neg (show ¬ oN 116 = 104 by decide), if_neg (show ¬ oN 116 = 112 by decide), if_pos (show oN 116 = 116 from rfl), hN (Or.inr (Or.inr rfl)), r2]; rfl
theorem Khi_id {a : KS} {p i : Nat} {x : Int32} (h : Khi a p i = x) : sKhi a p i x = a := by
  have e : (sKhi a p i x).1 = a.1 := by
    funext q k
    show (if q = p ∧ k = i then x else a.1 q k) = _
    by_cases g : q = p ∧ k = i
    · rw [if_pos g, g.1, g.2]; exact h.symm
    · rw [if_neg g]
  exact Prod.ext e rfl
/-- the class reads an action -/
theorem read_K {σ : Nat → Nat} {n i i' L q : Nat} {a : KS} (hx : TX σ n) (ha : TXa σ n a) (hi : i < n) (hn : Khi a 16 3 = oN i) (h : okA σ n i i' L q) (he : i' = n ∨ (i' < n ∧ σ i' = 44)) : f_X1_readAction a = some (1, rd (sKhi a 16 3 (oN (i' + 1))) (oN L) (oN q)) := by
  have n60 := hx.1
  obtain ⟨w1, w2, w3, w4, w5, w6⟩ := h
  have hp := pth_R hx (i' - i) i (1000 - (i' - i)) 32 0 (oN L) (oN q) a ha w5
  rw [Khi_id hn, show 1000 - (i' - i) + (i' - i) = 1000 by omega, show i + (i' - i) = i' by omega] at hp
  unfold f_X1_readAction
  rw [hn, ha.1, if_pos ((oN_lt (by omega) (by omega)).mpr hi), begin_a, bs, FU_e, hp]
  obtain ⟨g, hg⟩ : ∃ g, 1000 - (i' - i) = g + 1 := ⟨1000 - (i' - i) - 1, by omega⟩
  rw [hg]
  have e0 : l_X1_readAction_20 (g + 1) (rd (sKhi a 16 3 (oN i')) (oN L) (oN q)) = f_X1_readAction_20 (l_X1_readAction_20 g) (rd (sKhi a 16 3 (oN i')) (oN L) (oN q)) := rfl
  have ha' : TXa σ n (sKhi a 16 3 (oN i')) := ha
  have e73 : f_X1_readAction_73 (rd (sKhi a 16 3 (oN i')) (oN L) (oN q)) = some (1, rd (sKhi a 16 3 (oN (i' + 1))) (oN L) (oN q)) := by
    unfold f_X1_readAction_73
    rw [show Khi (rd (sKhi a 16 3 (oN i')) (oN L) (oN q)) 16 3 = oN i' from rfl, oN_succ, rd_16, sKhi_tw]
  rw [e0]
  unfold f_X1_readAction_20
  rw [show Khi (rd (sKhi a 16 3 (oN i')) (oN L) (oN q)) 16 3 = oN i' from rfl, show Khi (rd (sKhi a 16 3 (oN i')) (oN L) (oN q)) 16 2 = Khi a 16 2 from rfl, ha.1, e73]
  rcases he with rfl | ⟨z1, z2⟩
  · rw [if_pos (Int32.le_refl _)]
  · rw [if_neg (show ¬ oN n ≤ oN i' from fun y => by rw [oN_le (by omega) (by omega)] at y; omega), sign_K hx ha' z1, bs, z2, if_pos (show oN 44 = 44 from rfl)]
theorem tx_end {j : Nat} {a : KS} {b : MS} {x y z : Int32} (h : Rel j a b) : Rel j (sKhi a 16 2 0) (sMhi (md b x y z) 100 27 0) := by
  obtain ⟨h1, h2, h3, h4, -⟩ := h
  exact ⟨h1, h2, h3, h4, 0, by decide, rfl, rfl, fun k hk => by omega⟩
theorem run_l {σ : Nat → Nat} {n j : Nat} (hx : TX σ n) : ∀ (f i g1 g2 w : Nat) (a : KS) (b : MS) (v1 : Int32), cpl σ n f i → TXa σ n a → TXb σ n b → Khi a 16 3 = oN i → Mhi b 100 28 = oN i → Rel (j + 1) a b → (∃ q, q ≤ 2000 * j + 25 * i ∧ Khi a 10 10 = oN q) → w ≤ i → n - i < g1 → n - i < g2 → ∃ (r : Int32) (a' : KS) (b' : MS), l_X8_run_32 g1 a v1 (oN w) = some (0, r, a') ∧ l_X9_run_28 g2 b v1 = some (r, b') ∧ Rel (j + 1) a' b' ∧ Mhi b' 100 0 = Mhi b 100 0 := by
  have hn := hx.1
  intro f
  induction f with
  | zero => intro i g1 g2 w a b v1 h; exact absurd h id
  | succ f ih =>
    intro i g1 g2 w a b v1 hc ha hb hk hm hr hI hw hg1 hg2
    obtain ⟨i', L, q, hok, he⟩ := hc
    have hok' := hok
    obtain ⟨w1, w2, w3, w4, w5, w6⟩ := hok
    obtain ⟨G1, rfl⟩ : ∃ G1, g1 = G1 + 1 := ⟨g1 - 1, by omega⟩
    obtain ⟨G2, rfl⟩ : ∃ G2, g2 = G2 + 1 := ⟨g2 - 1, by omega⟩
    have hL : L ≤ 126 := by
      rcases okA_v hok' with (rfl | rfl) | (rfl | rfl | rfl) <;> decide
    have he2 : i' = n ∨ (i' < n ∧ σ i' = 44) := by
      rcases he with z | ⟨z1, z2, -⟩
      · exact Or.inl z
      · exact Or.inr ⟨z1, z2⟩
    have hqq : q ≤ 25 * (i' + 1 - i) ∧ q ≤ 99 := by
      rcases w3 with ⟨-, z⟩ | ⟨-, -, z2, z3⟩
      · omega
      · have := mx_le L; omega
    obtain ⟨N, m1, m2⟩ := w4 b (Mhi b 100 29) (Mhi b 100 30) hb
    rw [← hm, md_id] at m1
    obtain ⟨a2, ha2⟩ : ∃ a2, a2 = rd (sKhi a 16 3 (oN (i' + 1))) (oN L) (oN q) := ⟨_, rfl⟩
    obtain ⟨b2, hb2⟩ : ∃ b2, b2 = md b (oN i') (oN L) N := ⟨_, rfl⟩
    have rK := read_K hx ha (by omega) hk hok' he2
    rw [← ha2] at rK
    rw [← hb2] at m1
    have hr2 : Rel (j + 1) a2 b2 := by rw [ha2, hb2]; exact hr
    obtain ⟨F, hF⟩ := frm_ex a2 b2
    have hrF : RelF F (j + 1) a2 b2 := ⟨hr2.1, hr2.2.1, hr2.2.2.1, hr2.2.2.2.1, hr2.2.2.2.2, hF⟩
    have hI2 : ∃ q, q ≤ 2000 * j + 25 * i ∧ Khi a2 10 10 = oN q := by rw [ha2]; exact hI
    have x29 : Mhi b2 100 29 = oN L := by rw [hb2]; rfl
    have x30 : isN L → Mhi b2 100 30 = oN q := fun z => by rw [hb2]; exact m2 z
    have hvv : (isV L ∧ q = 0) ∨ (isN L ∧ 1 ≤ q ∧ q ≤ mx L) := by
      rcases w3 with z | ⟨z1, z2, z3, -⟩
      · exact Or.inl z
      · exact Or.inr ⟨z1, z2, z3⟩
    obtain ⟨r, a3, b3, p1, p2, p3, p4, q', p5, p6⟩ := perf hrF hI2 hvv x29 x30 (by omega)
    obtain ⟨y1, y2, y3, y4, y5, F0, F1, F2, F3, F4⟩ := p4
    obtain ⟨E0, E1, E2, E3, E4⟩ := hF
    have k3 : Khi a3 16 3 = oN (i' + 1) := by rw [F0, ← E0, ha2]; rfl
    have m3 : Mhi b3 100 28 = oN i' := by rw [F1, ← E1, hb2]; rfl
    have ha3 : TXa σ n a3 := by
      refine ⟨?_, fun k hk => ?_⟩
      · rw [F2, ← E2, ha2]; exact ha.1
      · rw [(F4 k).1, ← (E4 k).1, ha2]; exact ha.2 k hk
    have hb3 : TXb σ n b3 := by
      refine ⟨?_, fun k hk => ?_⟩
      · rw [F3, ← E3, hb2]; exact hb.1
      · rw [(F4 k).2, ← (E4 k).2, hb2]; exact hb.2 k hk
    have hr3 : Rel (j + 1) a3 b3 := ⟨y1, y2, y3, y4, y5⟩
    have t0 : Mhi b3 100 0 = Mhi b 100 0 := by rw [p3, hb2]; rfl
    have eK : l_X8_run_32 (G1 + 1) a v1 (oN w) = l_X8_run_32 G1 a3 (v1 + r) (oN (w + 1)) := by
      have e0 : l_X8_run_32 (G1 + 1) a v1 (oN w) = f_X8_run_32 (l_X8_run_32 G1) a v1 (oN w) := rfl
      rw [e0]
      unfold f_X8_run_32 f_X1_verb f_X1_amount
      rw [if_neg (show ¬ (60 : Int32) ≤ oN w from fun z => by rw [show (60 : Int32) = oN 60 from rfl, oN_le (by decide) (by omega)] at z; omega), rK, bs, if_neg n10, show Khi a2 18 0 = oN L by rw [ha2]; rfl, show Khi a2 18 1 = oN q by rw [ha2]; rfl, gd_t (okc_in L (by omega)), bs, bs, p1, bs, lt_e, oN_succ]
    have eM : l_X9_run_28 (G2 + 1) b v1 = l_X9_run_28 G2 (sMhi b3 100 28 (oN (i' + 1))) (v1 + r) := by
      have e0 : l_X9_run_28 (G2 + 1) b v1 = f_X9_run_28 (l_X9_run_28 G2) b v1 := rfl
      rw [e0]
      unfold f_X9_run_28
      rw [m1, bs, if_neg n10, p2, bs, lt_e, m3, oN_succ]
    rw [eK, eM]
    rcases he with rfl | ⟨z1, z2, z3⟩
    · obtain ⟨H1, rfl⟩ : ∃ H1, G1 = H1 + 1 := ⟨G1 - 1, by omega⟩
      obtain ⟨H2, rfl⟩ : ∃ H2, G2 = H2 + 1 := ⟨G2 - 1, by omega⟩
      have hb4 : TXb σ i' (sMhi b3 100 28 (oN (i' + 1))) := hb3
      have s0 : σ (i' + 1) = 0 := (hx.2 (i' + 1)).2 (by omega)
      have a0 := act_O (i := i' + 1) (le := Mhi b3 100 29) (nu := Mhi b3 100 30) hx hb3 (by omega) (by rw [s0]; rintro (z | z) <;> omega) (by rw [s0]; rintro (z | z | z) <;> omega)
      rw [← at_b] at a0
      refine ⟨v1 + r, sKhi a3 16 2 0, sMhi (md b3 (oN (i' + 1)) (oN (σ (i' + 1))) (Mhi b3 100 30)) 100 27 0, ?_, ?_, tx_end hr3, t0⟩
      · have e0 : l_X8_run_32 (H1 + 1) a3 (v1 + r) (oN (w + 1)) = f_X8_run_32 (l_X8_run_32 H1) a3 (v1 + r) (oN (w + 1)) := rfl
        have e78 : f_X8_run_78 a3 (v1 + r) = some (0, v1 + r, sKhi a3 16 2 0) := rfl
        rw [e0]
        unfold f_X8_run_32 f_X1_readAction
        by_cases z : 60 ≤ w + 1
        · rw [if_pos (show (60 : Int32) ≤ oN (w + 1) from (oN_le (x := 60) (by decide) (by omega)).mpr z), e78]
        · rw [if_neg (show ¬ (60 : Int32) ≤ oN (w + 1) from fun y => z ((oN_le (x := 60) (by decide) (by omega)).mp y)), k3, ha3.1, if_neg (show ¬ oN (i' + 1) < oN i' from fun y => by rw [oN_lt (by omega) (by omega)] at y; omega), bs, if_pos rfl, e78]
      · have e0 : l_X9_run_28 (H2 + 1) (sMhi b3 100 28 (oN (i' + 1))) (v1 + r) = f_X9_run_28 (l_X9_run_28 H2) (sMhi b3 100 28 (oN (i' + 1))) (v1 + r) := rfl
        rw [e0]
        unfold f_X9_run_28
        rw [a0, bs, if_pos rfl]
    · have hb4 : TXb σ n (sMhi b3 100 28 (oN (i' + 1))) := hb3
      have hr4 : Rel (j + 1) a3 (sMhi b3 100 28 (oN (i' + 1))) := hr3
      obtain ⟨r', a', b', u1, u2, u3, u4⟩ := ih (i' + 1) G1 G2 (w + 1) a3 (sMhi b3 100 28 (oN (i' + 1))) (v1 + r) z3 ha3 hb4 k3 rfl hr4 ⟨q', by omega, p6⟩ (by omega) (by omega) (by omega)
      exact ⟨r', a', b', u1, u2, u3, u4.trans t0⟩
theorem s_37 : S_37 Rel := by
  intro j a b v1 v2 v3 v4 hj h
  obtain ⟨σ, n, hx, ha, hb⟩ := tx_of h.2.2.2.2
  have hn := hx.1
  obtain ⟨e, c, le, nu, v, m, y1, y2, y3, y4⟩ := comp_l hx FU 0 a b (Mhi b 100 29) (Mhi b 100 30) ha hb (Nat.zero_le _) (by rw [FU_e]; omega)
  have eE : f_X1_errorIndex a = some (oN e, rd a v m) := by
    unfold f_X1_errorIndex
    rw [begin_a, bs, show l_X1_errorIndex_9 FU (rd a 32 0) 0 = _ from y3 FU (by rw [FU_e]; omega)]
  have eC : f_X9_isComplete b = some (c, md b (oN e) le nu) := by
    unfold f_X9_isComplete
    rw [at_b]
    exact y2
  rcases y4 with ⟨rfl, rfl, z3, z4⟩ | ⟨rfl, z1⟩
  · have eK : f_X1_complete a = some (1, rd a v m) := by
      unfold f_X1_complete
      rw [eE, bs, show Khi (rd a v m) 16 2 = Khi a 16 2 from rfl, ha.1, if_neg (show ¬ ¬ oN e = oN e from fun z => z rfl), z3, bs, if_neg n10]
    have hr : Rel (j + 1) (rd (sKhi a 16 3 0) v m) (sMhi (sMhi (md b (oN e) le nu) 100 0 0) 100 28 0) := (show Rel j (rd (sKhi a 16 3 0) v m) (sMhi (sMhi (md b (oN e) le nu) 100 0 0) 100 28 0) from h).up
    have hI : ∃ q, q ≤ 2000 * j + 25 * 0 ∧ Khi (rd (sKhi a 16 3 0) v m) 10 10 = oN q := by
      obtain ⟨q, q1, q2, -⟩ := h.2.1.2.2.2.2.1
      exact ⟨q, by omega, q2⟩
    obtain ⟨r, a', b', r1, r2, r3, r4⟩ := run_l (j := j) hx FU 0 FU FU 0 (rd (sKhi a 16 3 0) v m) (sMhi (sMhi (md b (oN e) le nu) 100 0 0) 100 28 0) 0 z4 (show TXa σ e (rd (sKhi a 16 3 0) v m) from ha) (show TXb σ e (sMhi (sMhi (md b (oN e) le nu) 100 0 0) 100 28 0) from hb) rfl rfl hr hI (Nat.le_refl _) (by rw [FU_e]; omega) (by rw [FU_e]; omega)
    refine ⟨(0, sKou a' 0 r.toInt64), (r, b'), Mhi b' 100 0, ?_, ?_, rfl, ?_, fun _ => rfl, r3.kou 0 _⟩
    · unfold f_L_run f_X8_run f_X1_restart
      rw [eK, bs, if_pos n10, bs, rd_16, show l_X8_run_32 FU (rd (sKhi a 16 3 0) v m) 0 0 = _ from r1]; rfl
    · unfold f_X9_run f_X9_run_13
      rw [eC, bs, if_neg n10, holds_0, bs, if_pos n10]
      exact r2
    · exact r4
  · have eK : f_X1_complete a = some (0, rd a v m) := by
      unfold f_X1_complete
      rw [eE, bs, show Khi (rd a v m) 16 2 = Khi a 16 2 from rfl, ha.1]
      by_cases z : e = n
      · rw [z, if_neg (show ¬ ¬ oN n = oN n from fun y => y rfl), z1 z, bs, if_pos rfl]
      · rw [if_pos (show ¬ oN e = oN n from fun y => z (oN_inj (by omega) (by omega) y))]
    have hr : Rel j (rd a v m) (md b (oN e) le nu) := h
    refine ⟨(1, rd a v m), (0, sMhi (md b (oN e) le nu) 100 0 1), 1, ?_, ?_, rfl, rfl, fun q => absurd q n10, hr.nx 1⟩
    · unfold f_L_run f_X8_run
      rw [eK]; rfl
    · unfold f_X9_run f_X9_run_13
      rw [eC, bs, if_pos rfl]; rfl
