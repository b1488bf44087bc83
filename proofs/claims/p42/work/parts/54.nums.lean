/-! ===== the display: numbers ===== -/
def dg (d : Nat) : Int32 := oN (48 + d)
theorem dig_q : ∀ q : Nat, q < 1000 → oN q / 10 = oN (q / 10) ∧ oN q - oN q / 10 * 10 = oN (q % 10) := by decide +kernel
theorem oN_m1 (c : Nat) : oN (c + 1) + (-1) = oN c := by
  rw [← oN_succ, Int32.add_assoc, show (1 + -1 : Int32) = 0 from rfl, Int32.add_zero]
theorem dg_M {q : Nat} (hq : q < 1000) : 48 + (oN q - oN q / 10 * 10) = dg (q % 10) := by
  rw [(dig_q q hq).2, show (48 : Int32) = oN 48 from rfl, oN_add]; rfl
theorem dg_K {q : Nat} (hq : q < 1000) : vp_nar .char (((48 + (oN q - oN q / 10 * 10)).toUInt32 % 65536).toInt32) = dg (q % 10) := by
  rw [dg_M hq]
  exact chr_in (48 + q % 10) (by omega)
theorem dg_chr {d : Nat} (h : d < 10) : ∃ x : Nat, CB x ∧ dg d = oN x := ⟨48 + d, by omega, rfl⟩
def nd (q : Nat) : Nat := if q < 10 then 1 else if q < 100 then 2 else 3
def EF (B : Nat) (f : Nat → Int32) (c q : Nat) : Nat → Int32 := if q < 10 then wr f (B + c) (dg (q % 10)) else if q < 100 then wr (wr f (B + c) (dg (q % 10))) (B + (c - 1)) (dg (q / 10 % 10)) else wr (wr (wr f (B + c) (dg (q % 10))) (B + (c - 1)) (dg (q / 10 % 10))) (B + (c - 2)) (dg (q / 10 / 10 % 10))
def eK (B : Nat) (f : Nat → Int32) (c q : Nat) (v : Int32) : Nat → Int32 := if 0 ≤ v then EF B f c q else wr (EF B f c q) (B + (c - nd q)) 45
theorem endK_s {a : KS} {f : Nat → Int32} {r c q fuel : Nat} {v : Int32} (hr : r < 2) (hc : 1 ≤ c) (hc2 : c < 15) (hq : q < 1000) : l_X6_writeEndingAt_9 (fuel + 1) (sc a f) (oN r) v (oN q) (oN (c + 1)) = if q < 10 then f_X6_writeEndingAt_45 (sc a (wr f (16 * r + (c + 1)) (dg (q % 10)))) (oN r) v (oN c) else l_X6_writeEndingAt_9 fuel (sc a (wr f (16 * r + (c + 1)) (dg (q % 10)))) (oN r) v (oN (q / 10)) (oN c) := by
  have e0 : l_X6_writeEndingAt_9 (fuel + 1) (sc a f) (oN r) v (oN q) (oN (c + 1)) = f_X6_writeEndingAt_9 (l_X6_writeEndingAt_9 fuel) (sc a f) (oN r) v (oN q) (oN (c + 1)) := rfl
  rw [e0]
  unfold f_X6_writeEndingAt_9
  rw [put_in hr (by omega), bs, dg_K hq, (dig_q q hq).1, lt_e, oN_m1]
  have g0 : (0 : Int32) < oN c := (oN_lt (x := 0) (by decide) (by omega)).mpr hc
  by_cases g : q < 10
  · rw [if_pos g, if_pos (show oN (q / 10) ≤ 0 from (oN_le (y := 0) (by omega) (by decide)).mpr (by omega))]
  · rw [if_neg g, if_neg (show ¬ oN (q / 10) ≤ 0 from fun z => g (by have := (oN_le (y := 0) (by omega) (by decide)).mp z; omega)), if_pos g0]
theorem end45 {a : KS} {f : Nat → Int32} {r c : Nat} {v : Int32} (hr : r < 2) (hc : c < 16) : f_X6_writeEndingAt_45 (sc a f) (oN r) v (oN c) = some (sc a (if 0 ≤ v then f else wr f (16 * r + c) 45)) := by
  unfold f_X6_writeEndingAt_45
  by_cases g : 0 ≤ v
  · rw [if_pos g, if_pos g]
  · rw [if_neg g, if_neg g, put_in hr hc, bs]; rfl
theorem end_K {a : KS} {f : Nat → Int32} {r c q : Nat} {v : Int32} (hr : r < 2) (hc : 3 ≤ c) (hc2 : c < 16) (hq : q < 1000) (hv : mabs v = oN q) : f_X6_writeEndingAt (sc a f) (oN r) (oN c) v = some (sc a (eK (16 * r) f c q v)) := by
  obtain ⟨c', rfl⟩ : ∃ c', c = c' + 1 + 1 + 1 := ⟨c - 3, by omega⟩
  unfold f_X6_writeEndingAt eK EF nd
  rw [hv, lt_e, FU_e, show (1000 : Nat) = 999 + 1 from rfl, endK_s hr (by omega) (by omega) hq]
  by_cases g1 : q < 10
  · rw [if_pos g1, if_pos g1, if_pos g1, end45 hr (by omega)]
    rfl
  · rw [if_neg g1, if_neg g1, if_neg g1, show (999 : Nat) = 998 + 1 from rfl, endK_s hr (by omega) (by omega) (by omega)]
    by_cases g2 : q < 100
    · rw [if_pos (show q / 10 < 10 by omega), if_pos g2, if_pos g2, end45 hr (by omega)]
      rfl
    · rw [if_neg (show ¬ q / 10 < 10 by omega), if_neg g2, if_neg g2, show (998 : Nat) = 997 + 1 from rfl]
      obtain ⟨c2, rfl⟩ | rfl : (∃ c2, c' = c2 + 1) ∨ c' = 0 := by
        rcases Nat.eq_zero_or_pos c' with z | z
        · exact Or.inr z
        · exact Or.inl ⟨c' - 1, by omega⟩
      · rw [endK_s hr (by omega) (by omega) (by omega), if_pos (show q / 10 / 10 < 10 by omega), end45 hr (by omega)]
        rfl
      · have e0 : l_X6_writeEndingAt_9 (997 + 1) (sc a (wr (wr f (16 * r + (0 + 1 + 1 + 1)) (dg (q % 10))) (16 * r + (0 + 1 + 1)) (dg (q / 10 % 10)))) (oN r) v (oN (q / 10 / 10)) (oN (0 + 1)) = f_X6_writeEndingAt_9 (l_X6_writeEndingAt_9 997) (sc a (wr (wr f (16 * r + (0 + 1 + 1 + 1)) (dg (q % 10))) (16 * r + (0 + 1 + 1)) (dg (q / 10 % 10)))) (oN r) v (oN (q / 10 / 10)) (oN (0 + 1)) := rfl
        rw [e0]
        unfold f_X6_writeEndingAt_9
        rw [put_in hr (by omega), bs, dg_K (show q / 10 / 10 < 1000 by omega), (dig_q (q / 10 / 10) (by omega)).1, lt_e, oN_m1, if_pos (show oN (q / 10 / 10 / 10) ≤ 0 from (oN_le (y := 0) (by omega) (by decide)).mpr (by omega)), end45 hr (by omega)]
theorem endM_s {b : MS} {g : Nat → Int32} {c q fuel : Nat} {v : Int32} (hc : 1 ≤ c) (hc2 : c < 16) (hq : q < 1000) : l_X9_ends_27 (fuel + 1) (sm b g) v (oN q) (oN c) = if q < 10 then some (sm b (wr g (c - 1) (if 0 ≤ v then 32 else 45))) else l_X9_ends_27 fuel (sm b (wr g (c - 1) (dg (q / 10 % 10)))) v (oN (q / 10)) (oN (c - 1)) := by
  have e0 : l_X9_ends_27 (fuel + 1) (sm b g) v (oN q) (oN c) = f_X9_ends_27 (l_X9_ends_27 fuel) (sm b g) v (oN q) (oN c) := rfl
  obtain ⟨d, rfl⟩ : ∃ d, c = d + 1 := ⟨c - 1, by omega⟩
  have ec : oN (d + 1) - 1 = oN d := oN_pred (by omega)
  have hb : inb (oN d) 16 = true := inb_oN (by omega) (by decide)
  rw [e0]
  unfold f_X9_ends_27
  rw [ec, gd_t hb, gd_t hb, ofNat_cl (by omega), sm_set, sm_set, (dig_q q hq).1, lt_e, oN_m1, gd_t hb, ofNat_cl (by omega), sm_set, dg_M (show q / 10 < 1000 by omega)]
  by_cases g : q < 10
  · rw [if_pos (show oN q ≤ 9 from (oN_le (y := 9) (by omega) (by decide)).mpr (by omega)), if_pos g]
    by_cases z : 0 ≤ v
    · rw [if_pos z, if_pos z]; rfl
    · rw [if_neg z, if_neg z]; rfl
  · rw [if_neg (show ¬ oN q ≤ 9 from fun z => g (by have := (oN_le (y := 9) (by omega) (by decide)).mp z; omega)), if_neg g]
    rfl
theorem end_M {b : MS} {g : Nat → Int32} {q : Nat} {v : Int32} (hq : q < 1000) (hv : mabs v = oN q) : f_X9_ends (sm b g) v = some (sm b (wr (EF 0 g 15 q) (15 - nd q) (if 0 ≤ v then 32 else 45))) := by
  have e : f_X9_ends (sm b g) v = f_X9_ends_10 (sm b g) v (oN q) := by
    unfold f_X9_ends
    unfold mabs at hv
    by_cases z : 0 ≤ v
    · rw [if_pos z] at hv ⊢; rw [hv]
    · rw [if_neg z] at hv ⊢; rw [← hv, Int32.zero_sub]
  rw [e]
  unfold f_X9_ends_10 EF nd
  rw [gd_t (by decide), dg_M hq, show (15 : Int32).toNatClampNeg = 15 from rfl, sm_set, FU_e, show (1000 : Nat) = 999 + 1 from rfl, show (15 : Int32) = oN 15 from rfl, endM_s (by decide) (by decide) hq]
  by_cases g1 : q < 10
  · rw [if_pos g1, if_pos g1, if_pos g1]
  · rw [if_neg g1, if_neg g1, if_neg g1, show (999 : Nat) = 998 + 1 from rfl, endM_s (by decide) (by decide) (by omega)]
    by_cases g2 : q < 100
    · rw [if_pos (show q / 10 < 10 by omega), if_pos g2, if_pos g2]
    · rw [if_neg (show ¬ q / 10 < 10 by omega), if_neg g2, if_neg g2, show (998 : Nat) = 997 + 1 from rfl, endM_s (by decide) (by decide) (by omega), if_pos (show q / 10 / 10 < 10 by omega)]
theorem E_EF {r c q : Nat} {f g : Nat → Int32} (h : EQ r f g) : EQ r (EF (16 * r) f c q) (EF 0 g c q) := by
  unfold EF
  rw [Nat.zero_add, Nat.zero_add, Nat.zero_add]
  by_cases g1 : q < 10
  · rw [if_pos g1, if_pos g1]; exact E_wr h
  · rw [if_neg g1, if_neg g1]
    by_cases g2 : q < 100
    · rw [if_pos g2, if_pos g2]; exact E_wr (E_wr h)
    · rw [if_neg g2, if_neg g2]; exact E_wr (E_wr (E_wr h))
theorem EF_n {B c q k : Nat} {f : Nat → Int32} (h : k ≠ B + c) (h1 : 10 ≤ q → k ≠ B + (c - 1)) (h2 : 100 ≤ q → k ≠ B + (c - 2)) : EF B f c q k = f k := by
  unfold EF
  by_cases g1 : q < 10
  · rw [if_pos g1, wr_n h]
  · rw [if_neg g1]
    by_cases g2 : q < 100
    · rw [if_pos g2, wr_n (h1 (by omega)), wr_n h]
    · rw [if_neg g2, wr_n (h2 (by omega)), wr_n (h1 (by omega)), wr_n h]
theorem OT_EF {r c q : Nat} {f : Nat → Int32} (hc : c < 16) : OT r f (EF (16 * r) f c q) := by
  unfold EF
  by_cases g1 : q < 10
  · rw [if_pos g1]; exact OT_wr hc
  · rw [if_neg g1]
    by_cases g2 : q < 100
    · rw [if_pos g2]; exact OT_tr (OT_wr hc) (OT_wr (by omega))
    · rw [if_neg g2]; exact OT_tr (OT_tr (OT_wr hc) (OT_wr (by omega))) (OT_wr (by omega))
theorem CH_EF {B c q : Nat} {f : Nat → Int32} (h : CH f) : CH (EF B f c q) := by
  have d : ∀ x : Nat, ∃ y : Nat, CB y ∧ dg (x % 10) = oN y := fun x => dg_chr (by omega)
  obtain ⟨y1, a1, b1⟩ := d q
  obtain ⟨y2, a2, b2⟩ := d (q / 10)
  obtain ⟨y3, a3, b3⟩ := d (q / 10 / 10)
  unfold EF
  by_cases g1 : q < 10
  · rw [if_pos g1]; exact CH_wr h a1 b1
  · rw [if_neg g1]
    by_cases g2 : q < 100
    · rw [if_pos g2]; exact CH_wr (CH_wr h a1 b1) a2 b2
    · rw [if_neg g2]; exact CH_wr (CH_wr (CH_wr h a1 b1) a2 b2) a3 b3
theorem nd_le (q : Nat) : 1 ≤ nd q ∧ nd q ≤ 3 := by
  unfold nd
  by_cases g1 : q < 10
  · rw [if_pos g1]; omega
  · rw [if_neg g1]
    by_cases g2 : q < 100
    · rw [if_pos g2]; omega
    · rw [if_neg g2]; omega
theorem end_E {r q : Nat} {f g : Nat → Int32} {v : Int32} (h : EQ r f g) (hb : BL 12 g) (hf : CH f) : EQ r (eK (16 * r) f 15 q v) (wr (EF 0 g 15 q) (15 - nd q) (if 0 ≤ v then 32 else 45)) ∧ OT r f (eK (16 * r) f 15 q v) ∧ CH (eK (16 * r) f 15 q v) := by
  have hn := nd_le q
  have h1 := E_EF (c := 15) (q := q) h
  unfold eK
  by_cases z : 0 ≤ v
  · rw [if_pos z, if_pos z]
    refine ⟨E_m h1 ?_, OT_EF (by decide), CH_EF hf⟩
    rw [EF_n]
    · exact hb _ (by omega) (by omega)
    · omega
    · intro y; unfold nd; rw [if_neg (by omega)]
      by_cases g2 : q < 100
      · rw [if_pos g2]; omega
      · rw [if_neg g2]; omega
    · intro y; unfold nd; rw [if_neg (by omega), if_neg (by omega)]; omega
  · rw [if_neg z, if_neg z]
    exact ⟨E_wr h1, OT_tr (OT_EF (by decide)) (OT_wr (by omega)), CH_wr (CH_EF hf) (x := 45) (by decide) rfl⟩
/-- a number behind a name -/
theorem numd_K {a : KS} {r s n : Nat} {f : Nat → Int32} (hr : r < 2) (hs : s < 5) (hn : n < 24) : f_X6_writeNumbered (sc a f) (oN r) s (oN n) = some (sc a (if n < 10 then wr (wf (16 * r) (ss s) 0 (scrN.getD s 0) f) (16 * r + scrN.getD s 0) (dg n) else wr (wr (wf (16 * r) (ss s) 0 (scrN.getD s 0) f) (16 * r + (scrN.getD s 0 + 1)) (dg (n % 10))) (16 * r + scrN.getD s 0) (dg (n / 10)))) := by
  have hl : ∀ s : Nat, s < 5 → 5 ≤ scrN.getD s 0 ∧ scrN.getD s 0 ≤ 7 := by decide
  obtain ⟨l1, l2⟩ := hl s hs
  have g0 : (0 : Int32) ≤ oN n := Int32.not_lt.mp (oN_nn (by omega))
  have hm : mabs (oN n) = oN n := if_pos g0
  unfold f_X6_writeNumbered f_X6_writeNumbered_25
  rw [write_K hr (by omega), bs]
  by_cases g : n < 10
  · rw [if_pos g, if_neg (show ¬ (10 : Int32) ≤ oN n from fun z => by rw [show (10 : Int32) = oN 10 from rfl, oN_le (by decide) (by omega)] at z; omega), end_K hr (by omega) (by omega) (by omega) hm, bs]
    unfold eK EF
    rw [if_pos g0, if_pos g, show n % 10 = n by omega]
  · rw [if_neg g, if_pos (show (10 : Int32) ≤ oN n from (oN_le (x := 10) (by decide) (by omega)).mpr (by omega))]
    show (f_X6_writeEndingAt (sc a (wf (16 * r) (ss s) 0 (scrN.getD s 0) f)) (oN r) (oN (scrN.getD s 0) + 1) (oN n)).bind _ = _
    rw [oN_succ, end_K hr (by omega) (by omega) (by omega) hm, bs]
    unfold eK EF
    rw [if_pos g0, if_neg g, if_pos (show n < 100 by omega), show n / 10 % 10 = n / 10 by omega, Nat.add_sub_cancel]
theorem writes_M {b : MS} {g : Nat → Int32} {n l : Nat} (hn : n < 24) (hl : l + 1 < 16) : f_X9_writes (sm b g) (oN n) (oN l) = some (sm b (if n < 10 then wr (wr g l (dg n)) (l + 1) 32 else wr (wr g l (dg (n / 10))) (l + 1) (dg (n % 10)))) := by
  unfold f_X9_writes f_X9_writes_21
  have b1 : inb (oN l) 16 = true := inb_oN (by omega) (by decide)
  have b2 : inb (oN (l + 1)) 16 = true := inb_oN hl (by decide)
  have c1 : (oN l).toNatClampNeg = l := ofNat_cl (by omega)
  have c2 : (oN (l + 1)).toNatClampNeg = l + 1 := ofNat_cl (by omega)
  rw [oN_succ, c1, c2, gd_t b1, gd_t b2, gd_t b2, dg_M (show n < 1000 by omega), (dig_q n (by omega)).1, sm_set, sm_set]
  by_cases z : n < 10
  · have g9 : oN n ≤ 9 := (oN_le (y := 9) (by omega) (by decide)).mpr (by omega)
    rw [if_pos g9, if_pos g9, if_pos z, show (48 : Int32) = oN 48 from rfl, oN_add]
    rfl
  · have g9 : ¬ oN n ≤ 9 := fun y => z (by have := (oN_le (y := 9) (by omega) (by decide)).mp y; omega)
    rw [if_neg g9, if_neg z, gd_t b1, if_neg g9, gd_t b2, show (48 : Int32) = oN 48 from rfl, oN_add, sm_set, sm_set]
    rfl
