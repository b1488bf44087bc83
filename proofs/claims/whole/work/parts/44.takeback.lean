/-! ===== taking back ===== -/
theorem Mhi_np {b : MS} {p j q k : Nat} {v : Int32} (h : p ≠ q) : Mhi (sMhi b p j v) q k = Mhi b q k := by
  show (if q = p ∧ k = j then v else _) = _
  rw [if_neg (fun z => h z.1.symm)]; rfl
theorem Khi_np {a : KS} {p j q k : Nat} {v : Int32} (h : p ≠ q) : Khi (sKhi a p j v) q k = Khi a q k := by
  show (if q = p ∧ k = j then v else _) = _
  rw [if_neg (fun z => h z.1.symm)]; rfl
theorem Mhi_sn {b : MS} {p j k : Nat} {v : Int32} (h : k ≠ j) : Mhi (sMhi b p j v) p k = Mhi b p k := by rw [Mhi_s, if_neg h]
theorem Mhi_se {b : MS} {p j : Nat} {v : Int32} : Mhi (sMhi b p j v) p j = v := by rw [Mhi_s, if_pos rfl]
theorem Khi_sn {a : KS} {p j k : Nat} {v : Int32} (h : k ≠ j) : Khi (sKhi a p j v) p k = Khi a p k := by rw [Khi_s, if_neg h]
theorem Khi_se {a : KS} {p j : Nat} {v : Int32} : Khi (sKhi a p j v) p j = v := by rw [Khi_s, if_pos rfl]
theorem take_M {b : MS} {q i : Nat} (hq : q < 8) (hi : i < 24) (h1 : Mhi b 100 23 = oN (q + 1)) (h2 : Mhi b 121 q = oN i) : f_X9_takeBack b = some (oN i, sMhi (sMhi (sMhi (sMhi b 100 0 0) 100 23 (oN q)) 120 3 (Mhi b 120 3 + 1)) 107 i (Mhi b 122 q)) := by
  have e1 : oN (q + 1) - 1 = oN q := oN_pred (by omega)
  have c3 : (3 : Int32).toNatClampNeg = 3 := rfl
  have cq : (oN q).toNatClampNeg = q := ofNat_cl (by omega)
  have ci : (oN i).toNatClampNeg = i := ofNat_cl (by omega)
  have b3 : inb 3 8 = true := by decide
  have bq : inb (oN q) 8 = true := inb_oN hq (by decide)
  have bi : inb (oN i) 24 = true := inb_oN hi (by decide)
  have g0 : ¬ oN (q + 1) ≤ 0 := by rw [show (0 : Int32) = oN 0 from rfl, oN_le (by omega) (by decide)]; omega
  unfold f_X9_takeBack f_X9_takeBack_13
  rw [h1, if_neg g0, holds_0, bs, if_pos n10]
  simp (disch := decide) only [Mhi_np, Mhi_se, Mhi_sn, h1, h2, e1, c3, cq, ci, if_true, gd_t b3, gd_t bq, gd_t bi]
