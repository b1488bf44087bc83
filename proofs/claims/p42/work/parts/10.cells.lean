section CE
variable {p : Program} {l : Launch} {e : Env} {R : Room} {s : State} {m : MethodId} {args : Array Value} {below : List Frame} {meth : Method} {c : Code} {G : GT} {A : Nat → Prop} {nL : Nat} {Q : State → Prop} {k n : Nat} {ad : Nat → Nat} {a : KS} {b : MS} {own : String} {cc : ByteArray} {pc : Nat} {lv : List (Nat × Value)} {st : List Value}
theorem in_X0_ : ∀ w ∈ u_ws RX0 TX0 2, w ∈ lw_tbl ∧ goodWord w = true := by decide +kernel
theorem in_X0 : ∀ w ∈ u_ws RX0 TX0 2, w ∈ BIG := fun w h => List.mem_filter.mpr ⟨(in_X0_ w h).1, (in_X0_ w h).2⟩
theorem in_X1_ : ∀ w ∈ u_ws RX1 TX1 4, w ∈ lw_tbl ∧ goodWord w = true := by decide +kernel
theorem in_X1 : ∀ w ∈ u_ws RX1 TX1 4, w ∈ BIG := fun w h => List.mem_filter.mpr ⟨(in_X1_ w h).1, (in_X1_ w h).2⟩
theorem in_X2_ : ∀ w ∈ u_ws RX2 TX2 13, w ∈ lw_tbl ∧ goodWord w = true := by decide +kernel
theorem in_X2 : ∀ w ∈ u_ws RX2 TX2 13, w ∈ BIG := fun w h => List.mem_filter.mpr ⟨(in_X2_ w h).1, (in_X2_ w h).2⟩
theorem in_X3_ : ∀ w ∈ u_ws RX3 TX3 3, w ∈ lw_tbl ∧ goodWord w = true := by decide +kernel
theorem in_X3 : ∀ w ∈ u_ws RX3 TX3 3, w ∈ BIG := fun w h => List.mem_filter.mpr ⟨(in_X3_ w h).1, (in_X3_ w h).2⟩
theorem in_X4_ : ∀ w ∈ u_ws RX4 TX4 13, w ∈ lw_tbl ∧ goodWord w = true := by decide +kernel
theorem in_X4 : ∀ w ∈ u_ws RX4 TX4 13, w ∈ BIG := fun w h => List.mem_filter.mpr ⟨(in_X4_ w h).1, (in_X4_ w h).2⟩
theorem in_X5_ : ∀ w ∈ u_ws RX5 TX5 3, w ∈ lw_tbl ∧ goodWord w = true := by decide +kernel
theorem in_X5 : ∀ w ∈ u_ws RX5 TX5 3, w ∈ BIG := fun w h => List.mem_filter.mpr ⟨(in_X5_ w h).1, (in_X5_ w h).2⟩
theorem in_X6_ : ∀ w ∈ u_ws RX6 TX6 1, w ∈ lw_tbl ∧ goodWord w = true := by decide +kernel
theorem in_X6 : ∀ w ∈ u_ws RX6 TX6 1, w ∈ BIG := fun w h => List.mem_filter.mpr ⟨(in_X6_ w h).1, (in_X6_ w h).2⟩
theorem in_X7_ : ∀ w ∈ u_ws RX7 TX7 3, w ∈ lw_tbl ∧ goodWord w = true := by decide +kernel
theorem in_X7 : ∀ w ∈ u_ws RX7 TX7 3, w ∈ BIG := fun w h => List.mem_filter.mpr ⟨(in_X7_ w h).1, (in_X7_ w h).2⟩
theorem in_X8_ : ∀ w ∈ u_ws RX8 TX8 7, w ∈ lw_tbl ∧ goodWord w = true := by decide +kernel
theorem in_X8 : ∀ w ∈ u_ws RX8 TX8 7, w ∈ BIG := fun w h => List.mem_filter.mpr ⟨(in_X8_ w h).1, (in_X8_ w h).2⟩
theorem m_0 {n : Nat} : 0 ∈ pls n := mem_plF (by decide +kernel)
theorem m_1 {n : Nat} : 1 ∈ pls n := mem_plF (by decide +kernel)
theorem m_2 {n : Nat} : 2 ∈ pls n := mem_plF (by decide +kernel)
theorem m_3 {n : Nat} : 3 ∈ pls n := mem_plF (by decide +kernel)
theorem m_4 {n : Nat} : 4 ∈ pls n := mem_plF (by decide +kernel)
theorem m_5 {n : Nat} : 5 ∈ pls n := mem_plF (by decide +kernel)
theorem m_6 {n : Nat} : 6 ∈ pls n := mem_plF (by decide +kernel)
theorem m_7 {n : Nat} : 7 ∈ pls n := mem_plF (by decide +kernel)
theorem m_8 {n : Nat} : 8 ∈ pls n := mem_plF (by decide +kernel)
theorem m_9 {n : Nat} : 9 ∈ pls n := mem_plF (by decide +kernel)
theorem m_10 {n : Nat} : 10 ∈ pls n := mem_plF (by decide +kernel)
theorem m_11 {n : Nat} : 11 ∈ pls n := mem_plF (by decide +kernel)
theorem m_12 {n : Nat} : 12 ∈ pls n := mem_plF (by decide +kernel)
theorem m_13 {n : Nat} : 13 ∈ pls n := mem_plF (by decide +kernel)
theorem m_14 {n : Nat} : 14 ∈ pls n := mem_plF (by decide +kernel)
theorem m_15 {n : Nat} : 15 ∈ pls n := mem_plF (by decide +kernel)
theorem m_16 {n : Nat} : 16 ∈ pls n := mem_plF (by decide +kernel)
theorem m_17 {n : Nat} : 17 ∈ pls n := mem_plF (by decide +kernel)
theorem m_18 {n : Nat} : 18 ∈ pls n := mem_plF (by decide +kernel)
theorem ce_0 : cel G ad a b 0 = .inr (8, [.ref (ad 1), .ref (ad 3), .ref (ad 6), .ref (ad 8), .ref (ad 10), .ref (ad 14), .ref (ad 16)]) := rfl
theorem ce_1 : cel G ad a b 1 = .inr (7, [.ref (ad (ip 0)), .ref (ad 2), .int (Khi a 1 2)]) := rfl
theorem ce_2 : cel G ad a b 2 = arR (G.2.1 4) 24 (fun j => itr ad (Kti a j)) := rfl
theorem ce_3 : cel G ad a b 3 = .inr (3, [.ref (ad 4), .ref (ad 5), .int (Khi a 3 2)]) := rfl
theorem ce_4 : cel G ad a b 4 = arR (G.2.1 4) 8 (fun j => itr ad (Klg a j)) := rfl
theorem ce_5 : cel G ad a b 5 = arI (G.2.1 0) 8 (Khi a 5) := rfl
theorem ce_6 : cel G ad a b 6 = .inr (5, [.ref (ad (6 + 1)), .int (Khi a 6 1), .int (Khi a 6 2)]) := rfl
theorem ce_7 : cel G ad a b 7 = arI (G.2.1 0) 24 (Khi a 7) := rfl
theorem ce_8 : cel G ad a b 8 = .inr (5, [.ref (ad (8 + 1)), .int (Khi a 8 1), .int (Khi a 8 2)]) := rfl
theorem ce_9 : cel G ad a b 9 = arI (G.2.1 0) 24 (Khi a 9) := rfl
theorem ce_10 : cel G ad a b 10 = .inr (2, [.ref (ad 1), .ref (ad 3), .ref (ad 11), .ref (ad 12), .ref (ad 13), itv ad (Ksh a), .int (Khi a 10 6), .int (Khi a 10 7), .int (Khi a 10 8), .int (Khi a 10 9), .int (Khi a 10 10), .int (Khi a 10 11), .int (Khi a 10 12)]) := rfl
theorem ce_11 : cel G ad a b 11 = arI (G.2.1 0) 4 (Khi a 11) := rfl
theorem ce_12 : cel G ad a b 12 = arI (G.2.1 0) 3 (Khi a 12) := rfl
theorem ce_13 : cel G ad a b 13 = arI (G.2.1 0) 8 (Khi a 13) := rfl
theorem ce_14 : cel G ad a b 14 = .inr (6, [.ref (ad 15)]) := rfl
theorem ce_15 : cel G ad a b 15 = arI (G.2.1 1) 32 (Khi a 15) := rfl
theorem ce_16 : cel G ad a b 16 = .inr (1, [.ref (ad 17), .ref (ad 18), .int (Khi a 16 2), .int (Khi a 16 3)]) := rfl
theorem ce_17 : cel G ad a b 17 = arI (G.2.1 1) 60 (Khi a 17) := rfl
theorem ce_18 : cel G ad a b 18 = .inr (0, [.int (Khi a 18 0), .int (Khi a 18 1)]) := rfl
theorem ii_m1 (x : Int32) : x + Int32.ofInt (-1) = x + (-1) := by rw [show Int32.ofInt (-1) = -1 from by decide]
theorem sw_ne {x : Int32} {v : Int32} {w : Int} (hw : v.toInt = w) (h : ¬ x = v) : ¬ x.toInt = w := fun e => h (Int32.toInt_inj.mp (e.trans hw.symm))
theorem sw_out0_4 {x : Int32} (h0 : ¬ x = 0) (h1 : ¬ x = 1) (h2 : ¬ x = 2) (h3 : ¬ x = 3) (h4 : ¬ x = 4) : x.toInt < 0 ∨ 4 < x.toInt := by
  have h0 := sw_ne (w := 0) (by decide) h0
  have h1 := sw_ne (w := 1) (by decide) h1
  have h2 := sw_ne (w := 2) (by decide) h2
  have h3 := sw_ne (w := 3) (by decide) h3
  have h4 := sw_ne (w := 4) (by decide) h4
  omega
theorem sw_out0_9 {x : Int32} (h0 : ¬ x = 0) (h1 : ¬ x = 1) (h2 : ¬ x = 2) (h3 : ¬ x = 3) (h4 : ¬ x = 4) (h5 : ¬ x = 5) (h6 : ¬ x = 6) (h7 : ¬ x = 7) (h8 : ¬ x = 8) (h9 : ¬ x = 9) : x.toInt < 0 ∨ 9 < x.toInt := by
  have h0 := sw_ne (w := 0) (by decide) h0
  have h1 := sw_ne (w := 1) (by decide) h1
  have h2 := sw_ne (w := 2) (by decide) h2
  have h3 := sw_ne (w := 3) (by decide) h3
  have h4 := sw_ne (w := 4) (by decide) h4
  have h5 := sw_ne (w := 5) (by decide) h5
  have h6 := sw_ne (w := 6) (by decide) h6
  have h7 := sw_ne (w := 7) (by decide) h7
  have h8 := sw_ne (w := 8) (by decide) h8
  have h9 := sw_ne (w := 9) (by decide) h9
  omega
theorem sw_look_104_112_116 {x : Int32} (h0 : ¬ x = 104) (h1 : ¬ x = 112) (h2 : ¬ x = 116) : Op.lookupswitch.offset (#[(104, 41), (112, 36), (116, 48)] : Array (Int × Int)).toList 59 x.toInt = 59 := by
  have h0 := sw_ne (w := 104) (by decide) h0
  have h1 := sw_ne (w := 112) (by decide) h1
  have h2 := sw_ne (w := 116) (by decide) h2
  simp [Op.lookupswitch.offset, h0, h1, h2, eq_comm]
theorem ce_item {i : Nat} : cel G ad a b (ip i) = .inr (4, [.int (Kit a i 0), .int (Kit a i 1), itv ad (Kmn a i), .int (Kit a i 3), .int (Kit a i 4), .int (Kit a i 5), .int (Kit a i 6), .int (Kit a i 7), .ref (ad (cp i)), .int (Kit a i 9), .int (Kit a i 10), .int (Kit a i 11), .int (Kit a i 12)]) := cel_item i
theorem ce_chil {i : Nat} : cel G ad a b (cp i) = arR (G.2.1 4) 8 (fun j => itr ad (Kch a i j)) := cel_chil i
theorem okp_of {q : Nat} (h : okp q = true) : q = 6 ∨ q = 8 := of_decide_eq_true h
theorem m_pre {q n : Nat} (h : okp q = true) : q ∈ pls n := by rcases okp_of h with rfl | rfl; exact m_6; exact m_8
theorem m_prea {q n : Nat} (h : okp q = true) : q + 1 ∈ pls n := by rcases okp_of h with rfl | rfl; exact m_7; exact m_9
theorem ce_pre {q : Nat} (h : okp q = true) : cel G ad a b q = .inr (5, [.ref (ad (q + 1)), .int (Khi a q 1), .int (Khi a q 2)]) := by rcases okp_of h with rfl | rfl; exact ce_6; exact ce_8
theorem ce_prea {q : Nat} (h : okp q = true) : cel G ad a b (q + 1) = arI (G.2.1 0) 24 (Khi a (q + 1)) := by rcases okp_of h with rfl | rfl; exact ce_7; exact ce_9
theorem upd_up1 (f : Nat → Int32) (k : Nat) (x : Int32) : upd f k x = up1 f k x := rfl
theorem updL_up1 (f : Nat → Int64) (k : Nat) (x : Int64) : vp_updL f k x = up1 f k x := rfl
theorem cel_ksh {o : Option Nat} {z : Nat} (h : z ≠ 10) : cel G ad a b z = cel G ad (sKsh a o) b z := by
  unfold cel
  by_cases h1 : z < 100
  · rw [if_pos h1, if_pos h1]
    show celF G ad (Khi a z) (Kti a) (Klg a) (Ksh a) (Kou a) z = celF G ad (Khi a z) (Kti a) (Klg a) o (Kou a) z
    unfold celF
    split <;> first | rfl | exact absurd rfl h
  · rw [if_neg h1, if_neg h1]; rfl
theorem cel_kou {j : Nat} {v : Int64} {z : Nat} (h : z ≠ 19) : cel G ad a b z = cel G ad (sKou a j v) b z := by
  unfold cel
  by_cases h1 : z < 100
  · rw [if_pos h1, if_pos h1]
    show celF G ad (Khi a z) (Kti a) (Klg a) (Ksh a) (Kou a) z = celF G ad (Khi a z) (Kti a) (Klg a) (Ksh a) (up1 (Kou a) j v) z
    unfold celF
    split <;> first | rfl | exact absurd rfl h
  · rw [if_neg h1, if_neg h1]; rfl
theorem cel_kti {j : Nat} {o : Option Nat} {z : Nat} (h : z ≠ 2) : cel G ad a b z = cel G ad (sKti a j o) b z := by
  unfold cel
  by_cases h1 : z < 100
  · rw [if_pos h1, if_pos h1]
    show celF G ad (Khi a z) (Kti a) (Klg a) (Ksh a) (Kou a) z = celF G ad (Khi a z) (up1 (Kti a) j o) (Klg a) (Ksh a) (Kou a) z
    unfold celF
    split <;> first | rfl | exact absurd rfl h
  · rw [if_neg h1, if_neg h1]; rfl
theorem cel_klg {j : Nat} {o : Option Nat} {z : Nat} (h : z ≠ 4) : cel G ad a b z = cel G ad (sKlg a j o) b z := by
  unfold cel
  by_cases h1 : z < 100
  · rw [if_pos h1, if_pos h1]
    show celF G ad (Khi a z) (Kti a) (Klg a) (Ksh a) (Kou a) z = celF G ad (Khi a z) (Kti a) (up1 (Klg a) j o) (Ksh a) (Kou a) z
    unfold celF
    split <;> first | rfl | exact absurd rfl h
  · rw [if_neg h1, if_neg h1]; rfl
theorem cel_mhs {v : Int64} {z : Nat} (h : z ≠ 100) : cel G ad a b z = cel G ad a (sMhs b v) z := by
  unfold cel
  by_cases h1 : z < 100
  · rw [if_pos h1, if_pos h1]
  rw [if_neg h1, if_neg h1]
  by_cases h2 : z < 200
  · rw [if_pos h2, if_pos h2]
    show celM G ad (Mhi b z) (Mhs b) (z - 100) = celM G ad (Mhi b z) v (z - 100)
    have h3 : z - 100 ≠ 0 := by omega
    generalize z - 100 = w at h3
    unfold celM
    split <;> first | rfl | exact absurd rfl h3
  · rw [if_neg h2, if_neg h2]
theorem va_up_itr (f : Nat → Option Nat) (j i : Nat) : va_up (fun k => itr ad (f k)) j (some (ad (ip i))) = fun k => itr ad (up1 f j (some i) k) := by
  funext k
  by_cases h : k = j <;> simp [va_up, up1, h, itr]
theorem put_X0_0 (C : CX G A own cc nL p s m args c) {idx : Nat} {x : Int32} (hl : Cond.fieldLink own idx "KnobMenu$ActionReader" "verb" "C" ∈ BIG) (hn : narrow .char (.int x) = .int x) (hf : fits .char (.int x) = true) (d : decode cc pc = .ok (.putfield idx, 3)) (kk : J p l e R s m args below meth c G A nL Q k n ad (sKhi a 18 0 x) b (pc + 3) (lv) (st)) : J p l e R s m args below meth c G A nL Q k n ad a b (pc) (lv) (.int x :: .ref (ad 18) :: st) := j_put (a' := sKhi a 18 0 x) (b' := b) (q := 18) (kf := 0) (T := TX0) (N := 2) (RC := RX0) C m_18 ce_18 rfl in_X0 tyX0_ok nmX0 (by decide) (fun _ h9 => h9) rfl (by decide +kernel) (Nat.le_of_ble_eq_true rfl) rfl rfl (fun z h => cel_khi h) hl hn hf d kk
theorem put_X0_1 (C : CX G A own cc nL p s m args c) {idx : Nat} {x : Int32} (hl : Cond.fieldLink own idx "KnobMenu$ActionReader" "amount" "I" ∈ BIG) (hn : narrow .int (.int x) = .int x) (hf : fits .int (.int x) = true) (d : decode cc pc = .ok (.putfield idx, 3)) (kk : J p l e R s m args below meth c G A nL Q k n ad (sKhi a 18 1 x) b (pc + 3) (lv) (st)) : J p l e R s m args below meth c G A nL Q k n ad a b (pc) (lv) (.int x :: .ref (ad 18) :: st) := j_put (a' := sKhi a 18 1 x) (b' := b) (q := 18) (kf := 1) (T := TX0) (N := 2) (RC := RX0) C m_18 ce_18 rfl in_X0 tyX0_ok nmX0 (by decide) (fun _ h9 => h9) rfl (by decide +kernel) (Nat.le_of_ble_eq_true rfl) rfl rfl (fun z h => cel_khi h) hl hn hf d kk
theorem put_X1_2 (C : CX G A own cc nL p s m args c) {idx : Nat} {x : Int32} (hl : Cond.fieldLink own idx "KnobMenu$ActionText" "length" "I" ∈ BIG) (hn : narrow .int (.int x) = .int x) (hf : fits .int (.int x) = true) (d : decode cc pc = .ok (.putfield idx, 3)) (kk : J p l e R s m args below meth c G A nL Q k n ad (sKhi a 16 2 x) b (pc + 3) (lv) (st)) : J p l e R s m args below meth c G A nL Q k n ad a b (pc) (lv) (.int x :: .ref (ad 16) :: st) := j_put (a' := sKhi a 16 2 x) (b' := b) (q := 16) (kf := 2) (T := TX1) (N := 4) (RC := RX1) C m_16 ce_16 rfl in_X1 tyX1_ok nmX1 (by decide) (fun _ h9 => h9) rfl (by decide +kernel) (Nat.le_of_ble_eq_true rfl) rfl rfl (fun z h => cel_khi h) hl hn hf d kk
theorem put_X1_3 (C : CX G A own cc nL p s m args c) {idx : Nat} {x : Int32} (hl : Cond.fieldLink own idx "KnobMenu$ActionText" "next" "I" ∈ BIG) (hn : narrow .int (.int x) = .int x) (hf : fits .int (.int x) = true) (d : decode cc pc = .ok (.putfield idx, 3)) (kk : J p l e R s m args below meth c G A nL Q k n ad (sKhi a 16 3 x) b (pc + 3) (lv) (st)) : J p l e R s m args below meth c G A nL Q k n ad a b (pc) (lv) (.int x :: .ref (ad 16) :: st) := j_put (a' := sKhi a 16 3 x) (b' := b) (q := 16) (kf := 3) (T := TX1) (N := 4) (RC := RX1) C m_16 ce_16 rfl in_X1 tyX1_ok nmX1 (by decide) (fun _ h9 => h9) rfl (by decide +kernel) (Nat.le_of_ble_eq_true rfl) rfl rfl (fun z h => cel_khi h) hl hn hf d kk
theorem put_X2_6 (C : CX G A own cc nL p s m args c) {idx : Nat} {x : Int32} (hl : Cond.fieldLink own idx "KnobMenu$Device" "mode" "I" ∈ BIG) (hn : narrow .int (.int x) = .int x) (hf : fits .int (.int x) = true) (d : decode cc pc = .ok (.putfield idx, 3)) (kk : J p l e R s m args below meth c G A nL Q k n ad (sKhi a 10 6 x) b (pc + 3) (lv) (st)) : J p l e R s m args below meth c G A nL Q k n ad a b (pc) (lv) (.int x :: .ref (ad 10) :: st) := j_put (a' := sKhi a 10 6 x) (b' := b) (q := 10) (kf := 6) (T := TX2) (N := 13) (RC := RX2) C m_10 ce_10 rfl in_X2 tyX2_ok nmX2 (by decide) (fun _ h9 => h9) rfl (by decide +kernel) (Nat.le_of_ble_eq_true rfl) rfl rfl (fun z h => cel_khi h) hl hn hf d kk
theorem put_X2_7 (C : CX G A own cc nL p s m args c) {idx : Nat} {x : Int32} (hl : Cond.fieldLink own idx "KnobMenu$Device" "cursor" "I" ∈ BIG) (hn : narrow .int (.int x) = .int x) (hf : fits .int (.int x) = true) (d : decode cc pc = .ok (.putfield idx, 3)) (kk : J p l e R s m args below meth c G A nL Q k n ad (sKhi a 10 7 x) b (pc + 3) (lv) (st)) : J p l e R s m args below meth c G A nL Q k n ad a b (pc) (lv) (.int x :: .ref (ad 10) :: st) := j_put (a' := sKhi a 10 7 x) (b' := b) (q := 10) (kf := 7) (T := TX2) (N := 13) (RC := RX2) C m_10 ce_10 rfl in_X2 tyX2_ok nmX2 (by decide) (fun _ h9 => h9) rfl (by decide +kernel) (Nat.le_of_ble_eq_true rfl) rfl rfl (fun z h => cel_khi h) hl hn hf d kk
theorem put_X2_8 (C : CX G A own cc nL p s m args c) {idx : Nat} {x : Int32} (hl : Cond.fieldLink own idx "KnobMenu$Device" "draft" "I" ∈ BIG) (hn : narrow .int (.int x) = .int x) (hf : fits .int (.int x) = true) (d : decode cc pc = .ok (.putfield idx, 3)) (kk : J p l e R s m args below meth c G A nL Q k n ad (sKhi a 10 8 x) b (pc + 3) (lv) (st)) : J p l e R s m args below meth c G A nL Q k n ad a b (pc) (lv) (.int x :: .ref (ad 10) :: st) := j_put (a' := sKhi a 10 8 x) (b' := b) (q := 10) (kf := 8) (T := TX2) (N := 13) (RC := RX2) C m_10 ce_10 rfl in_X2 tyX2_ok nmX2 (by decide) (fun _ h9 => h9) rfl (by decide +kernel) (Nat.le_of_ble_eq_true rfl) rfl rfl (fun z h => cel_khi h) hl hn hf d kk
theorem put_X2_9 (C : CX G A own cc nL p s m args c) {idx : Nat} {x : Int32} (hl : Cond.fieldLink own idx "KnobMenu$Device" "place" "I" ∈ BIG) (hn : narrow .int (.int x) = .int x) (hf : fits .int (.int x) = true) (d : decode cc pc = .ok (.putfield idx, 3)) (kk : J p l e R s m args below meth c G A nL Q k n ad (sKhi a 10 9 x) b (pc + 3) (lv) (st)) : J p l e R s m args below meth c G A nL Q k n ad a b (pc) (lv) (.int x :: .ref (ad 10) :: st) := j_put (a' := sKhi a 10 9 x) (b' := b) (q := 10) (kf := 9) (T := TX2) (N := 13) (RC := RX2) C m_10 ce_10 rfl in_X2 tyX2_ok nmX2 (by decide) (fun _ h9 => h9) rfl (by decide +kernel) (Nat.le_of_ble_eq_true rfl) rfl rfl (fun z h => cel_khi h) hl hn hf d kk
theorem put_X2_10 (C : CX G A own cc nL p s m args c) {idx : Nat} {x : Int32} (hl : Cond.fieldLink own idx "KnobMenu$Device" "idle" "I" ∈ BIG) (hn : narrow .int (.int x) = .int x) (hf : fits .int (.int x) = true) (d : decode cc pc = .ok (.putfield idx, 3)) (kk : J p l e R s m args below meth c G A nL Q k n ad (sKhi a 10 10 x) b (pc + 3) (lv) (st)) : J p l e R s m args below meth c G A nL Q k n ad a b (pc) (lv) (.int x :: .ref (ad 10) :: st) := j_put (a' := sKhi a 10 10 x) (b' := b) (q := 10) (kf := 10) (T := TX2) (N := 13) (RC := RX2) C m_10 ce_10 rfl in_X2 tyX2_ok nmX2 (by decide) (fun _ h9 => h9) rfl (by decide +kernel) (Nat.le_of_ble_eq_true rfl) rfl rfl (fun z h => cel_khi h) hl hn hf d kk
theorem put_X2_11 (C : CX G A own cc nL p s m args c) {idx : Nat} {x : Int32} (hl : Cond.fieldLink own idx "KnobMenu$Device" "barredTicks" "I" ∈ BIG) (hn : narrow .int (.int x) = .int x) (hf : fits .int (.int x) = true) (d : decode cc pc = .ok (.putfield idx, 3)) (kk : J p l e R s m args below meth c G A nL Q k n ad (sKhi a 10 11 x) b (pc + 3) (lv) (st)) : J p l e R s m args below meth c G A nL Q k n ad a b (pc) (lv) (.int x :: .ref (ad 10) :: st) := j_put (a' := sKhi a 10 11 x) (b' := b) (q := 10) (kf := 11) (T := TX2) (N := 13) (RC := RX2) C m_10 ce_10 rfl in_X2 tyX2_ok nmX2 (by decide) (fun _ h9 => h9) rfl (by decide +kernel) (Nat.le_of_ble_eq_true rfl) rfl rfl (fun z h => cel_khi h) hl hn hf d kk
theorem put_X2_12 (C : CX G A own cc nL p s m args c) {idx : Nat} {x : Int32} (hl : Cond.fieldLink own idx "KnobMenu$Device" "wrongInRow" "I" ∈ BIG) (hn : narrow .int (.int x) = .int x) (hf : fits .int (.int x) = true) (d : decode cc pc = .ok (.putfield idx, 3)) (kk : J p l e R s m args below meth c G A nL Q k n ad (sKhi a 10 12 x) b (pc + 3) (lv) (st)) : J p l e R s m args below meth c G A nL Q k n ad a b (pc) (lv) (.int x :: .ref (ad 10) :: st) := j_put (a' := sKhi a 10 12 x) (b' := b) (q := 10) (kf := 12) (T := TX2) (N := 13) (RC := RX2) C m_10 ce_10 rfl in_X2 tyX2_ok nmX2 (by decide) (fun _ h9 => h9) rfl (by decide +kernel) (Nat.le_of_ble_eq_true rfl) rfl rfl (fun z h => cel_khi h) hl hn hf d kk
theorem put_X3_2 (C : CX G A own cc nL p s m args c) {idx : Nat} {x : Int32} (hl : Cond.fieldLink own idx "KnobMenu$EditLog" "count" "I" ∈ BIG) (hn : narrow .int (.int x) = .int x) (hf : fits .int (.int x) = true) (d : decode cc pc = .ok (.putfield idx, 3)) (kk : J p l e R s m args below meth c G A nL Q k n ad (sKhi a 3 2 x) b (pc + 3) (lv) (st)) : J p l e R s m args below meth c G A nL Q k n ad a b (pc) (lv) (.int x :: .ref (ad 3) :: st) := j_put (a' := sKhi a 3 2 x) (b' := b) (q := 3) (kf := 2) (T := TX3) (N := 3) (RC := RX3) C m_3 ce_3 rfl in_X3 tyX3_ok nmX3 (by decide) (fun _ h9 => h9) rfl (by decide +kernel) (Nat.le_of_ble_eq_true rfl) rfl rfl (fun z h => cel_khi h) hl hn hf d kk
theorem put_X7_2 (C : CX G A own cc nL p s m args c) {idx : Nat} {x : Int32} (hl : Cond.fieldLink own idx "KnobMenu$Tree" "count" "I" ∈ BIG) (hn : narrow .int (.int x) = .int x) (hf : fits .int (.int x) = true) (d : decode cc pc = .ok (.putfield idx, 3)) (kk : J p l e R s m args below meth c G A nL Q k n ad (sKhi a 1 2 x) b (pc + 3) (lv) (st)) : J p l e R s m args below meth c G A nL Q k n ad a b (pc) (lv) (.int x :: .ref (ad 1) :: st) := j_put (a' := sKhi a 1 2 x) (b' := b) (q := 1) (kf := 2) (T := TX7) (N := 3) (RC := RX7) C m_1 ce_1 rfl in_X7 tyX7_ok nmX7 (by decide) (fun _ h9 => h9) rfl (by decide +kernel) (Nat.le_of_ble_eq_true rfl) rfl rfl (fun z h => cel_khi h) hl hn hf d kk
theorem put_X2_5 {o : Option Nat} (C : CX G A own cc nL p s m args c) {idx : Nat} (hl : Cond.fieldLink own idx "KnobMenu$Device" "shown" "LKnobMenu$Item;" ∈ BIG) (d : decode cc pc = .ok (.putfield idx, 3)) (kk : J p l e R s m args below meth c G A nL Q k n ad (sKsh a o) b (pc + 3) (lv) (st)) : J p l e R s m args below meth c G A nL Q k n ad a b (pc) (lv) (itv ad o :: .ref (ad 10) :: st) := j_put (a' := sKsh a o) (b' := b) (q := 10) (kf := 5) (T := TX2) (N := 13) (RC := RX2) (ty := .object "KnobMenu$Item") C m_10 ce_10 rfl in_X2 tyX2_ok nmX2 (by decide) (fun _ h9 => h9) rfl (by decide +kernel) (Nat.le_of_ble_eq_true rfl) rfl rfl (fun z h => cel_ksh h) hl (by cases o <;> rfl) (by cases o <;> rfl) d kk
theorem put_X4_9 (C : CX G A own cc nL p s m args c) {idx i : Nat} {x : Int32} (hi : i < Kn a) (hl : Cond.fieldLink own idx "KnobMenu$Item" "childCount" "I" ∈ BIG) (hn : narrow .int (.int x) = .int x) (hf : fits .int (.int x) = true) (d : decode cc pc = .ok (.putfield idx, 3)) (kk : J p l e R s m args below meth c G A nL Q k n ad (sKit a i 9 x) b (pc + 3) (lv) (st)) : J p l e R s m args below meth c G A nL Q k n ad a b (pc) (lv) (.int x :: .ref (ad (ip i)) :: st) := j_put (a' := sKit a i 9 x) (b' := b) (q := ip i) (kf := 9) (T := TX4) (N := 13) (RC := RX4) C (mem_ip hi) ce_item rfl in_X4 tyX4_ok nmX4 (by decide) (fun _ h9 => h9) rfl (by decide +kernel) (Nat.le_of_ble_eq_true rfl) rfl (by rw [ce_item]; simp [Kit, Kmn, sKit, up2]) (fun z h => cel_kit h) hl hn hf d kk
theorem put_X4_10 (C : CX G A own cc nL p s m args c) {idx i : Nat} {x : Int32} (hi : i < Kn a) (hl : Cond.fieldLink own idx "KnobMenu$Item" "value" "I" ∈ BIG) (hn : narrow .int (.int x) = .int x) (hf : fits .int (.int x) = true) (d : decode cc pc = .ok (.putfield idx, 3)) (kk : J p l e R s m args below meth c G A nL Q k n ad (sKit a i 10 x) b (pc + 3) (lv) (st)) : J p l e R s m args below meth c G A nL Q k n ad a b (pc) (lv) (.int x :: .ref (ad (ip i)) :: st) := j_put (a' := sKit a i 10 x) (b' := b) (q := ip i) (kf := 10) (T := TX4) (N := 13) (RC := RX4) C (mem_ip hi) ce_item rfl in_X4 tyX4_ok nmX4 (by decide) (fun _ h9 => h9) rfl (by decide +kernel) (Nat.le_of_ble_eq_true rfl) rfl (by rw [ce_item]; simp [Kit, Kmn, sKit, up2]) (fun z h => cel_kit h) hl hn hf d kk
theorem put_X4_11 (C : CX G A own cc nL p s m args c) {idx i : Nat} {x : Int32} (hi : i < Kn a) (hl : Cond.fieldLink own idx "KnobMenu$Item" "code" "I" ∈ BIG) (hn : narrow .int (.int x) = .int x) (hf : fits .int (.int x) = true) (d : decode cc pc = .ok (.putfield idx, 3)) (kk : J p l e R s m args below meth c G A nL Q k n ad (sKit a i 11 x) b (pc + 3) (lv) (st)) : J p l e R s m args below meth c G A nL Q k n ad a b (pc) (lv) (.int x :: .ref (ad (ip i)) :: st) := j_put (a' := sKit a i 11 x) (b' := b) (q := ip i) (kf := 11) (T := TX4) (N := 13) (RC := RX4) C (mem_ip hi) ce_item rfl in_X4 tyX4_ok nmX4 (by decide) (fun _ h9 => h9) rfl (by decide +kernel) (Nat.le_of_ble_eq_true rfl) rfl (by rw [ce_item]; simp [Kit, Kmn, sKit, up2]) (fun z h => cel_kit h) hl hn hf d kk
theorem put_X4_12 (C : CX G A own cc nL p s m args c) {idx i : Nat} {x : Int32} (hi : i < Kn a) (hl : Cond.fieldLink own idx "KnobMenu$Item" "open" "Z" ∈ BIG) (hn : narrow .boolean (.int x) = .int x) (hf : fits .boolean (.int x) = true) (d : decode cc pc = .ok (.putfield idx, 3)) (kk : J p l e R s m args below meth c G A nL Q k n ad (sKit a i 12 x) b (pc + 3) (lv) (st)) : J p l e R s m args below meth c G A nL Q k n ad a b (pc) (lv) (.int x :: .ref (ad (ip i)) :: st) := j_put (a' := sKit a i 12 x) (b' := b) (q := ip i) (kf := 12) (T := TX4) (N := 13) (RC := RX4) C (mem_ip hi) ce_item rfl in_X4 tyX4_ok nmX4 (by decide) (fun _ h9 => h9) rfl (by decide +kernel) (Nat.le_of_ble_eq_true rfl) rfl (by rw [ce_item]; simp [Kit, Kmn, sKit, up2]) (fun z h => cel_kit h) hl hn hf d kk
theorem put_X5_1 (C : CX G A own cc nL p s m args c) {idx q : Nat} {x : Int32} (hq : okp q = true) (hl : Cond.fieldLink own idx "KnobMenu$Preset" "count" "I" ∈ BIG) (hn : narrow .int (.int x) = .int x) (hf : fits .int (.int x) = true) (d : decode cc pc = .ok (.putfield idx, 3)) (kk : J p l e R s m args below meth c G A nL Q k n ad (sKhi a q 1 x) b (pc + 3) (lv) (st)) : J p l e R s m args below meth c G A nL Q k n ad a b (pc) (lv) (.int x :: .ref (ad q) :: st) := j_put (a' := sKhi a q 1 x) (b' := b) (q := q) (kf := 1) (T := TX5) (N := 3) (RC := RX5) C (m_pre hq) (ce_pre hq) rfl in_X5 tyX5_ok nmX5 (by decide) (fun _ h9 => h9) rfl (by decide +kernel) (Nat.le_of_ble_eq_true rfl) rfl (by rw [ce_pre hq]; simp [Khi, sKhi, up2]) (fun z h => cel_khi h) hl hn hf d kk
theorem put_X5_2 (C : CX G A own cc nL p s m args c) {idx q : Nat} {x : Int32} (hq : okp q = true) (hl : Cond.fieldLink own idx "KnobMenu$Preset" "saved" "Z" ∈ BIG) (hn : narrow .boolean (.int x) = .int x) (hf : fits .boolean (.int x) = true) (d : decode cc pc = .ok (.putfield idx, 3)) (kk : J p l e R s m args below meth c G A nL Q k n ad (sKhi a q 2 x) b (pc + 3) (lv) (st)) : J p l e R s m args below meth c G A nL Q k n ad a b (pc) (lv) (.int x :: .ref (ad q) :: st) := j_put (a' := sKhi a q 2 x) (b' := b) (q := q) (kf := 2) (T := TX5) (N := 3) (RC := RX5) C (m_pre hq) (ce_pre hq) rfl in_X5 tyX5_ok nmX5 (by decide) (fun _ h9 => h9) rfl (by decide +kernel) (Nat.le_of_ble_eq_true rfl) rfl (by rw [ce_pre hq]; simp [Khi, sKhi, up2]) (fun z h => cel_khi h) hl hn hf d kk
theorem ast_5 (C : CX G A own cc nL p s m args c) {X : Type} {y : Option X} {r : X} {i x : Int32} (hf : gd (inb i 8) y = some r) (d : decode cc pc = .ok (.iastore, 1)) (kk : y = some r → J p l e R s m args below meth c G A nL Q k n ad (sKhi a 5 i.toNatClampNeg x) b (pc + 1) (lv) (st)) : J p l e R s m args below meth c G A nL Q k n ad a b (pc) (lv) (.int x :: .int i :: .ref (ad 5) :: st) := j_iast (q := 5) (a' := sKhi a 5 i.toNatClampNeg x) (b' := b) C m_5 ce_5 rfl (fun _ => by rw [ce_5]; exact congrArg (arI (G.2.1 0) 8) (by rw [upd_up1]; exact (up2_eq (f := Khi a) (p := 5)).symm)) (fun z h => cel_khi h) hf d kk
theorem ast_7 (C : CX G A own cc nL p s m args c) {X : Type} {y : Option X} {r : X} {i x : Int32} (hf : gd (inb i 24) y = some r) (d : decode cc pc = .ok (.iastore, 1)) (kk : y = some r → J p l e R s m args below meth c G A nL Q k n ad (sKhi a 7 i.toNatClampNeg x) b (pc + 1) (lv) (st)) : J p l e R s m args below meth c G A nL Q k n ad a b (pc) (lv) (.int x :: .int i :: .ref (ad 7) :: st) := j_iast (q := 7) (a' := sKhi a 7 i.toNatClampNeg x) (b' := b) C m_7 ce_7 rfl (fun _ => by rw [ce_7]; exact congrArg (arI (G.2.1 0) 24) (by rw [upd_up1]; exact (up2_eq (f := Khi a) (p := 7)).symm)) (fun z h => cel_khi h) hf d kk
theorem ast_9 (C : CX G A own cc nL p s m args c) {X : Type} {y : Option X} {r : X} {i x : Int32} (hf : gd (inb i 24) y = some r) (d : decode cc pc = .ok (.iastore, 1)) (kk : y = some r → J p l e R s m args below meth c G A nL Q k n ad (sKhi a 9 i.toNatClampNeg x) b (pc + 1) (lv) (st)) : J p l e R s m args below meth c G A nL Q k n ad a b (pc) (lv) (.int x :: .int i :: .ref (ad 9) :: st) := j_iast (q := 9) (a' := sKhi a 9 i.toNatClampNeg x) (b' := b) C m_9 ce_9 rfl (fun _ => by rw [ce_9]; exact congrArg (arI (G.2.1 0) 24) (by rw [upd_up1]; exact (up2_eq (f := Khi a) (p := 9)).symm)) (fun z h => cel_khi h) hf d kk
theorem ast_11 (C : CX G A own cc nL p s m args c) {X : Type} {y : Option X} {r : X} {i x : Int32} (hf : gd (inb i 4) y = some r) (d : decode cc pc = .ok (.iastore, 1)) (kk : y = some r → J p l e R s m args below meth c G A nL Q k n ad (sKhi a 11 i.toNatClampNeg x) b (pc + 1) (lv) (st)) : J p l e R s m args below meth c G A nL Q k n ad a b (pc) (lv) (.int x :: .int i :: .ref (ad 11) :: st) := j_iast (q := 11) (a' := sKhi a 11 i.toNatClampNeg x) (b' := b) C m_11 ce_11 rfl (fun _ => by rw [ce_11]; exact congrArg (arI (G.2.1 0) 4) (by rw [upd_up1]; exact (up2_eq (f := Khi a) (p := 11)).symm)) (fun z h => cel_khi h) hf d kk
theorem ast_12 (C : CX G A own cc nL p s m args c) {X : Type} {y : Option X} {r : X} {i x : Int32} (hf : gd (inb i 3) y = some r) (d : decode cc pc = .ok (.iastore, 1)) (kk : y = some r → J p l e R s m args below meth c G A nL Q k n ad (sKhi a 12 i.toNatClampNeg x) b (pc + 1) (lv) (st)) : J p l e R s m args below meth c G A nL Q k n ad a b (pc) (lv) (.int x :: .int i :: .ref (ad 12) :: st) := j_iast (q := 12) (a' := sKhi a 12 i.toNatClampNeg x) (b' := b) C m_12 ce_12 rfl (fun _ => by rw [ce_12]; exact congrArg (arI (G.2.1 0) 3) (by rw [upd_up1]; exact (up2_eq (f := Khi a) (p := 12)).symm)) (fun z h => cel_khi h) hf d kk
theorem ast_13 (C : CX G A own cc nL p s m args c) {X : Type} {y : Option X} {r : X} {i x : Int32} (hf : gd (inb i 8) y = some r) (d : decode cc pc = .ok (.iastore, 1)) (kk : y = some r → J p l e R s m args below meth c G A nL Q k n ad (sKhi a 13 i.toNatClampNeg x) b (pc + 1) (lv) (st)) : J p l e R s m args below meth c G A nL Q k n ad a b (pc) (lv) (.int x :: .int i :: .ref (ad 13) :: st) := j_iast (q := 13) (a' := sKhi a 13 i.toNatClampNeg x) (b' := b) C m_13 ce_13 rfl (fun _ => by rw [ce_13]; exact congrArg (arI (G.2.1 0) 8) (by rw [upd_up1]; exact (up2_eq (f := Khi a) (p := 13)).symm)) (fun z h => cel_khi h) hf d kk
theorem ast_15 (C : CX G A own cc nL p s m args c) {X : Type} {y : Option X} {r : X} {i x : Int32} (hf : gd (inb i 32) y = some r) (d : decode cc pc = .ok (.castore, 1)) (kk : y = some r → J p l e R s m args below meth c G A nL Q k n ad (sKhi a 15 i.toNatClampNeg (vp_nar .char x)) b (pc + 1) (lv) (st)) : J p l e R s m args below meth c G A nL Q k n ad a b (pc) (lv) (.int x :: .int i :: .ref (ad 15) :: st) := j_cast (q := 15) (a' := sKhi a 15 i.toNatClampNeg (vp_nar .char x)) (b' := b) C m_15 ce_15 rfl (fun _ => by rw [ce_15]; exact congrArg (arI (G.2.1 1) 32) (by rw [upd_up1]; exact (up2_eq (f := Khi a) (p := 15)).symm)) (fun z h => cel_khi h) hf d kk
theorem ast_17 (C : CX G A own cc nL p s m args c) {X : Type} {y : Option X} {r : X} {i x : Int32} (hf : gd (inb i 60) y = some r) (d : decode cc pc = .ok (.castore, 1)) (kk : y = some r → J p l e R s m args below meth c G A nL Q k n ad (sKhi a 17 i.toNatClampNeg (vp_nar .char x)) b (pc + 1) (lv) (st)) : J p l e R s m args below meth c G A nL Q k n ad a b (pc) (lv) (.int x :: .int i :: .ref (ad 17) :: st) := j_cast (q := 17) (a' := sKhi a 17 i.toNatClampNeg (vp_nar .char x)) (b' := b) C m_17 ce_17 rfl (fun _ => by rw [ce_17]; exact congrArg (arI (G.2.1 1) 60) (by rw [upd_up1]; exact (up2_eq (f := Khi a) (p := 17)).symm)) (fun z h => cel_khi h) hf d kk
theorem ast_prea (C : CX G A own cc nL p s m args c) {X : Type} {y : Option X} {r : X} {q : Nat} {i x : Int32} (hq : okp q = true) (hf : gd (inb i 24) y = some r) (d : decode cc pc = .ok (.iastore, 1)) (kk : y = some r → J p l e R s m args below meth c G A nL Q k n ad (sKhi a (q + 1) i.toNatClampNeg x) b (pc + 1) (lv) (st)) : J p l e R s m args below meth c G A nL Q k n ad a b (pc) (lv) (.int x :: .int i :: .ref (ad (q + 1)) :: st) := j_iast (q := q + 1) (a' := sKhi a (q + 1) i.toNatClampNeg x) (b' := b) C (m_prea hq) (ce_prea hq) rfl (fun _ => by rw [ce_prea hq]; exact congrArg (arI (G.2.1 0) 24) (by rw [upd_up1]; exact (up2_eq (f := Khi a) (p := q + 1)).symm)) (fun z h => cel_khi h) hf d kk
theorem j_aast (C : CX G A own cc nL p s m args c) {a' : KS} {X : Type} {y : Option X} {r : X} {q N w : Nat} {f : Nat → Option Nat} {i : Int32} (hq : q ∈ pls (Kn a)) (hcel : cel G ad a b q = arR (G.2.1 4) N f) (hw : w < Kn a) (hN : Kn a' = Kn a) (hnew : arR (G.2.1 4) N (va_up f i.toNatClampNeg (some (ad (ip w)))) = cel G ad a' b q) (hold : ∀ z, z ≠ q → cel G ad a b z = cel G ad a' b z) (hf : gd (inb i N) y = some r) (d : decode cc pc = .ok (.aastore, 1)) (kk : y = some r → J p l e R s m args below meth c G A nL Q k n ad a' b (pc + 1) (lv) (st)) : J p l e R s m args below meth c G A nL Q k n ad a b (pc) (lv) (.ref (ad (ip w)) :: .int i :: .ref (ad q) :: st) := fun H locs ls hP hD hS hl => by
  obtain ⟨h0, hf⟩ := gd_some hf
  obtain ⟨k0, hk0, hk1⟩ := wd_get (G := G) (ad := ad) (b := b) hq
  obtain ⟨k2, hk2, hk3⟩ := wd_get (G := G) (ad := ad) (b := b) (mem_ip hw)
  rw [hcel] at hk1
  rw [ce_item] at hk3
  refine va_astq (D := G.1) (r := (RX4, TX4, 13)) C.1 C.2.1 C.2.2.2.2.2.1 hP hD hS k0 4 k2 4 hk1 rfl hk3 rfl (inb_in h0) d (fun H1 locs1 hP1 hD1 hS1 => ?_)
  have e := wd_set (G := G) (ad := ad) hk0 hN hnew hold
  rw [e] at hP1 hD1
  exact kk hf H1 locs1 ls hP1 hD1 hS1 hl
theorem ast_2 (C : CX G A own cc nL p s m args c) {X : Type} {y : Option X} {r : X} {w : Nat} {i : Int32} (hw : w < Kn a) (hf : gd (inb i 24) y = some r) (d : decode cc pc = .ok (.aastore, 1)) (kk : y = some r → J p l e R s m args below meth c G A nL Q k n ad (sKti a i.toNatClampNeg (some w)) b (pc + 1) (lv) (st)) : J p l e R s m args below meth c G A nL Q k n ad a b (pc) (lv) (.ref (ad (ip w)) :: .int i :: .ref (ad 2) :: st) := j_aast (q := 2) (a' := sKti a i.toNatClampNeg (some w)) C m_2 ce_2 hw rfl (by rw [ce_2, va_up_itr]; rfl) (fun z h => cel_kti h) hf d kk
theorem ast_4 (C : CX G A own cc nL p s m args c) {X : Type} {y : Option X} {r : X} {w : Nat} {i : Int32} (hw : w < Kn a) (hf : gd (inb i 8) y = some r) (d : decode cc pc = .ok (.aastore, 1)) (kk : y = some r → J p l e R s m args below meth c G A nL Q k n ad (sKlg a i.toNatClampNeg (some w)) b (pc + 1) (lv) (st)) : J p l e R s m args below meth c G A nL Q k n ad a b (pc) (lv) (.ref (ad (ip w)) :: .int i :: .ref (ad 4) :: st) := j_aast (q := 4) (a' := sKlg a i.toNatClampNeg (some w)) C m_4 ce_4 hw rfl (by rw [ce_4, va_up_itr]; rfl) (fun z h => cel_klg h) hf d kk
theorem ast_chil (C : CX G A own cc nL p s m args c) {X : Type} {y : Option X} {r : X} {j w : Nat} {i : Int32} (hj : j < Kn a) (hw : w < Kn a) (hf : gd (inb i 8) y = some r) (d : decode cc pc = .ok (.aastore, 1)) (kk : y = some r → J p l e R s m args below meth c G A nL Q k n ad (sKch a j i.toNatClampNeg (some w)) b (pc + 1) (lv) (st)) : J p l e R s m args below meth c G A nL Q k n ad a b (pc) (lv) (.ref (ad (ip w)) :: .int i :: .ref (ad (cp j)) :: st) := j_aast (q := cp j) (a' := sKch a j i.toNatClampNeg (some w)) C (mem_cp hj) ce_chil hw rfl (by rw [ce_chil, va_up_itr]; exact congrArg (arR (G.2.1 4) 8) (by funext z; exact congrArg (itr ad) (congrFun (up2_eq (f := Kch a) (p := j)).symm z))) (fun z h => cel_kch h) hf d kk
end CE
