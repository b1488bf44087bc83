set_option maxRecDepth 100000 in
set_option maxHeartbeats 4000000 in
theorem w_X6_clear_2 {b : MS} {p : Program} {l : Launch} {e : Env} {s : State} {m : MethodId} {args : Array Value} {below : List Frame} {meth : Method} {c : Code} {G : GT} {A : Nat → Prop} {ad : Nat → Nat} (C : CX G A RX6 cX6_clear 2 p s m args c) (hr : meth.sig.returnType = none) (hk : meth.locks = false) {rr : KS} (c2 : KS → Int32 → Option KS) (K2 : ∀ (a : KS) (v1 : Int32), c2 a v1 = some rr → J p l e (RM 0) s m args below meth c G A 2 (MQ below (QV (none) (PosW G ad rr b A) A) args s 0 0 A) 0 0 ad a b 2 [(0, .ref (ad 14)), (1, .int v1)] []) (a : KS) (v1 : Int32) (hf : f_X6_clear_2 c2 a v1 = some rr) : J p l e (RM 0) s m args below meth c G A 2 (MQ below (QV (none) (PosW G ad rr b A) A) args s 0 0 A) 0 0 ad a b 2 [(0, .ref (ad 14)), (1, .int v1)] [] := by
  unfold f_X6_clear_2 at hf
  refine j_iload_n C 1 rfl dX6_clear_2 ?_
  refine j_aload_n C 0 rfl dX6_clear_3 ?_
  refine j_get (q := 14) (kf := 0) (T := TX6) (N := 1) (RC := RX6) C m_14 ce_14 rfl in_X6 (by decide) (fun _ h9 => h9) fl_X6_9 rfl dX6_clear_4 ?_
  refine j_alen (q := 15) (t0 := 1) (v := 32) C m_15 ce_15 rfl rfl dX6_clear_7 ?_
  refine j_icmp_ge C 25 dX6_clear_8 (by decide) hf (fun y1 hf => ?_) (fun y1 hf => ?_)
  · obtain rfl := Option.some.inj hf
    exact j_vret C hr hk ⟨Nat.le_of_ble_eq_true rfl, Nat.le_of_ble_eq_true rfl⟩ rfl dX6_clear_25
  · refine j_aload_n C 0 rfl dX6_clear_11 ?_
    refine j_get (q := 14) (kf := 0) (T := TX6) (N := 1) (RC := RX6) C m_14 ce_14 rfl in_X6 (by decide) (fun _ h9 => h9) fl_X6_9 rfl dX6_clear_12 ?_
    refine j_iload_n C 1 rfl dX6_clear_15 ?_
    refine j_bipush (v := 32) C (by decide) dX6_clear_16 ?_
    refine ast_15 C hf dX6_clear_18 (fun hf => ?_)
    refine j_iinc (v := v1 + 1) (lv' := [(1, .int (v1 + 1)), (0, .ref (ad 14))]) C 1 rfl rfl (by decide) rfl dX6_clear_19 ?_
    refine j_goto C 2 dX6_clear_22 (by decide) ?_
    refine j_sub [1, 0] rfl ?_
    exact K2 (sKhi a 15 (v1.toNatClampNeg) (vp_nar .char 32)) (v1 + 1) hf
theorem wl_X6_clear_2 {b : MS} {p : Program} {l : Launch} {e : Env} {s : State} {m : MethodId} {args : Array Value} {below : List Frame} {meth : Method} {c : Code} {G : GT} {A : Nat → Prop} {ad : Nat → Nat} (C : CX G A RX6 cX6_clear 2 p s m args c) (hr : meth.sig.returnType = none) (hk : meth.locks = false) {rr : KS} (fuel : Nat)   : ∀ (a : KS) (v1 : Int32), l_X6_clear_2 fuel  a v1 = some rr → J p l e (RM 0) s m args below meth c G A 2 (MQ below (QV (none) (PosW G ad rr b A) A) args s 0 0 A) 0 0 ad a b 2 [(0, .ref (ad 14)), (1, .int v1)] [] := by
  induction fuel with
  | zero => intro a v1 hf; cases hf
  | succ n ih =>
    intro a v1 hf
    have hf : f_X6_clear_2 (l_X6_clear_2 n ) a v1 = some rr := hf
    exact w_X6_clear_2 C hr hk (l_X6_clear_2 n ) ih a v1 hf
set_option maxRecDepth 100000 in
set_option maxHeartbeats 4000000 in
theorem k_X6_clear {l : Launch} {G : GT} {ad : Nat → Nat} {a : KS} {b : MS} {rr : KS} (hf : f_X6_clear a = some rr) : MT l G yX6_clear cX6_clear 2 none (RM 0) [.ref (ad 14)] ad a b (none) rr b := by
  refine MT_of (by decide) (Nat.le_of_ble_eq_true rfl) ?_
  intro p e s m args below meth c A C hr hk
  unfold f_X6_clear at hf
  refine j_iconst (v := 0) C (by decide) dX6_clear_0 ?_
  refine j_istore_n (i := 1) (lv' := [(1, .int 0), (0, .ref (ad 14))]) C dX6_clear_1 rfl (by decide) rfl ?_
  refine j_sub [1, 0] rfl ?_
  exact wl_X6_clear_2 C hr hk FU a 0 hf
set_option maxRecDepth 100000 in
set_option maxHeartbeats 4000000 in
theorem k_X6_put {l : Launch} {G : GT} {ad : Nat → Nat} {a : KS} {v1 : Int32} {v2 : Int32} {v3 : Int32} {b : MS} {rr : KS} (hf : f_X6_put a v1 v2 v3 = some rr) : MT l G yX6_put cX6_put 5 none (RM 0) [.ref (ad 14), .int v1, .int v2, .int v3] ad a b (none) rr b := by
  refine MT_of (by decide) (Nat.le_of_ble_eq_true rfl) ?_
  intro p e s m args below meth c A C hr hk
  unfold f_X6_put at hf
  refine j_iload_n C 1 rfl dX6_put_0 ?_
  refine j_bipush (v := 16) C (by decide) dX6_put_1 ?_
  refine j_imul C dX6_put_3 ?_
  refine j_iload_n C 2 rfl dX6_put_4 ?_
  refine j_iadd C dX6_put_5 ?_
  refine j_letI hf (fun x1 hf => ?_)
  refine j_istore (lv' := [(4, .int x1), (0, .ref (ad 14)), (1, .int v1), (2, .int v2), (3, .int v3)]) C dX6_put_6 (by decide) rfl ?_
  refine j_iload C 0 rfl dX6_put_8 ?_
  refine j_if_lt C 31 dX6_put_10 (by decide) hf (fun y2 hf => ?_) (fun y2 hf => ?_)
  · obtain rfl := Option.some.inj hf
    exact j_vret C hr hk ⟨Nat.le_of_ble_eq_true rfl, Nat.le_of_ble_eq_true rfl⟩ rfl dX6_put_31
  · refine j_iload C 0 rfl dX6_put_13 ?_
    refine j_aload_n C 1 rfl dX6_put_15 ?_
    refine j_get (q := 14) (kf := 0) (T := TX6) (N := 1) (RC := RX6) C m_14 ce_14 rfl in_X6 (by decide) (fun _ h9 => h9) fl_X6_9 rfl dX6_put_16 ?_
    refine j_alen (q := 15) (t0 := 1) (v := 32) C m_15 ce_15 rfl rfl dX6_put_19 ?_
    refine j_icmp_ge C 31 dX6_put_20 (by decide) hf (fun y3 hf => ?_) (fun y3 hf => ?_)
    · obtain rfl := Option.some.inj hf
      exact j_vret C hr hk ⟨Nat.le_of_ble_eq_true rfl, Nat.le_of_ble_eq_true rfl⟩ rfl dX6_put_31
    · refine j_aload_n C 1 rfl dX6_put_23 ?_
      refine j_get (q := 14) (kf := 0) (T := TX6) (N := 1) (RC := RX6) C m_14 ce_14 rfl in_X6 (by decide) (fun _ h9 => h9) fl_X6_9 rfl dX6_put_24 ?_
      refine j_iload C 0 rfl dX6_put_27 ?_
      refine j_iload_n C 4 rfl dX6_put_29 ?_
      refine ast_15 C hf dX6_put_30 (fun hf => ?_)
      obtain rfl := Option.some.inj hf
      exact j_vret C hr hk ⟨Nat.le_of_ble_eq_true rfl, Nat.le_of_ble_eq_true rfl⟩ rfl dX6_put_31
set_option maxRecDepth 100000 in
set_option maxHeartbeats 4000000 in
theorem w_X6_write_2 {b : MS} {p : Program} {l : Launch} {e : Env} {s : State} {m : MethodId} {args : Array Value} {below : List Frame} {meth : Method} {c : Code} {G : GT} {A : Nat → Prop} {ad : Nat → Nat} (C : CX G A RX6 cX6_write 4 p s m args c) (hr : meth.sig.returnType = (some .int)) (hk : meth.locks = false) {rr : Int32 × KS} (c2 : KS → Int32 → Nat → Int32 → Option (Int32 × KS)) (K2 : ∀ (a : KS) (v1 : Int32) (v2 : Nat) (v3 : Int32), c2 a v1 v2 v3 = some rr → J p l e (RM 5) s m args below meth c G A 4 (MQ below (QV (some (.int rr.1)) (PosW G ad rr.2 b A) A) args s 0 0 A) 0 0 ad a b 2 [(0, .ref (ad 14)), (1, .int v1), (2, .ref (G.2.2.1 v2)), (3, .int v3)] []) (a : KS) (v1 : Int32) (v2 : Nat) (v3 : Int32) (hf : f_X6_write_2 c2 a v1 v2 v3 = some rr) : J p l e (RM 5) s m args below meth c G A 4 (MQ below (QV (some (.int rr.1)) (PosW G ad rr.2 b A) A) args s 0 0 A) 0 0 ad a b 2 [(0, .ref (ad 14)), (1, .int v1), (2, .ref (G.2.2.1 v2)), (3, .int v3)] [] := by
  unfold f_X6_write_2 at hf
  refine j_iload_n C 3 rfl dX6_write_2 ?_
  refine j_aload_n C (x := G.2.2.1 v2) 2 rfl dX6_write_3 ?_
  obtain ⟨h1, hf⟩ := gd_some hf
  refine j_callT (w := v2) (As := []) (rest := [.int v3]) C (of_decide_eq_true h1) (k_jlen (of_decide_eq_true h1)) cw_jlen ml_X6_59 rfl ⟨Nat.le_of_ble_eq_true rfl, Nat.le_of_ble_eq_true rfl⟩ ⟨Nat.le_of_ble_eq_true rfl, Nat.le_of_ble_eq_true rfl⟩ rfl (Nat.le_of_ble_eq_true rfl) dX6_write_4 ?_
  refine j_icmp_ge C 27 dX6_write_7 (by decide) hf (fun y2 hf => ?_) (fun y2 hf => ?_)
  · refine j_aload_n C (x := G.2.2.1 v2) 2 rfl dX6_write_27 ?_
    obtain ⟨h3, hf⟩ := gd_some hf
    refine j_callT (w := v2) (As := []) (rest := []) C (of_decide_eq_true h3) (k_jlen (of_decide_eq_true h3)) cw_jlen ml_X6_59 rfl ⟨Nat.le_of_ble_eq_true rfl, Nat.le_of_ble_eq_true rfl⟩ ⟨Nat.le_of_ble_eq_true rfl, Nat.le_of_ble_eq_true rfl⟩ rfl (Nat.le_of_ble_eq_true rfl) dX6_write_28 ?_
    obtain rfl := Option.some.inj hf
    exact j_iret C hr hk ⟨Nat.le_of_ble_eq_true rfl, Nat.le_of_ble_eq_true rfl⟩ rfl dX6_write_31
  · refine j_aload_n C 0 rfl dX6_write_10 ?_
    refine j_iload_n C 1 rfl dX6_write_11 ?_
    refine j_iload_n C 3 rfl dX6_write_12 ?_
    refine j_aload_n C (x := G.2.2.1 v2) 2 rfl dX6_write_13 ?_
    refine j_iload_n C 3 rfl dX6_write_14 ?_
    obtain ⟨h4, hf⟩ := gd_some hf
    obtain ⟨h5, hf⟩ := gd_some hf
    refine j_callT (w := v2) (As := [.int v3]) (rest := [.int v3, .int v1, .ref (ad 14)]) C (of_decide_eq_true h4) (k_jchar (of_decide_eq_true h4) h5) cw_jchar ml_X6_65 rfl ⟨Nat.le_of_ble_eq_true rfl, Nat.le_of_ble_eq_true rfl⟩ ⟨Nat.le_of_ble_eq_true rfl, Nat.le_of_ble_eq_true rfl⟩ rfl (Nat.le_of_ble_eq_true rfl) dX6_write_15 ?_
    obtain ⟨z6, h7, hf⟩ := bnd_some hf
    refine j_callV (q := 14) (As := [.int v1, .int v3, .int (schar v2 v3)]) (rest := []) C (k_X6_put h7) cw_X6_put ml_X6_69 m_14 ce_14 rfl rfl ⟨Nat.le_of_ble_eq_true rfl, Nat.le_of_ble_eq_true rfl⟩ ⟨Nat.le_of_ble_eq_true rfl, Nat.le_of_ble_eq_true rfl⟩ rfl (Nat.le_of_ble_eq_true rfl) dX6_write_18 ?_
    refine j_iinc (v := v3 + 1) (lv' := [(3, .int (v3 + 1)), (0, .ref (ad 14)), (1, .int v1), (2, .ref (G.2.2.1 v2))]) C 3 rfl rfl (by decide) rfl dX6_write_21 ?_
    refine j_goto C 2 dX6_write_24 (by decide) ?_
    refine j_sub [1, 2, 3, 0] rfl ?_
    exact K2 z6 v1 v2 (v3 + 1) hf
theorem wl_X6_write_2 {b : MS} {p : Program} {l : Launch} {e : Env} {s : State} {m : MethodId} {args : Array Value} {below : List Frame} {meth : Method} {c : Code} {G : GT} {A : Nat → Prop} {ad : Nat → Nat} (C : CX G A RX6 cX6_write 4 p s m args c) (hr : meth.sig.returnType = (some .int)) (hk : meth.locks = false) {rr : Int32 × KS} (fuel : Nat)   : ∀ (a : KS) (v1 : Int32) (v2 : Nat) (v3 : Int32), l_X6_write_2 fuel  a v1 v2 v3 = some rr → J p l e (RM 5) s m args below meth c G A 4 (MQ below (QV (some (.int rr.1)) (PosW G ad rr.2 b A) A) args s 0 0 A) 0 0 ad a b 2 [(0, .ref (ad 14)), (1, .int v1), (2, .ref (G.2.2.1 v2)), (3, .int v3)] [] := by
  induction fuel with
  | zero => intro a v1 v2 v3 hf; cases hf
  | succ n ih =>
    intro a v1 v2 v3 hf
    have hf : f_X6_write_2 (l_X6_write_2 n ) a v1 v2 v3 = some rr := hf
    exact w_X6_write_2 C hr hk (l_X6_write_2 n ) ih a v1 v2 v3 hf
set_option maxRecDepth 100000 in
set_option maxHeartbeats 4000000 in
theorem k_X6_write {l : Launch} {G : GT} {ad : Nat → Nat} {a : KS} {v1 : Int32} {v2 : Nat} {b : MS} {rr : Int32 × KS} (hf : f_X6_write a v1 v2 = some rr) : MT l G yX6_write cX6_write 4 (some .int) (RM 5) [.ref (ad 14), .int v1, .ref (G.2.2.1 v2)] ad a b (some (.int rr.1)) rr.2 b := by
  refine MT_of (by decide) (Nat.le_of_ble_eq_true rfl) ?_
  intro p e s m args below meth c A C hr hk
  unfold f_X6_write at hf
  refine j_iconst (v := 0) C (by decide) dX6_write_0 ?_
  refine j_istore_n (i := 3) (lv' := [(3, .int 0), (0, .ref (ad 14)), (1, .int v1), (2, .ref (G.2.2.1 v2))]) C dX6_write_1 rfl (by decide) rfl ?_
  refine j_sub [1, 2, 3, 0] rfl ?_
  exact wl_X6_write_2 C hr hk FU a v1 v2 0 hf
set_option maxRecDepth 100000 in
set_option maxHeartbeats 4000000 in
theorem w_X6_writeEndingAt_45 {b : MS} {p : Program} {l : Launch} {e : Env} {s : State} {m : MethodId} {args : Array Value} {below : List Frame} {meth : Method} {c : Code} {G : GT} {A : Nat → Prop} {ad : Nat → Nat} (C : CX G A RX6 cX6_writeEndingAt 6 p s m args c) (hr : meth.sig.returnType = none) (hk : meth.locks = false) {rr : KS}   (a : KS) (v1 : Int32) (v3 : Int32) (v5 : Int32) (hf : f_X6_writeEndingAt_45 a v1 v3 v5 = some rr) : J p l e (RM 1) s m args below meth c G A 6 (MQ below (QV (none) (PosW G ad rr b A) A) args s 0 0 A) 0 0 ad a b 45 [(0, .ref (ad 14)), (1, .int v1), (3, .int v3), (5, .int v5)] [] := by
  unfold f_X6_writeEndingAt_45 at hf
  refine j_iload_n C 2 rfl dX6_writeEndingAt_45 ?_
  refine j_if_ge C 58 dX6_writeEndingAt_46 (by decide) hf (fun y1 hf => ?_) (fun y1 hf => ?_)
  · obtain rfl := Option.some.inj hf
    exact j_vret C hr hk ⟨Nat.le_of_ble_eq_true rfl, Nat.le_of_ble_eq_true rfl⟩ rfl dX6_writeEndingAt_58
  · refine j_aload_n C 0 rfl dX6_writeEndingAt_49 ?_
    refine j_iload_n C 1 rfl dX6_writeEndingAt_50 ?_
    refine j_iload C 3 rfl dX6_writeEndingAt_51 ?_
    refine j_bipush (v := 45) C (by decide) dX6_writeEndingAt_53 ?_
    obtain ⟨z2, h3, hf⟩ := bnd_some hf
    refine j_callV (q := 14) (As := [.int v1, .int v5, .int 45]) (rest := []) C (k_X6_put h3) cw_X6_put ml_X6_69 m_14 ce_14 rfl rfl ⟨Nat.le_of_ble_eq_true rfl, Nat.le_of_ble_eq_true rfl⟩ ⟨Nat.le_of_ble_eq_true rfl, Nat.le_of_ble_eq_true rfl⟩ rfl (Nat.le_of_ble_eq_true rfl) dX6_writeEndingAt_55 ?_
    obtain rfl := Option.some.inj hf
    exact j_vret C hr hk ⟨Nat.le_of_ble_eq_true rfl, Nat.le_of_ble_eq_true rfl⟩ rfl dX6_writeEndingAt_58
set_option maxRecDepth 100000 in
set_option maxHeartbeats 4000000 in
theorem w_X6_writeEndingAt_9 {b : MS} {p : Program} {l : Launch} {e : Env} {s : State} {m : MethodId} {args : Array Value} {below : List Frame} {meth : Method} {c : Code} {G : GT} {A : Nat → Prop} {ad : Nat → Nat} (C : CX G A RX6 cX6_writeEndingAt 6 p s m args c) (hr : meth.sig.returnType = none) (hk : meth.locks = false) {rr : KS} (c9 : KS → Int32 → Int32 → Int32 → Int32 → Option KS) (K9 : ∀ (a : KS) (v1 : Int32) (v3 : Int32) (v4 : Int32) (v5 : Int32), c9 a v1 v3 v4 v5 = some rr → J p l e (RM 1) s m args below meth c G A 6 (MQ below (QV (none) (PosW G ad rr b A) A) args s 0 0 A) 0 0 ad a b 9 [(0, .ref (ad 14)), (1, .int v1), (3, .int v3), (4, .int v4), (5, .int v5)] []) (a : KS) (v1 : Int32) (v3 : Int32) (v4 : Int32) (v5 : Int32) (hf : f_X6_writeEndingAt_9 c9 a v1 v3 v4 v5 = some rr) : J p l e (RM 1) s m args below meth c G A 6 (MQ below (QV (none) (PosW G ad rr b A) A) args s 0 0 A) 0 0 ad a b 9 [(0, .ref (ad 14)), (1, .int v1), (3, .int v3), (4, .int v4), (5, .int v5)] [] := by
  unfold f_X6_writeEndingAt_9 at hf
  refine j_aload_n C 0 rfl dX6_writeEndingAt_9 ?_
  refine j_iload_n C 1 rfl dX6_writeEndingAt_10 ?_
  refine j_iload C 4 rfl dX6_writeEndingAt_11 ?_
  refine j_bipush (v := 48) C (by decide) dX6_writeEndingAt_13 ?_
  refine j_iload C 3 rfl dX6_writeEndingAt_15 ?_
  refine j_bipush (v := 10) C (by decide) dX6_writeEndingAt_17 ?_
  refine j_irem C (by decide) dX6_writeEndingAt_19 ?_
  refine j_iadd C dX6_writeEndingAt_20 ?_
  refine j_i2c C dX6_writeEndingAt_21 ?_
  obtain ⟨z2, h3, hf⟩ := bnd_some hf
  refine j_callV (q := 14) (As := [.int v1, .int v5, .int (((48 + (v4 - v4 / 10 * 10)).toUInt32 % 65536).toInt32)]) (rest := []) C (k_X6_put h3) cw_X6_put ml_X6_69 m_14 ce_14 rfl rfl ⟨Nat.le_of_ble_eq_true rfl, Nat.le_of_ble_eq_true rfl⟩ ⟨Nat.le_of_ble_eq_true rfl, Nat.le_of_ble_eq_true rfl⟩ rfl (Nat.le_of_ble_eq_true rfl) dX6_writeEndingAt_22 ?_
  refine j_iload C 3 rfl dX6_writeEndingAt_25 ?_
  refine j_bipush (v := 10) C (by decide) dX6_writeEndingAt_27 ?_
  refine j_idiv C (by decide) dX6_writeEndingAt_29 ?_
  refine j_letI hf (fun x8 hf => ?_)
  refine j_istore (lv' := [(4, .int x8), (0, .ref (ad 14)), (1, .int v1), (3, .int v3), (5, .int v5)]) C dX6_writeEndingAt_30 (by decide) rfl ?_
  refine j_iinc (v := v5 + (-1)) (lv' := [(5, .int (v5 + (-1))), (4, .int x8), (0, .ref (ad 14)), (1, .int v1), (3, .int v3)]) C 4 rfl (ii_m1 _) (by decide) rfl dX6_writeEndingAt_32 ?_
  refine j_iload C 1 rfl dX6_writeEndingAt_35 ?_
  refine j_if_le C 45 dX6_writeEndingAt_37 (by decide) hf (fun y9 hf => ?_) (fun y9 hf => ?_)
  · refine j_sub [2, 3, 4, 0] rfl ?_
    exact w_X6_writeEndingAt_45 C hr hk z2 v1 v3 (v5 + (-1)) hf
  · refine j_iload C 0 rfl dX6_writeEndingAt_40 ?_
    refine j_if_gt C 9 dX6_writeEndingAt_42 (by decide) hf (fun y10 hf => ?_) (fun y10 hf => ?_)
    · refine j_sub [2, 3, 4, 1, 0] rfl ?_
      exact K9 z2 v1 v3 x8 (v5 + (-1)) hf
    · refine j_sub [2, 3, 4, 0] rfl ?_
      exact w_X6_writeEndingAt_45 C hr hk z2 v1 v3 (v5 + (-1)) hf
theorem wl_X6_writeEndingAt_9 {b : MS} {p : Program} {l : Launch} {e : Env} {s : State} {m : MethodId} {args : Array Value} {below : List Frame} {meth : Method} {c : Code} {G : GT} {A : Nat → Prop} {ad : Nat → Nat} (C : CX G A RX6 cX6_writeEndingAt 6 p s m args c) (hr : meth.sig.returnType = none) (hk : meth.locks = false) {rr : KS} (fuel : Nat)   : ∀ (a : KS) (v1 : Int32) (v3 : Int32) (v4 : Int32) (v5 : Int32), l_X6_writeEndingAt_9 fuel  a v1 v3 v4 v5 = some rr → J p l e (RM 1) s m args below meth c G A 6 (MQ below (QV (none) (PosW G ad rr b A) A) args s 0 0 A) 0 0 ad a b 9 [(0, .ref (ad 14)), (1, .int v1), (3, .int v3), (4, .int v4), (5, .int v5)] [] := by
  induction fuel with
  | zero => intro a v1 v3 v4 v5 hf; cases hf
  | succ n ih =>
    intro a v1 v3 v4 v5 hf
    have hf : f_X6_writeEndingAt_9 (l_X6_writeEndingAt_9 n ) a v1 v3 v4 v5 = some rr := hf
    exact w_X6_writeEndingAt_9 C hr hk (l_X6_writeEndingAt_9 n ) ih a v1 v3 v4 v5 hf
set_option maxRecDepth 100000 in
set_option maxHeartbeats 4000000 in
theorem k_X6_writeEndingAt {l : Launch} {G : GT} {ad : Nat → Nat} {a : KS} {v1 : Int32} {v2 : Int32} {v3 : Int32} {b : MS} {rr : KS} (hf : f_X6_writeEndingAt a v1 v2 v3 = some rr) : MT l G yX6_writeEndingAt cX6_writeEndingAt 6 none (RM 1) [.ref (ad 14), .int v1, .int v2, .int v3] ad a b (none) rr b := by
  refine MT_of (by decide) (Nat.le_of_ble_eq_true rfl) ?_
  intro p e s m args below meth c A C hr hk
  unfold f_X6_writeEndingAt at hf
  refine j_iload_n C 3 rfl dX6_writeEndingAt_0 ?_
  refine j_mabs C ml_X6_73 ⟨Nat.le_of_ble_eq_true rfl, Nat.le_of_ble_eq_true rfl, Nat.le_of_ble_eq_true rfl, Nat.le_of_ble_eq_true rfl⟩ dX6_writeEndingAt_1 ?_
  refine j_letI hf (fun x1 hf => ?_)
  refine j_istore (lv' := [(4, .int x1), (0, .ref (ad 14)), (1, .int v1), (2, .int v2), (3, .int v3)]) C dX6_writeEndingAt_4 (by decide) rfl ?_
  refine j_iload_n C 3 rfl dX6_writeEndingAt_6 ?_
  refine j_istore (lv' := [(5, .int v2), (4, .int x1), (0, .ref (ad 14)), (1, .int v1), (2, .int v2), (3, .int v3)]) C dX6_writeEndingAt_7 (by decide) rfl ?_
  refine j_sub [2, 3, 5, 1, 0] rfl ?_
  exact wl_X6_writeEndingAt_9 C hr hk FU a v1 v3 x1 v2 hf
set_option maxRecDepth 100000 in
set_option maxHeartbeats 4000000 in
theorem w_X6_writeNumbered_25 {b : MS} {p : Program} {l : Launch} {e : Env} {s : State} {m : MethodId} {args : Array Value} {below : List Frame} {meth : Method} {c : Code} {G : GT} {A : Nat → Prop} {ad : Nat → Nat} (C : CX G A RX6 cX6_writeNumbered 5 p s m args c) (hr : meth.sig.returnType = none) (hk : meth.locks = false) {rr : KS}   (a : KS) (v3 : Int32) (s1 : Int32) (s2 : Int32) (hf : f_X6_writeNumbered_25 a v3 s1 s2 = some rr) : J p l e (RM 6) s m args below meth c G A 5 (MQ below (QV (none) (PosW G ad rr b A) A) args s 0 0 A) 0 0 ad a b 25 [(3, .int v3)] [.int s2, .int s1, .ref (ad 14)] := by
  unfold f_X6_writeNumbered_25 at hf
  refine j_iload_n C 0 rfl dX6_writeNumbered_25 ?_
  obtain ⟨z1, h2, hf⟩ := bnd_some hf
  refine j_callV (q := 14) (As := [.int s1, .int s2, .int v3]) (rest := []) C (k_X6_writeEndingAt h2) cw_X6_writeEndingAt ml_X6_79 m_14 ce_14 rfl rfl ⟨Nat.le_of_ble_eq_true rfl, Nat.le_of_ble_eq_true rfl⟩ ⟨Nat.le_of_ble_eq_true rfl, Nat.le_of_ble_eq_true rfl⟩ rfl (Nat.le_of_ble_eq_true rfl) dX6_writeNumbered_26 ?_
  obtain rfl := Option.some.inj hf
  exact j_vret C hr hk ⟨Nat.le_of_ble_eq_true rfl, Nat.le_of_ble_eq_true rfl⟩ rfl dX6_writeNumbered_29
set_option maxRecDepth 100000 in
set_option maxHeartbeats 4000000 in
theorem k_X6_writeNumbered {l : Launch} {G : GT} {ad : Nat → Nat} {a : KS} {v1 : Int32} {v2 : Nat} {v3 : Int32} {b : MS} {rr : KS} (hf : f_X6_writeNumbered a v1 v2 v3 = some rr) : MT l G yX6_writeNumbered cX6_writeNumbered 5 none (RM 6) [.ref (ad 14), .int v1, .ref (G.2.2.1 v2), .int v3] ad a b (none) rr b := by
  refine MT_of (by decide) (Nat.le_of_ble_eq_true rfl) ?_
  intro p e s m args below meth c A C hr hk
  unfold f_X6_writeNumbered at hf
  refine j_aload_n C 0 rfl dX6_writeNumbered_0 ?_
  refine j_iload_n C 1 rfl dX6_writeNumbered_1 ?_
  refine j_aload_n C (x := G.2.2.1 v2) 2 rfl dX6_writeNumbered_2 ?_
  obtain ⟨z1, h2, hf⟩ := bnd_some hf
  refine j_callV (q := 14) (As := [.int v1, .ref (G.2.2.1 v2)]) (rest := []) C (k_X6_write h2) cw_X6_write ml_X6_83 m_14 ce_14 rfl rfl ⟨Nat.le_of_ble_eq_true rfl, Nat.le_of_ble_eq_true rfl⟩ ⟨Nat.le_of_ble_eq_true rfl, Nat.le_of_ble_eq_true rfl⟩ rfl (Nat.le_of_ble_eq_true rfl) dX6_writeNumbered_3 ?_
  refine j_istore (lv' := [(4, .int z1.1), (0, .ref (ad 14)), (1, .int v1), (2, .ref (G.2.2.1 v2)), (3, .int v3)]) C dX6_writeNumbered_6 (by decide) rfl ?_
  refine j_aload_n C 1 rfl dX6_writeNumbered_8 ?_
  refine j_iload_n C 2 rfl dX6_writeNumbered_9 ?_
  refine j_iload_n C 4 rfl dX6_writeNumbered_10 ?_
  refine j_bipush (v := 10) C (by decide) dX6_writeNumbered_11 ?_
  refine j_icmp_ge C 21 dX6_writeNumbered_13 (by decide) hf (fun y6 hf => ?_) (fun y6 hf => ?_)
  · refine j_iload C 0 rfl dX6_writeNumbered_21 ?_
    refine j_iconst (v := 1) C (by decide) dX6_writeNumbered_23 ?_
    refine j_iadd C dX6_writeNumbered_24 ?_
    refine j_sub [4] rfl ?_
    exact w_X6_writeNumbered_25 C hr hk z1.2 v3 v1 (z1.1 + 1) hf
  · refine j_iload C 0 rfl dX6_writeNumbered_16 ?_
    refine j_goto C 25 dX6_writeNumbered_18 (by decide) ?_
    refine j_sub [4] rfl ?_
    exact w_X6_writeNumbered_25 C hr hk z1.2 v3 v1 z1.1 hf
set_option maxRecDepth 100000 in
set_option maxHeartbeats 4000000 in
theorem k_X6_writeTitle {l : Launch} {G : GT} {ad : Nat → Nat} {a : KS} {v1 : Nat} {v2 : Option Nat} {b : MS} {rr : KS} (hf : f_X6_writeTitle a v1 v2 = some rr) : MT l G yX6_writeTitle cX6_writeTitle 3 none (RM 7) [.ref (ad 14), .ref (G.2.2.1 v1), itv ad v2] ad a b (none) rr b := by
  refine MT_of2 (lv := [(0, .ref (ad 14)), (1, .ref (G.2.2.1 v1)), (2, itv ad v2)]) (by decide) (by simp only [lg_sl, List.flatMap_cons, List.flatMap_nil, itv_cat]; exact Nat.le_of_ble_eq_true rfl) (by simp only [lv_args, itv_cat] <;> rfl) ?_
  intro p e s m args below meth c A C hr hk
  unfold f_X6_writeTitle at hf
  refine j_aload_nq C 2 rfl dX6_writeTitle_0 ?_
  refine j_ifnull C 14 dX6_writeTitle_1 (by decide) hf (fun e3 hg => ?_) (fun i2 e3 hg => ?_)
  · clear hf
    subst e3
    have hf := hg
    clear hg
    obtain rfl := Option.some.inj hf
    exact j_vret C hr hk ⟨Nat.le_of_ble_eq_true rfl, Nat.le_of_ble_eq_true rfl⟩ rfl dX6_writeTitle_14
  · clear hf
    subst e3
    have hf := hg
    clear hg
    refine j_aload_n C 0 rfl dX6_writeTitle_4 ?_
    refine j_iconst (v := 0) C (by decide) dX6_writeTitle_5 ?_
    refine j_aload_n C (x := G.2.2.1 v1) 1 rfl dX6_writeTitle_6 ?_
    refine j_aload_n C 2 rfl dX6_writeTitle_7 ?_
    obtain ⟨h4, hf⟩ := gd_some hf
    have h4 := of_decide_eq_true h4
    refine j_get (q := (ip i2)) (kf := 0) (T := TX4) (N := 13) (RC := RX4) C (mem_ip h4) ce_item rfl in_X4 (by decide) (fun _ h9 => h9) fl_X6_87 rfl dX6_writeTitle_8 ?_
    obtain ⟨z5, h6, hf⟩ := bnd_some hf
    refine j_callV (q := 14) (As := [.int 0, .ref (G.2.2.1 v1), .int (Kit a i2 0)]) (rest := []) C (k_X6_writeNumbered h6) cw_X6_writeNumbered ml_X6_92 m_14 ce_14 rfl rfl ⟨Nat.le_of_ble_eq_true rfl, Nat.le_of_ble_eq_true rfl⟩ ⟨Nat.le_of_ble_eq_true rfl, Nat.le_of_ble_eq_true rfl⟩ rfl (Nat.le_of_ble_eq_true rfl) dX6_writeTitle_11 ?_
    obtain rfl := Option.some.inj hf
    exact j_vret C hr hk ⟨Nat.le_of_ble_eq_true rfl, Nat.le_of_ble_eq_true rfl⟩ rfl dX6_writeTitle_14
set_option maxRecDepth 100000 in
set_option maxHeartbeats 4000000 in
theorem k_X6_writeAtEnd {l : Launch} {G : GT} {ad : Nat → Nat} {a : KS} {v1 : Int32} {v2 : Int32} {b : MS} {rr : KS} (hf : f_X6_writeAtEnd a v1 v2 = some rr) : MT l G yX6_writeAtEnd cX6_writeAtEnd 3 none (RM 2) [.ref (ad 14), .int v1, .int v2] ad a b (none) rr b := by
  refine MT_of (by decide) (Nat.le_of_ble_eq_true rfl) ?_
  intro p e s m args below meth c A C hr hk
  unfold f_X6_writeAtEnd at hf
  refine j_aload_n C 0 rfl dX6_writeAtEnd_0 ?_
  refine j_iload_n C 1 rfl dX6_writeAtEnd_1 ?_
  refine j_bipush (v := 15) C (by decide) dX6_writeAtEnd_2 ?_
  refine j_iload_n C 2 rfl dX6_writeAtEnd_4 ?_
  obtain ⟨z1, h2, hf⟩ := bnd_some hf
  refine j_callV (q := 14) (As := [.int v1, .int 15, .int v2]) (rest := []) C (k_X6_writeEndingAt h2) cw_X6_writeEndingAt ml_X6_79 m_14 ce_14 rfl rfl ⟨Nat.le_of_ble_eq_true rfl, Nat.le_of_ble_eq_true rfl⟩ ⟨Nat.le_of_ble_eq_true rfl, Nat.le_of_ble_eq_true rfl⟩ rfl (Nat.le_of_ble_eq_true rfl) dX6_writeAtEnd_5 ?_
  obtain rfl := Option.some.inj hf
  exact j_vret C hr hk ⟨Nat.le_of_ble_eq_true rfl, Nat.le_of_ble_eq_true rfl⟩ rfl dX6_writeAtEnd_8
set_option maxRecDepth 100000 in
set_option maxHeartbeats 4000000 in
theorem w_X6_writeDigits_60 {b : MS} {p : Program} {l : Launch} {e : Env} {s : State} {m : MethodId} {args : Array Value} {below : List Frame} {meth : Method} {c : Code} {G : GT} {A : Nat → Prop} {ad : Nat → Nat} (C : CX G A RX6 cX6_writeDigits 3 p s m args c) (hr : meth.sig.returnType = none) (hk : meth.locks = false) {rr : KS} (c2 : KS → Int32 → Option KS) (K2 : ∀ (a : KS) (v2 : Int32), c2 a v2 = some rr → J p l e (RM 1) s m args below meth c G A 3 (MQ below (QV (none) (PosW G ad rr b A) A) args s 0 0 A) 0 0 ad a b 2 [(0, .ref (ad 14)), (1, .ref (ad 10)), (2, .int v2)] []) (a : KS) (v2 : Int32) (hf : f_X6_writeDigits_60 c2 a v2 = some rr) : J p l e (RM 1) s m args below meth c G A 3 (MQ below (QV (none) (PosW G ad rr b A) A) args s 0 0 A) 0 0 ad a b 60 [(0, .ref (ad 14)), (1, .ref (ad 10)), (2, .int v2)] [] := by
  unfold f_X6_writeDigits_60 at hf
  refine j_iinc (v := v2 + 1) (lv' := [(2, .int (v2 + 1)), (0, .ref (ad 14)), (1, .ref (ad 10))]) C 2 rfl rfl (by decide) rfl dX6_writeDigits_60 ?_
  refine j_goto C 2 dX6_writeDigits_63 (by decide) ?_
  refine j_sub [1, 2, 0] rfl ?_
  exact K2 a (v2 + 1) hf
set_option maxRecDepth 100000 in
set_option maxHeartbeats 4000000 in
theorem w_X6_writeDigits_2 {b : MS} {p : Program} {l : Launch} {e : Env} {s : State} {m : MethodId} {args : Array Value} {below : List Frame} {meth : Method} {c : Code} {G : GT} {A : Nat → Prop} {ad : Nat → Nat} (C : CX G A RX6 cX6_writeDigits 3 p s m args c) (hr : meth.sig.returnType = none) (hk : meth.locks = false) {rr : KS} (c2 : KS → Int32 → Option KS) (K2 : ∀ (a : KS) (v2 : Int32), c2 a v2 = some rr → J p l e (RM 1) s m args below meth c G A 3 (MQ below (QV (none) (PosW G ad rr b A) A) args s 0 0 A) 0 0 ad a b 2 [(0, .ref (ad 14)), (1, .ref (ad 10)), (2, .int v2)] []) (a : KS) (v2 : Int32) (hf : f_X6_writeDigits_2 c2 a v2 = some rr) : J p l e (RM 1) s m args below meth c G A 3 (MQ below (QV (none) (PosW G ad rr b A) A) args s 0 0 A) 0 0 ad a b 2 [(0, .ref (ad 14)), (1, .ref (ad 10)), (2, .int v2)] [] := by
  unfold f_X6_writeDigits_2 at hf
  refine j_iload_n C 2 rfl dX6_writeDigits_2 ?_
  refine j_iconst (v := 4) C (by decide) dX6_writeDigits_3 ?_
  refine j_icmp_ge C 66 dX6_writeDigits_4 (by decide) hf (fun y1 hf => ?_) (fun y1 hf => ?_)
  · obtain rfl := Option.some.inj hf
    exact j_vret C hr hk ⟨Nat.le_of_ble_eq_true rfl, Nat.le_of_ble_eq_true rfl⟩ rfl dX6_writeDigits_66
  · refine j_iload_n C 2 rfl dX6_writeDigits_7 ?_
    refine j_aload_n C 1 rfl dX6_writeDigits_8 ?_
    refine j_get (q := 10) (kf := 9) (T := TX2) (N := 13) (RC := RX2) C m_10 ce_10 rfl in_X2 (by decide) (fun _ h9 => h9) fl_X6_121 rfl dX6_writeDigits_9 ?_
    refine j_icmp_ge C 26 dX6_writeDigits_12 (by decide) hf (fun y2 hf => ?_) (fun y2 hf => ?_)
    · refine j_iload_n C 2 rfl dX6_writeDigits_26 ?_
      refine j_aload_n C 1 rfl dX6_writeDigits_27 ?_
      refine j_get (q := 10) (kf := 9) (T := TX2) (N := 13) (RC := RX2) C m_10 ce_10 rfl in_X2 (by decide) (fun _ h9 => h9) fl_X6_121 rfl dX6_writeDigits_28 ?_
      refine j_icmp_ne C 52 dX6_writeDigits_31 (by decide) hf (fun y3 hf => ?_) (fun y3 hf => ?_)
      · refine j_aload_n C 0 rfl dX6_writeDigits_52 ?_
        refine j_iconst (v := 1) C (by decide) dX6_writeDigits_53 ?_
        refine j_iload_n C 2 rfl dX6_writeDigits_54 ?_
        refine j_bipush (v := 45) C (by decide) dX6_writeDigits_55 ?_
        obtain ⟨z4, h5, hf⟩ := bnd_some hf
        refine j_callV (q := 14) (As := [.int 1, .int v2, .int 45]) (rest := []) C (k_X6_put h5) cw_X6_put ml_X6_69 m_14 ce_14 rfl rfl ⟨Nat.le_of_ble_eq_true rfl, Nat.le_of_ble_eq_true rfl⟩ ⟨Nat.le_of_ble_eq_true rfl, Nat.le_of_ble_eq_true rfl⟩ rfl (Nat.le_of_ble_eq_true rfl) dX6_writeDigits_57 ?_
        refine j_sub [0, 1, 2] rfl ?_
        exact w_X6_writeDigits_60 C hr hk c2 K2 z4 v2 hf
      · refine j_aload_n C 0 rfl dX6_writeDigits_34 ?_
        refine j_iconst (v := 1) C (by decide) dX6_writeDigits_35 ?_
        refine j_iload_n C 2 rfl dX6_writeDigits_36 ?_
        refine j_bipush (v := 48) C (by decide) dX6_writeDigits_37 ?_
        refine j_aload_n C 1 rfl dX6_writeDigits_39 ?_
        refine j_iload_n C 2 rfl dX6_writeDigits_40 ?_
        obtain ⟨z9, h10, hf⟩ := bnd_some hf
        refine j_callV (q := 10) (As := [.int v2]) (rest := [.int 48, .int v2, .int 1, .ref (ad 14)]) C (k_X2_digit h10) cw_X2_digit ml_X6_124 m_10 ce_10 rfl rfl ⟨Nat.le_of_ble_eq_true rfl, Nat.le_of_ble_eq_true rfl⟩ ⟨Nat.le_of_ble_eq_true rfl, Nat.le_of_ble_eq_true rfl⟩ rfl (Nat.le_of_ble_eq_true rfl) dX6_writeDigits_41 ?_
        refine j_iadd C dX6_writeDigits_44 ?_
        refine j_i2c C dX6_writeDigits_45 ?_
        obtain ⟨z12, h13, hf⟩ := bnd_some hf
        refine j_callV (q := 14) (As := [.int 1, .int v2, .int (((48 + z9).toUInt32 % 65536).toInt32)]) (rest := []) C (k_X6_put h13) cw_X6_put ml_X6_69 m_14 ce_14 rfl rfl ⟨Nat.le_of_ble_eq_true rfl, Nat.le_of_ble_eq_true rfl⟩ ⟨Nat.le_of_ble_eq_true rfl, Nat.le_of_ble_eq_true rfl⟩ rfl (Nat.le_of_ble_eq_true rfl) dX6_writeDigits_46 ?_
        refine j_goto C 60 dX6_writeDigits_49 (by decide) ?_
        refine j_sub [0, 1, 2] rfl ?_
        exact w_X6_writeDigits_60 C hr hk c2 K2 z12 v2 hf
    · refine j_aload_n C 0 rfl dX6_writeDigits_15 ?_
      refine j_iconst (v := 1) C (by decide) dX6_writeDigits_16 ?_
      refine j_iload_n C 2 rfl dX6_writeDigits_17 ?_
      refine j_bipush (v := 42) C (by decide) dX6_writeDigits_18 ?_
      obtain ⟨z17, h18, hf⟩ := bnd_some hf
      refine j_callV (q := 14) (As := [.int 1, .int v2, .int 42]) (rest := []) C (k_X6_put h18) cw_X6_put ml_X6_69 m_14 ce_14 rfl rfl ⟨Nat.le_of_ble_eq_true rfl, Nat.le_of_ble_eq_true rfl⟩ ⟨Nat.le_of_ble_eq_true rfl, Nat.le_of_ble_eq_true rfl⟩ rfl (Nat.le_of_ble_eq_true rfl) dX6_writeDigits_20 ?_
      refine j_goto C 60 dX6_writeDigits_23 (by decide) ?_
      refine j_sub [0, 1, 2] rfl ?_
      exact w_X6_writeDigits_60 C hr hk c2 K2 z17 v2 hf
theorem wl_X6_writeDigits_2 {b : MS} {p : Program} {l : Launch} {e : Env} {s : State} {m : MethodId} {args : Array Value} {below : List Frame} {meth : Method} {c : Code} {G : GT} {A : Nat → Prop} {ad : Nat → Nat} (C : CX G A RX6 cX6_writeDigits 3 p s m args c) (hr : meth.sig.returnType = none) (hk : meth.locks = false) {rr : KS} (fuel : Nat)   : ∀ (a : KS) (v2 : Int32), l_X6_writeDigits_2 fuel  a v2 = some rr → J p l e (RM 1) s m args below meth c G A 3 (MQ below (QV (none) (PosW G ad rr b A) A) args s 0 0 A) 0 0 ad a b 2 [(0, .ref (ad 14)), (1, .ref (ad 10)), (2, .int v2)] [] := by
  induction fuel with
  | zero => intro a v2 hf; cases hf
  | succ n ih =>
    intro a v2 hf
    have hf : f_X6_writeDigits_2 (l_X6_writeDigits_2 n ) a v2 = some rr := hf
    exact w_X6_writeDigits_2 C hr hk (l_X6_writeDigits_2 n ) ih a v2 hf
set_option maxRecDepth 100000 in
set_option maxHeartbeats 4000000 in
theorem k_X6_writeDigits {l : Launch} {G : GT} {ad : Nat → Nat} {a : KS} {b : MS} {rr : KS} (hf : f_X6_writeDigits a = some rr) : MT l G yX6_writeDigits cX6_writeDigits 3 none (RM 1) [.ref (ad 14), .ref (ad 10)] ad a b (none) rr b := by
  refine MT_of (by decide) (Nat.le_of_ble_eq_true rfl) ?_
  intro p e s m args below meth c A C hr hk
  unfold f_X6_writeDigits at hf
  refine j_iconst (v := 0) C (by decide) dX6_writeDigits_0 ?_
  refine j_istore_n (i := 2) (lv' := [(2, .int 0), (0, .ref (ad 14)), (1, .ref (ad 10))]) C dX6_writeDigits_1 rfl (by decide) rfl ?_
  refine j_sub [1, 2, 0] rfl ?_
  exact wl_X6_writeDigits_2 C hr hk FU a 0 hf
set_option maxRecDepth 100000 in
set_option maxHeartbeats 4000000 in
theorem k_X6_writeName {l : Launch} {G : GT} {ad : Nat → Nat} {a : KS} {v1 : Int32} {v2 : Option Nat} {b : MS} {rr : KS} (hf : f_X6_writeName a v1 v2 = some rr) : MT l G yX6_writeName cX6_writeName 3 none (RM 7) [.ref (ad 14), .int v1, itv ad v2] ad a b (none) rr b := by
  refine MT_of2 (lv := [(0, .ref (ad 14)), (1, .int v1), (2, itv ad v2)]) (by decide) (by simp only [lg_sl, List.flatMap_cons, List.flatMap_nil, itv_cat]; exact Nat.le_of_ble_eq_true rfl) (by simp only [lv_args, itv_cat] <;> rfl) ?_
  intro p e s m args below meth c A C hr hk
  unfold f_X6_writeName at hf
  refine j_aload_nq C 2 rfl dX6_writeName_0 ?_
  obtain ⟨i1, e3, h2, hg⟩ := odr_some hf
  clear hf
  subst e3
  have hf := hg
  clear hg
  refine j_get (q := (ip i1)) (kf := 1) (T := TX4) (N := 13) (RC := RX4) C (mem_ip h2) ce_item rfl in_X4 (by decide) (fun _ h9 => h9) fl_X6_96 rfl dX6_writeName_1 ?_
  refine j_if_ne C 21 dX6_writeName_4 (by decide) hf (fun y4 hf => ?_) (fun y4 hf => ?_)
  · refine j_aload_n C 2 rfl dX6_writeName_21 ?_
    refine j_get (q := (ip i1)) (kf := 1) (T := TX4) (N := 13) (RC := RX4) C (mem_ip h2) ce_item rfl in_X4 (by decide) (fun _ h9 => h9) fl_X6_96 rfl dX6_writeName_22 ?_
    refine j_iconst (v := 1) C (by decide) dX6_writeName_25 ?_
    refine j_icmp_ne C 43 dX6_writeName_26 (by decide) hf (fun y5 hf => ?_) (fun y5 hf => ?_)
    · refine j_aload_n C 0 rfl dX6_writeName_43 ?_
      refine j_iload_n C 1 rfl dX6_writeName_44 ?_
      refine j_ldcs (w := 4) C (by decide) rfl dX6_writeName_45 ?_
      refine j_aload_n C 2 rfl dX6_writeName_47 ?_
      refine j_get (q := (ip i1)) (kf := 0) (T := TX4) (N := 13) (RC := RX4) C (mem_ip h2) ce_item rfl in_X4 (by decide) (fun _ h9 => h9) fl_X6_87 rfl dX6_writeName_48 ?_
      obtain ⟨z6, h7, hf⟩ := bnd_some hf
      refine j_callV (q := 14) (As := [.int v1, .ref (G.2.2.1 4), .int (Kit a i1 0)]) (rest := []) C (k_X6_writeNumbered h7) cw_X6_writeNumbered ml_X6_92 m_14 ce_14 rfl rfl ⟨Nat.le_of_ble_eq_true rfl, Nat.le_of_ble_eq_true rfl⟩ ⟨Nat.le_of_ble_eq_true rfl, Nat.le_of_ble_eq_true rfl⟩ rfl (Nat.le_of_ble_eq_true rfl) dX6_writeName_51 ?_
      obtain rfl := Option.some.inj hf
      exact j_vret C hr hk ⟨Nat.le_of_ble_eq_true rfl, Nat.le_of_ble_eq_true rfl⟩ rfl dX6_writeName_54
    · refine j_aload_n C 0 rfl dX6_writeName_29 ?_
      refine j_iload_n C 1 rfl dX6_writeName_30 ?_
      refine j_ldcs (w := 3) C (by decide) rfl dX6_writeName_31 ?_
      refine j_aload_n C 2 rfl dX6_writeName_33 ?_
      refine j_get (q := (ip i1)) (kf := 0) (T := TX4) (N := 13) (RC := RX4) C (mem_ip h2) ce_item rfl in_X4 (by decide) (fun _ h9 => h9) fl_X6_87 rfl dX6_writeName_34 ?_
      obtain ⟨z12, h13, hf⟩ := bnd_some hf
      refine j_callV (q := 14) (As := [.int v1, .ref (G.2.2.1 3), .int (Kit a i1 0)]) (rest := []) C (k_X6_writeNumbered h13) cw_X6_writeNumbered ml_X6_92 m_14 ce_14 rfl rfl ⟨Nat.le_of_ble_eq_true rfl, Nat.le_of_ble_eq_true rfl⟩ ⟨Nat.le_of_ble_eq_true rfl, Nat.le_of_ble_eq_true rfl⟩ rfl (Nat.le_of_ble_eq_true rfl) dX6_writeName_37 ?_
      refine j_goto C 54 dX6_writeName_40 (by decide) ?_
      obtain rfl := Option.some.inj hf
      exact j_vret C hr hk ⟨Nat.le_of_ble_eq_true rfl, Nat.le_of_ble_eq_true rfl⟩ rfl dX6_writeName_54
  · refine j_aload_n C 0 rfl dX6_writeName_7 ?_
    refine j_iload_n C 1 rfl dX6_writeName_8 ?_
    refine j_ldcs (w := 2) C (by decide) rfl dX6_writeName_9 ?_
    refine j_aload_n C 2 rfl dX6_writeName_11 ?_
    refine j_get (q := (ip i1)) (kf := 0) (T := TX4) (N := 13) (RC := RX4) C (mem_ip h2) ce_item rfl in_X4 (by decide) (fun _ h9 => h9) fl_X6_87 rfl dX6_writeName_12 ?_
    obtain ⟨z18, h19, hf⟩ := bnd_some hf
    refine j_callV (q := 14) (As := [.int v1, .ref (G.2.2.1 2), .int (Kit a i1 0)]) (rest := []) C (k_X6_writeNumbered h19) cw_X6_writeNumbered ml_X6_92 m_14 ce_14 rfl rfl ⟨Nat.le_of_ble_eq_true rfl, Nat.le_of_ble_eq_true rfl⟩ ⟨Nat.le_of_ble_eq_true rfl, Nat.le_of_ble_eq_true rfl⟩ rfl (Nat.le_of_ble_eq_true rfl) dX6_writeName_15 ?_
    refine j_goto C 54 dX6_writeName_18 (by decide) ?_
    obtain rfl := Option.some.inj hf
    exact j_vret C hr hk ⟨Nat.le_of_ble_eq_true rfl, Nat.le_of_ble_eq_true rfl⟩ rfl dX6_writeName_54
set_option maxRecDepth 100000 in
set_option maxHeartbeats 4000000 in
theorem k_X6_writeState {l : Launch} {G : GT} {ad : Nat → Nat} {a : KS} {v1 : Option Nat} {b : MS} {rr : KS} (hf : f_X6_writeState a v1 = some rr) : MT l G yX6_writeState cX6_writeState 2 none (RM 3) [.ref (ad 14), itv ad v1] ad a b (none) rr b := by
  refine MT_of2 (lv := [(0, .ref (ad 14)), (1, itv ad v1)]) (by decide) (by simp only [lg_sl, List.flatMap_cons, List.flatMap_nil, itv_cat]; exact Nat.le_of_ble_eq_true rfl) (by simp only [lv_args, itv_cat] <;> rfl) ?_
  intro p e s m args below meth c A C hr hk
  unfold f_X6_writeState at hf
  refine j_aload_nq C 1 rfl dX6_writeState_0 ?_
  obtain ⟨i1, e3, h2, hg⟩ := odr_some hf
  clear hf
  subst e3
  have hf := hg
  clear hg
  obtain ⟨z4, h5, hf⟩ := bnd_some hf
  refine j_callV (q := (ip i1)) (As := []) (rest := []) C (k_X4_closed h5) cw_X4_closed ml_X6_114 (mem_ip h2) ce_item rfl rfl ⟨Nat.le_of_ble_eq_true rfl, Nat.le_of_ble_eq_true rfl⟩ ⟨Nat.le_of_ble_eq_true rfl, Nat.le_of_ble_eq_true rfl⟩ rfl (Nat.le_of_ble_eq_true rfl) dX6_writeState_1 ?_
  refine j_if_eq C 19 dX6_writeState_4 (by decide) hf (fun y7 hf => ?_) (fun y7 hf => ?_)
  · refine j_aload_n C 1 rfl dX6_writeState_19 ?_
    refine j_get (q := (ip i1)) (kf := 1) (T := TX4) (N := 13) (RC := RX4) C (mem_ip h2) ce_item rfl in_X4 (by decide) (fun _ h9 => h9) fl_X6_96 rfl dX6_writeState_20 ?_
    refine j_if_ne C 38 dX6_writeState_23 (by decide) hf (fun y8 hf => ?_) (fun y8 hf => ?_)
    · refine j_aload_n C 0 rfl dX6_writeState_38 ?_
      refine j_iconst (v := 1) C (by decide) dX6_writeState_39 ?_
      refine j_aload_n C 1 rfl dX6_writeState_40 ?_
      refine j_get (q := (ip i1)) (kf := 10) (T := TX4) (N := 13) (RC := RX4) C (mem_ip h2) ce_item rfl in_X4 (by decide) (fun _ h9 => h9) fl_X6_118 rfl dX6_writeState_41 ?_
      obtain ⟨z9, h10, hf⟩ := bnd_some hf
      refine j_callV (q := 14) (As := [.int 1, .int (Kit a i1 10)]) (rest := []) C (k_X6_writeAtEnd h10) cw_X6_writeAtEnd ml_X6_37 m_14 ce_14 rfl rfl ⟨Nat.le_of_ble_eq_true rfl, Nat.le_of_ble_eq_true rfl⟩ ⟨Nat.le_of_ble_eq_true rfl, Nat.le_of_ble_eq_true rfl⟩ rfl (Nat.le_of_ble_eq_true rfl) dX6_writeState_44 ?_
      obtain rfl := Option.some.inj hf
      exact j_vret C hr hk ⟨Nat.le_of_ble_eq_true rfl, Nat.le_of_ble_eq_true rfl⟩ rfl dX6_writeState_47
    · refine j_aload_n C 0 rfl dX6_writeState_26 ?_
      refine j_iconst (v := 1) C (by decide) dX6_writeState_27 ?_
      refine j_bipush (v := 15) C (by decide) dX6_writeState_28 ?_
      refine j_bipush (v := 62) C (by decide) dX6_writeState_30 ?_
      obtain ⟨z15, h16, hf⟩ := bnd_some hf
      refine j_callV (q := 14) (As := [.int 1, .int 15, .int 62]) (rest := []) C (k_X6_put h16) cw_X6_put ml_X6_69 m_14 ce_14 rfl rfl ⟨Nat.le_of_ble_eq_true rfl, Nat.le_of_ble_eq_true rfl⟩ ⟨Nat.le_of_ble_eq_true rfl, Nat.le_of_ble_eq_true rfl⟩ rfl (Nat.le_of_ble_eq_true rfl) dX6_writeState_32 ?_
      refine j_goto C 47 dX6_writeState_35 (by decide) ?_
      obtain rfl := Option.some.inj hf
      exact j_vret C hr hk ⟨Nat.le_of_ble_eq_true rfl, Nat.le_of_ble_eq_true rfl⟩ rfl dX6_writeState_47
  · refine j_aload_n C 0 rfl dX6_writeState_7 ?_
    refine j_iconst (v := 1) C (by decide) dX6_writeState_8 ?_
    refine j_bipush (v := 15) C (by decide) dX6_writeState_9 ?_
    refine j_bipush (v := 76) C (by decide) dX6_writeState_11 ?_
    obtain ⟨z21, h22, hf⟩ := bnd_some hf
    refine j_callV (q := 14) (As := [.int 1, .int 15, .int 76]) (rest := []) C (k_X6_put h22) cw_X6_put ml_X6_69 m_14 ce_14 rfl rfl ⟨Nat.le_of_ble_eq_true rfl, Nat.le_of_ble_eq_true rfl⟩ ⟨Nat.le_of_ble_eq_true rfl, Nat.le_of_ble_eq_true rfl⟩ rfl (Nat.le_of_ble_eq_true rfl) dX6_writeState_13 ?_
    refine j_goto C 47 dX6_writeState_16 (by decide) ?_
    obtain rfl := Option.some.inj hf
    exact j_vret C hr hk ⟨Nat.le_of_ble_eq_true rfl, Nat.le_of_ble_eq_true rfl⟩ rfl dX6_writeState_47
set_option maxRecDepth 100000 in
set_option maxHeartbeats 4000000 in
theorem k_X6_writeChosen {l : Launch} {G : GT} {ad : Nat → Nat} {a : KS} {v1 : Option Nat} {v2 : Option Nat} {b : MS} {rr : KS} (hf : f_X6_writeChosen a v1 v2 = some rr) : MT l G yX6_writeChosen cX6_writeChosen 3 none (RM 8) [.ref (ad 14), itv ad v1, itv ad v2] ad a b (none) rr b := by
  refine MT_of2 (lv := [(0, .ref (ad 14)), (1, itv ad v1), (2, itv ad v2)]) (by decide) (by simp only [lg_sl, List.flatMap_cons, List.flatMap_nil, itv_cat]; exact Nat.le_of_ble_eq_true rfl) (by simp only [lv_args, itv_cat] <;> rfl) ?_
  intro p e s m args below meth c A C hr hk
  unfold f_X6_writeChosen at hf
  refine j_aload_nq C 2 rfl dX6_writeChosen_0 ?_
  refine j_ifnull C 18 dX6_writeChosen_1 (by decide) hf (fun e3 hg => ?_) (fun i2 e3 hg => ?_)
  · clear hf
    subst e3
    have hf := hg
    clear hg
    refine j_aload_nq C 1 rfl dX6_writeChosen_18 ?_
    obtain ⟨i4, e6, h5, hg⟩ := odr_some hf
    clear hf
    subst e6
    have hf := hg
    clear hg
    obtain ⟨z7, h8, hf⟩ := bnd_some hf
    refine j_callV (q := (ip i4)) (As := []) (rest := []) C (k_X4_entries h8) cw_X4_entries ml_X6_109 (mem_ip h5) ce_item rfl rfl ⟨Nat.le_of_ble_eq_true rfl, Nat.le_of_ble_eq_true rfl⟩ ⟨Nat.le_of_ble_eq_true rfl, Nat.le_of_ble_eq_true rfl⟩ rfl (Nat.le_of_ble_eq_true rfl) dX6_writeChosen_19 ?_
    refine j_if_le C 33 dX6_writeChosen_22 (by decide) hf (fun y10 hf => ?_) (fun y10 hf => ?_)
    · obtain rfl := Option.some.inj hf
      exact j_vret C hr hk ⟨Nat.le_of_ble_eq_true rfl, Nat.le_of_ble_eq_true rfl⟩ rfl dX6_writeChosen_33
    · refine j_aload_n C 0 rfl dX6_writeChosen_25 ?_
      refine j_iconst (v := 1) C (by decide) dX6_writeChosen_26 ?_
      refine j_ldcs (w := 5) C (by decide) rfl dX6_writeChosen_27 ?_
      obtain ⟨z11, h12, hf⟩ := bnd_some hf
      refine j_callV (q := 14) (As := [.int 1, .ref (G.2.2.1 5)]) (rest := []) C (k_X6_write h12) cw_X6_write ml_X6_83 m_14 ce_14 rfl rfl ⟨Nat.le_of_ble_eq_true rfl, Nat.le_of_ble_eq_true rfl⟩ ⟨Nat.le_of_ble_eq_true rfl, Nat.le_of_ble_eq_true rfl⟩ rfl (Nat.le_of_ble_eq_true rfl) dX6_writeChosen_29 ?_
      refine j_pop C rfl dX6_writeChosen_32 ?_
      obtain rfl := Option.some.inj hf
      exact j_vret C hr hk ⟨Nat.le_of_ble_eq_true rfl, Nat.le_of_ble_eq_true rfl⟩ rfl dX6_writeChosen_33
  · clear hf
    subst e3
    have hf := hg
    clear hg
    refine j_aload_n C 0 rfl dX6_writeChosen_4 ?_
    refine j_iconst (v := 1) C (by decide) dX6_writeChosen_5 ?_
    refine j_aload_n C 2 rfl dX6_writeChosen_6 ?_
    obtain ⟨z17, h18, hf⟩ := bnd_some hf
    refine j_callV (q := 14) (As := [.int 1, itv ad (some i2)]) (rest := []) C (k_X6_writeName h18) cw_X6_writeName ml_X6_51 m_14 ce_14 rfl rfl ⟨Nat.le_of_ble_eq_true rfl, Nat.le_of_ble_eq_true rfl⟩ ⟨Nat.le_of_ble_eq_true rfl, Nat.le_of_ble_eq_true rfl⟩ rfl (Nat.le_of_ble_eq_true rfl) dX6_writeChosen_7 ?_
    refine j_aload_n C 0 rfl dX6_writeChosen_10 ?_
    refine j_aload_n C 2 rfl dX6_writeChosen_11 ?_
    obtain ⟨z22, h23, hf⟩ := bnd_some hf
    refine j_callV (q := 14) (As := [itv ad (some i2)]) (rest := []) C (k_X6_writeState h23) cw_X6_writeState ml_X6_105 m_14 ce_14 rfl rfl ⟨Nat.le_of_ble_eq_true rfl, Nat.le_of_ble_eq_true rfl⟩ ⟨Nat.le_of_ble_eq_true rfl, Nat.le_of_ble_eq_true rfl⟩ rfl (Nat.le_of_ble_eq_true rfl) dX6_writeChosen_12 ?_
    refine j_goto C 33 dX6_writeChosen_15 (by decide) ?_
    obtain rfl := Option.some.inj hf
    exact j_vret C hr hk ⟨Nat.le_of_ble_eq_true rfl, Nat.le_of_ble_eq_true rfl⟩ rfl dX6_writeChosen_33
set_option maxRecDepth 100000 in
set_option maxHeartbeats 4000000 in
theorem k_X6_draw {l : Launch} {G : GT} {ad : Nat → Nat} {a : KS} {b : MS} {rr : KS} (hf : f_X6_draw a = some rr) : MT l G yX6_draw cX6_draw 3 none (RM 9) [.ref (ad 14), .ref (ad 10)] ad a b (none) rr b := by
  refine MT_of (by decide) (Nat.le_of_ble_eq_true rfl) ?_
  intro p e s m args below meth c A C hr hk
  unfold f_X6_draw at hf
  refine j_aload_n C 0 rfl dX6_draw_0 ?_
  obtain ⟨z1, h2, hf⟩ := bnd_some hf
  refine j_callV (q := 14) (As := []) (rest := []) C (k_X6_clear h2) cw_X6_clear ml_X6_15 m_14 ce_14 rfl rfl ⟨Nat.le_of_ble_eq_true rfl, Nat.le_of_ble_eq_true rfl⟩ ⟨Nat.le_of_ble_eq_true rfl, Nat.le_of_ble_eq_true rfl⟩ rfl (Nat.le_of_ble_eq_true rfl) dX6_draw_1 ?_
  refine j_aload_n C 1 rfl dX6_draw_4 ?_
  obtain ⟨z6, h7, hf⟩ := bnd_some hf
  refine j_callV (q := 10) (As := []) (rest := []) C (k_X2_chosenItem h7) cw_X2_chosenItem ml_X6_18 m_10 ce_10 rfl rfl ⟨Nat.le_of_ble_eq_true rfl, Nat.le_of_ble_eq_true rfl⟩ ⟨Nat.le_of_ble_eq_true rfl, Nat.le_of_ble_eq_true rfl⟩ rfl (Nat.le_of_ble_eq_true rfl) dX6_draw_5 ?_
  refine j_astore_nq (i := 2) (lv' := [(2, itv ad z6), (0, .ref (ad 14)), (1, .ref (ad 10))]) (o := z6) C dX6_draw_8 rfl (by decide) rfl ?_
  refine j_aload_n C 2 rfl dX6_draw_9 ?_
  refine j_get (q := 10) (kf := 6) (T := TX2) (N := 13) (RC := RX2) C m_10 ce_10 rfl in_X2 (by decide) (fun _ h9 => h9) fl_X6_24 rfl dX6_draw_10 ?_
  refine j_iconst (v := 1) C (by decide) dX6_draw_13 ?_
  refine j_icmp_ne C 36 dX6_draw_14 (by decide) hf (fun y9 hf => ?_) (fun y9 hf => ?_)
  · refine j_aload_n C 2 rfl dX6_draw_36 ?_
    refine j_get (q := 10) (kf := 6) (T := TX2) (N := 13) (RC := RX2) C m_10 ce_10 rfl in_X2 (by decide) (fun _ h9 => h9) fl_X6_24 rfl dX6_draw_37 ?_
    refine j_iconst (v := 2) C (by decide) dX6_draw_40 ?_
    refine j_icmp_ne C 59 dX6_draw_41 (by decide) hf (fun y10 hf => ?_) (fun y10 hf => ?_)
    · refine j_aload_n C 1 rfl dX6_draw_59 ?_
      refine j_iconst (v := 0) C (by decide) dX6_draw_60 ?_
      refine j_aload_n C 2 rfl dX6_draw_61 ?_
      refine j_get (q := 10) (kf := 5) (T := TX2) (N := 13) (RC := RX2) C m_10 ce_10 rfl in_X2 (by decide) (fun _ h9 => h9) fl_X6_47 rfl dX6_draw_62 ?_
      refine j_letO hf (fun o11 hf => ?_)
      obtain ⟨z12, h13, hf⟩ := bnd_some hf
      refine j_callV (q := 14) (As := [.int 0, itv ad o11]) (rest := []) C (k_X6_writeName h13) cw_X6_writeName ml_X6_51 m_14 ce_14 rfl rfl ⟨Nat.le_of_ble_eq_true rfl, Nat.le_of_ble_eq_true rfl⟩ ⟨Nat.le_of_ble_eq_true rfl, Nat.le_of_ble_eq_true rfl⟩ rfl (Nat.le_of_ble_eq_true rfl) dX6_draw_65 ?_
      refine j_aload_n C 1 rfl dX6_draw_68 ?_
      refine j_aload_n C 2 rfl dX6_draw_69 ?_
      refine j_get (q := 10) (kf := 5) (T := TX2) (N := 13) (RC := RX2) C m_10 ce_10 rfl in_X2 (by decide) (fun _ h9 => h9) fl_X6_47 rfl dX6_draw_70 ?_
      refine j_letO hf (fun o17 hf => ?_)
      refine j_aload_nq C 0 rfl dX6_draw_73 ?_
      obtain ⟨z18, h19, hf⟩ := bnd_some hf
      refine j_callV (q := 14) (As := [itv ad o17, itv ad z6]) (rest := []) C (k_X6_writeChosen h19) cw_X6_writeChosen ml_X6_55 m_14 ce_14 rfl rfl ⟨Nat.le_of_ble_eq_true rfl, Nat.le_of_ble_eq_true rfl⟩ ⟨Nat.le_of_ble_eq_true rfl, Nat.le_of_ble_eq_true rfl⟩ rfl (Nat.le_of_ble_eq_true rfl) dX6_draw_74 ?_
      obtain rfl := Option.some.inj hf
      exact j_vret C hr hk ⟨Nat.le_of_ble_eq_true rfl, Nat.le_of_ble_eq_true rfl⟩ rfl dX6_draw_77
    · refine j_aload_n C 1 rfl dX6_draw_44 ?_
      refine j_ldcs (w := 1) C (by decide) rfl dX6_draw_45 ?_
      refine j_aload_nq C 0 rfl dX6_draw_47 ?_
      obtain ⟨z23, h24, hf⟩ := bnd_some hf
      refine j_callV (q := 14) (As := [.ref (G.2.2.1 1), itv ad z6]) (rest := []) C (k_X6_writeTitle h24) cw_X6_writeTitle ml_X6_30 m_14 ce_14 rfl rfl ⟨Nat.le_of_ble_eq_true rfl, Nat.le_of_ble_eq_true rfl⟩ ⟨Nat.le_of_ble_eq_true rfl, Nat.le_of_ble_eq_true rfl⟩ rfl (Nat.le_of_ble_eq_true rfl) dX6_draw_48 ?_
      refine j_aload_n C 1 rfl dX6_draw_51 ?_
      refine j_aload_n C 2 rfl dX6_draw_52 ?_
      obtain ⟨z28, h29, hf⟩ := bnd_some hf
      refine j_callV (q := 14) (As := [.ref (ad 10)]) (rest := []) C (k_X6_writeDigits h29) cw_X6_writeDigits ml_X6_43 m_14 ce_14 rfl rfl ⟨Nat.le_of_ble_eq_true rfl, Nat.le_of_ble_eq_true rfl⟩ ⟨Nat.le_of_ble_eq_true rfl, Nat.le_of_ble_eq_true rfl⟩ rfl (Nat.le_of_ble_eq_true rfl) dX6_draw_53 ?_
      refine j_goto C 77 dX6_draw_56 (by decide) ?_
      obtain rfl := Option.some.inj hf
      exact j_vret C hr hk ⟨Nat.le_of_ble_eq_true rfl, Nat.le_of_ble_eq_true rfl⟩ rfl dX6_draw_77
  · refine j_aload_n C 1 rfl dX6_draw_17 ?_
    refine j_ldcs (w := 0) C (by decide) rfl dX6_draw_18 ?_
    refine j_aload_nq C 0 rfl dX6_draw_20 ?_
    obtain ⟨z33, h34, hf⟩ := bnd_some hf
    refine j_callV (q := 14) (As := [.ref (G.2.2.1 0), itv ad z6]) (rest := []) C (k_X6_writeTitle h34) cw_X6_writeTitle ml_X6_30 m_14 ce_14 rfl rfl ⟨Nat.le_of_ble_eq_true rfl, Nat.le_of_ble_eq_true rfl⟩ ⟨Nat.le_of_ble_eq_true rfl, Nat.le_of_ble_eq_true rfl⟩ rfl (Nat.le_of_ble_eq_true rfl) dX6_draw_21 ?_
    refine j_aload_n C 1 rfl dX6_draw_24 ?_
    refine j_iconst (v := 1) C (by decide) dX6_draw_25 ?_
    refine j_aload_n C 2 rfl dX6_draw_26 ?_
    refine j_get (q := 10) (kf := 8) (T := TX2) (N := 13) (RC := RX2) C m_10 ce_10 rfl in_X2 (by decide) (fun _ h9 => h9) fl_X6_34 rfl dX6_draw_27 ?_
    obtain ⟨z38, h39, hf⟩ := bnd_some hf
    refine j_callV (q := 14) (As := [.int 1, .int (Khi z33 10 8)]) (rest := []) C (k_X6_writeAtEnd h39) cw_X6_writeAtEnd ml_X6_37 m_14 ce_14 rfl rfl ⟨Nat.le_of_ble_eq_true rfl, Nat.le_of_ble_eq_true rfl⟩ ⟨Nat.le_of_ble_eq_true rfl, Nat.le_of_ble_eq_true rfl⟩ rfl (Nat.le_of_ble_eq_true rfl) dX6_draw_30 ?_
    refine j_goto C 77 dX6_draw_33 (by decide) ?_
    obtain rfl := Option.some.inj hf
    exact j_vret C hr hk ⟨Nat.le_of_ble_eq_true rfl, Nat.le_of_ble_eq_true rfl⟩ rfl dX6_draw_77
set_option maxRecDepth 100000 in
set_option maxHeartbeats 4000000 in
theorem k_X6_signAt {l : Launch} {G : GT} {ad : Nat → Nat} {a : KS} {v1 : Int32} {v2 : Int32} {b : MS} {rr : Int32} (hf : f_X6_signAt a v1 v2 = some rr) : MT l G yX6_signAt cX6_signAt 4 (some .char) (RM 0) [.ref (ad 14), .int v1, .int v2] ad a b (some (.int rr)) a b := by
  refine MT_of (by decide) (Nat.le_of_ble_eq_true rfl) ?_
  intro p e s m args below meth c A C hr hk
  unfold f_X6_signAt at hf
  refine j_iload_n C 1 rfl dX6_signAt_0 ?_
  refine j_bipush (v := 16) C (by decide) dX6_signAt_1 ?_
  refine j_imul C dX6_signAt_3 ?_
  refine j_iload_n C 2 rfl dX6_signAt_4 ?_
  refine j_iadd C dX6_signAt_5 ?_
  refine j_letI hf (fun x1 hf => ?_)
  refine j_istore_n (i := 3) (lv' := [(3, .int x1), (0, .ref (ad 14)), (1, .int v1), (2, .int v2)]) C dX6_signAt_6 rfl (by decide) rfl ?_
  refine j_iload_n C 0 rfl dX6_signAt_7 ?_
  refine j_if_lt C 29 dX6_signAt_8 (by decide) hf (fun y2 hf => ?_) (fun y2 hf => ?_)
  · refine j_bipush (v := 32) C (by decide) dX6_signAt_29 ?_
    obtain ⟨h3, hf⟩ := gd_some hf
    obtain rfl := Option.some.inj hf
    exact j_zret C hr hk (okc_n h3) ⟨Nat.le_of_ble_eq_true rfl, Nat.le_of_ble_eq_true rfl⟩ rfl dX6_signAt_31
  · refine j_iload_n C 0 rfl dX6_signAt_11 ?_
    refine j_aload_n C 1 rfl dX6_signAt_12 ?_
    refine j_get (q := 14) (kf := 0) (T := TX6) (N := 1) (RC := RX6) C m_14 ce_14 rfl in_X6 (by decide) (fun _ h9 => h9) fl_X6_9 rfl dX6_signAt_13 ?_
    refine j_alen (q := 15) (t0 := 1) (v := 32) C m_15 ce_15 rfl rfl dX6_signAt_16 ?_
    refine j_icmp_ge C 29 dX6_signAt_17 (by decide) hf (fun y4 hf => ?_) (fun y4 hf => ?_)
    · refine j_bipush (v := 32) C (by decide) dX6_signAt_29 ?_
      obtain ⟨h5, hf⟩ := gd_some hf
      obtain rfl := Option.some.inj hf
      exact j_zret C hr hk (okc_n h5) ⟨Nat.le_of_ble_eq_true rfl, Nat.le_of_ble_eq_true rfl⟩ rfl dX6_signAt_31
    · refine j_aload_n C 1 rfl dX6_signAt_20 ?_
      refine j_get (q := 14) (kf := 0) (T := TX6) (N := 1) (RC := RX6) C m_14 ce_14 rfl in_X6 (by decide) (fun _ h9 => h9) fl_X6_9 rfl dX6_signAt_21 ?_
      refine j_iload_n C 0 rfl dX6_signAt_24 ?_
      refine j_cald (q := 15) C m_15 ce_15 hf dX6_signAt_25 (fun hf => ?_)
      refine j_goto C 31 dX6_signAt_26 (by decide) ?_
      obtain ⟨h6, hf⟩ := gd_some hf
      obtain rfl := Option.some.inj hf
      exact j_zret C hr hk (okc_n h6) ⟨Nat.le_of_ble_eq_true rfl, Nat.le_of_ble_eq_true rfl⟩ rfl dX6_signAt_31
