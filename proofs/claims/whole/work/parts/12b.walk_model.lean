set_option maxRecDepth 100000 in
set_option maxHeartbeats 4000000 in
theorem k_X9_thrown {l : Launch} {G : GT} {ad : Nat → Nat} {b : MS} {a : KS} {rr : Int32} (hf : f_X9_thrown b = some rr) : MT l G yX9_thrown cX9_thrown 1 (some .int) (RM 0) [.ref (ad 100)] ad a b (some (.int rr)) a b := by
  refine MT_of (by decide) (Nat.le_of_ble_eq_true rfl) ?_
  intro p e s m args below meth c A C hr hk
  unfold f_X9_thrown at hf
  refine j_aload_n C 0 rfl dX9_thrown_0 ?_
  refine j_get (q := 100) (kf := 0) (T := TX9) (N := 33) (RC := RX9) C m_100 ce_100 rfl in_X9 (by decide) (fun _ h9 => h9) fl_X9_66 rfl dX9_thrown_1 ?_
  obtain rfl := Option.some.inj hf
  exact j_iret C hr hk ⟨Nat.le_of_ble_eq_true rfl, Nat.le_of_ble_eq_true rfl⟩ rfl dX9_thrown_4
set_option maxRecDepth 100000 in
set_option maxHeartbeats 4000000 in
theorem k_X9_in {l : Launch} {G : GT} {ad : Nat → Nat} {b : MS} {v0 : Int32} {v1 : Int32} {v2 : Int32} {a : KS} {rr : Int32} (hf : f_X9_in b v0 v1 v2 = some rr) : MT l G yX9_in cX9_in 3 (some .boolean) (RM 0) [.int v0, .int v1, .int v2] ad a b (some (.int rr)) a b := by
  refine MT_of (by decide) (Nat.le_of_ble_eq_true rfl) ?_
  intro p e s m args below meth c A C hr hk
  unfold f_X9_in at hf
  refine j_iload_n C 0 rfl dX9_in_0 ?_
  refine j_iload_n C 1 rfl dX9_in_1 ?_
  refine j_icmp_lt C 14 dX9_in_2 (by decide) hf (fun y1 hf => ?_) (fun y1 hf => ?_)
  · refine j_iconst (v := 0) C (by decide) dX9_in_14 ?_
    obtain rfl := Option.some.inj hf
    exact j_zret C hr hk (by decide) ⟨Nat.le_of_ble_eq_true rfl, Nat.le_of_ble_eq_true rfl⟩ rfl dX9_in_15
  · refine j_iload_n C 0 rfl dX9_in_5 ?_
    refine j_iload_n C 2 rfl dX9_in_6 ?_
    refine j_icmp_gt C 14 dX9_in_7 (by decide) hf (fun y2 hf => ?_) (fun y2 hf => ?_)
    · refine j_iconst (v := 0) C (by decide) dX9_in_14 ?_
      obtain rfl := Option.some.inj hf
      exact j_zret C hr hk (by decide) ⟨Nat.le_of_ble_eq_true rfl, Nat.le_of_ble_eq_true rfl⟩ rfl dX9_in_15
    · refine j_iconst (v := 1) C (by decide) dX9_in_10 ?_
      refine j_goto C 15 dX9_in_11 (by decide) ?_
      obtain rfl := Option.some.inj hf
      exact j_zret C hr hk (by decide) ⟨Nat.le_of_ble_eq_true rfl, Nat.le_of_ble_eq_true rfl⟩ rfl dX9_in_15
set_option maxRecDepth 100000 in
set_option maxHeartbeats 4000000 in
theorem k_X9_holds {l : Launch} {G : GT} {ad : Nat → Nat} {b : MS} {v1 : Int32} {a : KS} {rr : Int32 × MS} (hf : f_X9_holds b v1 = some rr) : MT l G yX9_holds cX9_holds 2 (some .boolean) (RM 0) [.ref (ad 100), .int v1] ad a b (some (.int rr.1)) a rr.2 := by
  refine MT_of (by decide) (Nat.le_of_ble_eq_true rfl) ?_
  intro p e s m args below meth c A C hr hk
  unfold f_X9_holds at hf
  refine j_aload_n C 0 rfl dX9_holds_0 ?_
  refine j_iload_n C 1 rfl dX9_holds_1 ?_
  refine put_X9_0 C fl_X9_66 rfl rfl dX9_holds_2 ?_
  refine j_iload_n C 1 rfl dX9_holds_5 ?_
  refine j_if_ne C 13 dX9_holds_6 (by decide) hf (fun y1 hf => ?_) (fun y1 hf => ?_)
  · refine j_iconst (v := 0) C (by decide) dX9_holds_13 ?_
    obtain rfl := Option.some.inj hf
    exact j_zret C hr hk (by decide) ⟨Nat.le_of_ble_eq_true rfl, Nat.le_of_ble_eq_true rfl⟩ rfl dX9_holds_14
  · refine j_iconst (v := 1) C (by decide) dX9_holds_9 ?_
    refine j_goto C 14 dX9_holds_10 (by decide) ?_
    obtain rfl := Option.some.inj hf
    exact j_zret C hr hk (by decide) ⟨Nat.le_of_ble_eq_true rfl, Nat.le_of_ble_eq_true rfl⟩ rfl dX9_holds_14
set_option maxRecDepth 100000 in
set_option maxHeartbeats 4000000 in
theorem k_X9_isItem {l : Launch} {G : GT} {ad : Nat → Nat} {b : MS} {v1 : Int32} {a : KS} {rr : Int32} (hf : f_X9_isItem b v1 = some rr) : MT l G yX9_isItem cX9_isItem 2 (some .boolean) (RM 1) [.ref (ad 100), .int v1] ad a b (some (.int rr)) a b := by
  refine MT_of (by decide) (Nat.le_of_ble_eq_true rfl) ?_
  intro p e s m args below meth c A C hr hk
  unfold f_X9_isItem at hf
  refine j_iload_n C 1 rfl dX9_isItem_0 ?_
  refine j_iconst (v := 0) C (by decide) dX9_isItem_1 ?_
  refine j_aload_n C 0 rfl dX9_isItem_2 ?_
  refine j_get (q := 100) (kf := 1) (T := TX9) (N := 33) (RC := RX9) C m_100 ce_100 rfl in_X9 (by decide) (fun _ h9 => h9) fl_X9_62 rfl dX9_isItem_3 ?_
  refine j_iconst (v := 1) C (by decide) dX9_isItem_6 ?_
  refine j_isub C dX9_isItem_7 ?_
  obtain ⟨z1, h2, hf⟩ := bnd_some hf
  refine j_callS (As := [.int v1, .int 0, .int ((Mhi b 100 1) - 1)]) (rest := []) C (k_X9_in h2) cw_X9_in ml_X9_69 rfl ⟨Nat.le_of_ble_eq_true rfl, Nat.le_of_ble_eq_true rfl⟩ ⟨Nat.le_of_ble_eq_true rfl, Nat.le_of_ble_eq_true rfl⟩ rfl (Nat.le_of_ble_eq_true rfl) dX9_isItem_8 ?_
  obtain ⟨h4, hf⟩ := gd_some hf
  obtain rfl := Option.some.inj hf
  exact j_zret C hr hk (okz_n h4) ⟨Nat.le_of_ble_eq_true rfl, Nat.le_of_ble_eq_true rfl⟩ rfl dX9_isItem_11
set_option maxRecDepth 100000 in
set_option maxHeartbeats 4000000 in
theorem k_X9_isShut {l : Launch} {G : GT} {ad : Nat → Nat} {b : MS} {v1 : Int32} {a : KS} {rr : Int32} (hf : f_X9_isShut b v1 = some rr) : MT l G yX9_isShut cX9_isShut 2 (some .boolean) (RM 0) [.ref (ad 100), .int v1] ad a b (some (.int rr)) a b := by
  refine MT_of (by decide) (Nat.le_of_ble_eq_true rfl) ?_
  intro p e s m args below meth c A C hr hk
  unfold f_X9_isShut at hf
  refine j_aload_n C 0 rfl dX9_isShut_0 ?_
  refine j_get (q := 100) (kf := 8) (T := TX9) (N := 33) (RC := RX9) C m_100 ce_100 rfl in_X9 (by decide) (fun _ h9 => h9) fl_X9_28 rfl dX9_isShut_1 ?_
  refine j_iload_n C 1 rfl dX9_isShut_4 ?_
  refine j_iald (q := 108) C m_108 ce_108 hf dX9_isShut_5 (fun hf => ?_)
  refine j_iconst (v := -1) C (by decide) dX9_isShut_6 ?_
  refine j_icmp_eq C 23 dX9_isShut_7 (by decide) hf (fun y1 hf => ?_) (fun y1 hf => ?_)
  · refine j_iconst (v := 0) C (by decide) dX9_isShut_23 ?_
    obtain rfl := Option.some.inj hf
    exact j_zret C hr hk (by decide) ⟨Nat.le_of_ble_eq_true rfl, Nat.le_of_ble_eq_true rfl⟩ rfl dX9_isShut_24
  · refine j_aload_n C 0 rfl dX9_isShut_10 ?_
    refine j_get (q := 100) (kf := 9) (T := TX9) (N := 33) (RC := RX9) C m_100 ce_100 rfl in_X9 (by decide) (fun _ h9 => h9) fl_X9_31 rfl dX9_isShut_11 ?_
    refine j_iload_n C 1 rfl dX9_isShut_14 ?_
    refine j_zald (q := 109) C m_109 ce_109 hf dX9_isShut_15 (fun hf => ?_)
    refine j_if_ne C 23 dX9_isShut_16 (by decide) hf (fun y2 hf => ?_) (fun y2 hf => ?_)
    · refine j_iconst (v := 0) C (by decide) dX9_isShut_23 ?_
      obtain rfl := Option.some.inj hf
      exact j_zret C hr hk (by decide) ⟨Nat.le_of_ble_eq_true rfl, Nat.le_of_ble_eq_true rfl⟩ rfl dX9_isShut_24
    · refine j_iconst (v := 1) C (by decide) dX9_isShut_19 ?_
      refine j_goto C 24 dX9_isShut_20 (by decide) ?_
      obtain rfl := Option.some.inj hf
      exact j_zret C hr hk (by decide) ⟨Nat.le_of_ble_eq_true rfl, Nat.le_of_ble_eq_true rfl⟩ rfl dX9_isShut_24
set_option maxRecDepth 100000 in
set_option maxHeartbeats 4000000 in
theorem w_X9_levelOf_4 {p : Program} {l : Launch} {e : Env} {s : State} {m : MethodId} {args : Array Value} {below : List Frame} {meth : Method} {c : Code} {G : GT} {A : Nat → Prop} {ad : Nat → Nat} (C : CX G A RX9 cX9_levelOf 4 p s m args c) (hr : meth.sig.returnType = (some .int)) (hk : meth.locks = false) {a : KS} {rr : Int32} (c4 : MS → Int32 → Int32 → Option Int32) (K4 : ∀ (b : MS) (v2 : Int32) (v3 : Int32), c4 b v2 v3 = some rr → J p l e (RM 0) s m args below meth c G A 4 (MQ below (QV (some (.int rr)) (PosW G ad a b A) A) args s 0 0 A) 0 0 ad a b 4 [(0, .ref (ad 100)), (2, .int v2), (3, .int v3)] []) (b : MS) (v2 : Int32) (v3 : Int32) (hf : f_X9_levelOf_4 c4 b v2 v3 = some rr) : J p l e (RM 0) s m args below meth c G A 4 (MQ below (QV (some (.int rr)) (PosW G ad a b A) A) args s 0 0 A) 0 0 ad a b 4 [(0, .ref (ad 100)), (2, .int v2), (3, .int v3)] [] := by
  unfold f_X9_levelOf_4 at hf
  refine j_aload_n C 0 rfl dX9_levelOf_4 ?_
  refine j_get (q := 100) (kf := 3) (T := TX9) (N := 33) (RC := RX9) C m_100 ce_100 rfl in_X9 (by decide) (fun _ h9 => h9) fl_X9_13 rfl dX9_levelOf_5 ?_
  refine j_iload_n C 2 rfl dX9_levelOf_8 ?_
  refine j_iald (q := 103) C m_103 ce_103 hf dX9_levelOf_9 (fun hf => ?_)
  refine j_iconst (v := -1) C (by decide) dX9_levelOf_10 ?_
  refine j_icmp_eq C 27 dX9_levelOf_11 (by decide) hf (fun y1 hf => ?_) (fun y1 hf => ?_)
  · refine j_iload_n C 1 rfl dX9_levelOf_27 ?_
    obtain rfl := Option.some.inj hf
    exact j_iret C hr hk ⟨Nat.le_of_ble_eq_true rfl, Nat.le_of_ble_eq_true rfl⟩ rfl dX9_levelOf_28
  · refine j_iinc (v := v2 + 1) (lv' := [(2, .int (v2 + 1)), (0, .ref (ad 100)), (3, .int v3)]) C 1 rfl rfl (by decide) rfl dX9_levelOf_14 ?_
    refine j_aload_n C 1 rfl dX9_levelOf_17 ?_
    refine j_get (q := 100) (kf := 3) (T := TX9) (N := 33) (RC := RX9) C m_100 ce_100 rfl in_X9 (by decide) (fun _ h9 => h9) fl_X9_13 rfl dX9_levelOf_18 ?_
    refine j_iload_n C 2 rfl dX9_levelOf_21 ?_
    refine j_iald (q := 103) C m_103 ce_103 hf dX9_levelOf_22 (fun hf => ?_)
    refine j_letI hf (fun x2 hf => ?_)
    refine j_istore_n (i := 3) (lv' := [(3, .int x2), (2, .int (v2 + 1)), (0, .ref (ad 100))]) C dX9_levelOf_23 rfl (by decide) rfl ?_
    refine j_goto C 4 dX9_levelOf_24 (by decide) ?_
    refine j_sub [2, 1, 0] rfl ?_
    exact K4 b (v2 + 1) x2 hf
theorem wl_X9_levelOf_4 {p : Program} {l : Launch} {e : Env} {s : State} {m : MethodId} {args : Array Value} {below : List Frame} {meth : Method} {c : Code} {G : GT} {A : Nat → Prop} {ad : Nat → Nat} (C : CX G A RX9 cX9_levelOf 4 p s m args c) (hr : meth.sig.returnType = (some .int)) (hk : meth.locks = false) {a : KS} {rr : Int32} (fuel : Nat)   : ∀ (b : MS) (v2 : Int32) (v3 : Int32), l_X9_levelOf_4 fuel  b v2 v3 = some rr → J p l e (RM 0) s m args below meth c G A 4 (MQ below (QV (some (.int rr)) (PosW G ad a b A) A) args s 0 0 A) 0 0 ad a b 4 [(0, .ref (ad 100)), (2, .int v2), (3, .int v3)] [] := by
  induction fuel with
  | zero => intro b v2 v3 hf; cases hf
  | succ n ih =>
    intro b v2 v3 hf
    have hf : f_X9_levelOf_4 (l_X9_levelOf_4 n ) b v2 v3 = some rr := hf
    exact w_X9_levelOf_4 C hr hk (l_X9_levelOf_4 n ) ih b v2 v3 hf
set_option maxRecDepth 100000 in
set_option maxHeartbeats 4000000 in
theorem k_X9_levelOf {l : Launch} {G : GT} {ad : Nat → Nat} {b : MS} {v1 : Int32} {a : KS} {rr : Int32} (hf : f_X9_levelOf b v1 = some rr) : MT l G yX9_levelOf cX9_levelOf 4 (some .int) (RM 0) [.ref (ad 100), .int v1] ad a b (some (.int rr)) a b := by
  refine MT_of (by decide) (Nat.le_of_ble_eq_true rfl) ?_
  intro p e s m args below meth c A C hr hk
  unfold f_X9_levelOf at hf
  refine j_iconst (v := 0) C (by decide) dX9_levelOf_0 ?_
  refine j_istore_n (i := 2) (lv' := [(2, .int 0), (0, .ref (ad 100)), (1, .int v1)]) C dX9_levelOf_1 rfl (by decide) rfl ?_
  refine j_iload_n C 2 rfl dX9_levelOf_2 ?_
  refine j_istore_n (i := 3) (lv' := [(3, .int v1), (2, .int 0), (0, .ref (ad 100)), (1, .int v1)]) C dX9_levelOf_3 rfl (by decide) rfl ?_
  refine j_sub [2, 1, 0] rfl ?_
  exact wl_X9_levelOf_4 C hr hk FU b 0 v1 hf
set_option maxRecDepth 100000 in
set_option maxHeartbeats 4000000 in
theorem w_X9_itemsOf_28 {p : Program} {l : Launch} {e : Env} {s : State} {m : MethodId} {args : Array Value} {below : List Frame} {meth : Method} {c : Code} {G : GT} {A : Nat → Prop} {ad : Nat → Nat} (C : CX G A RX9 cX9_itemsOf 4 p s m args c) (hr : meth.sig.returnType = (some .int)) (hk : meth.locks = false) {a : KS} {rr : Int32} (c4 : MS → Int32 → Int32 → Int32 → Option Int32) (K4 : ∀ (b : MS) (v1 : Int32) (v2 : Int32) (v3 : Int32), c4 b v1 v2 v3 = some rr → J p l e (RM 0) s m args below meth c G A 4 (MQ below (QV (some (.int rr)) (PosW G ad a b A) A) args s 0 0 A) 0 0 ad a b 4 [(0, .ref (ad 100)), (1, .int v1), (2, .int v2), (3, .int v3)] []) (b : MS) (v1 : Int32) (v3 : Int32) (s0 : Int32) (s1 : Int32) (hf : f_X9_itemsOf_28 c4 b v1 v3 s0 s1 = some rr) : J p l e (RM 0) s m args below meth c G A 4 (MQ below (QV (some (.int rr)) (PosW G ad a b A) A) args s 0 0 A) 0 0 ad a b 28 [(0, .ref (ad 100)), (1, .int v1), (3, .int v3)] [.int s1, .int s0] := by
  unfold f_X9_itemsOf_28 at hf
  refine j_iadd C dX9_itemsOf_28 ?_
  refine j_letI hf (fun x1 hf => ?_)
  refine j_istore_n (i := 2) (lv' := [(2, .int x1), (0, .ref (ad 100)), (1, .int v1), (3, .int v3)]) C dX9_itemsOf_29 rfl (by decide) rfl ?_
  refine j_iinc (v := v3 + 1) (lv' := [(3, .int (v3 + 1)), (2, .int x1), (0, .ref (ad 100)), (1, .int v1)]) C 3 rfl rfl (by decide) rfl dX9_itemsOf_30 ?_
  refine j_goto C 4 dX9_itemsOf_33 (by decide) ?_
  refine j_sub [2, 3, 1, 0] rfl ?_
  exact K4 b v1 x1 (v3 + 1) hf
set_option maxRecDepth 100000 in
set_option maxHeartbeats 4000000 in
theorem w_X9_itemsOf_4 {p : Program} {l : Launch} {e : Env} {s : State} {m : MethodId} {args : Array Value} {below : List Frame} {meth : Method} {c : Code} {G : GT} {A : Nat → Prop} {ad : Nat → Nat} (C : CX G A RX9 cX9_itemsOf 4 p s m args c) (hr : meth.sig.returnType = (some .int)) (hk : meth.locks = false) {a : KS} {rr : Int32} (c4 : MS → Int32 → Int32 → Int32 → Option Int32) (K4 : ∀ (b : MS) (v1 : Int32) (v2 : Int32) (v3 : Int32), c4 b v1 v2 v3 = some rr → J p l e (RM 0) s m args below meth c G A 4 (MQ below (QV (some (.int rr)) (PosW G ad a b A) A) args s 0 0 A) 0 0 ad a b 4 [(0, .ref (ad 100)), (1, .int v1), (2, .int v2), (3, .int v3)] []) (b : MS) (v1 : Int32) (v2 : Int32) (v3 : Int32) (hf : f_X9_itemsOf_4 c4 b v1 v2 v3 = some rr) : J p l e (RM 0) s m args below meth c G A 4 (MQ below (QV (some (.int rr)) (PosW G ad a b A) A) args s 0 0 A) 0 0 ad a b 4 [(0, .ref (ad 100)), (1, .int v1), (2, .int v2), (3, .int v3)] [] := by
  unfold f_X9_itemsOf_4 at hf
  refine j_iload_n C 3 rfl dX9_itemsOf_4 ?_
  refine j_aload_n C 0 rfl dX9_itemsOf_5 ?_
  refine j_get (q := 100) (kf := 1) (T := TX9) (N := 33) (RC := RX9) C m_100 ce_100 rfl in_X9 (by decide) (fun _ h9 => h9) fl_X9_62 rfl dX9_itemsOf_6 ?_
  refine j_icmp_ge C 36 dX9_itemsOf_9 (by decide) hf (fun y1 hf => ?_) (fun y1 hf => ?_)
  · refine j_iload_n C 2 rfl dX9_itemsOf_36 ?_
    obtain rfl := Option.some.inj hf
    exact j_iret C hr hk ⟨Nat.le_of_ble_eq_true rfl, Nat.le_of_ble_eq_true rfl⟩ rfl dX9_itemsOf_37
  · refine j_iload_n C 2 rfl dX9_itemsOf_12 ?_
    refine j_aload_n C 0 rfl dX9_itemsOf_13 ?_
    refine j_get (q := 100) (kf := 3) (T := TX9) (N := 33) (RC := RX9) C m_100 ce_100 rfl in_X9 (by decide) (fun _ h9 => h9) fl_X9_13 rfl dX9_itemsOf_14 ?_
    refine j_iload_n C 3 rfl dX9_itemsOf_17 ?_
    refine j_iald (q := 103) C m_103 ce_103 hf dX9_itemsOf_18 (fun hf => ?_)
    refine j_iload_n C 1 rfl dX9_itemsOf_19 ?_
    refine j_icmp_ne C 27 dX9_itemsOf_20 (by decide) hf (fun y2 hf => ?_) (fun y2 hf => ?_)
    · refine j_iconst (v := 0) C (by decide) dX9_itemsOf_27 ?_
      refine j_sub [0, 1, 3] rfl ?_
      exact w_X9_itemsOf_28 C hr hk c4 K4 b v1 v3 v2 0 hf
    · refine j_iconst (v := 1) C (by decide) dX9_itemsOf_23 ?_
      refine j_goto C 28 dX9_itemsOf_24 (by decide) ?_
      refine j_sub [0, 1, 3] rfl ?_
      exact w_X9_itemsOf_28 C hr hk c4 K4 b v1 v3 v2 1 hf
theorem wl_X9_itemsOf_4 {p : Program} {l : Launch} {e : Env} {s : State} {m : MethodId} {args : Array Value} {below : List Frame} {meth : Method} {c : Code} {G : GT} {A : Nat → Prop} {ad : Nat → Nat} (C : CX G A RX9 cX9_itemsOf 4 p s m args c) (hr : meth.sig.returnType = (some .int)) (hk : meth.locks = false) {a : KS} {rr : Int32} (fuel : Nat)   : ∀ (b : MS) (v1 : Int32) (v2 : Int32) (v3 : Int32), l_X9_itemsOf_4 fuel  b v1 v2 v3 = some rr → J p l e (RM 0) s m args below meth c G A 4 (MQ below (QV (some (.int rr)) (PosW G ad a b A) A) args s 0 0 A) 0 0 ad a b 4 [(0, .ref (ad 100)), (1, .int v1), (2, .int v2), (3, .int v3)] [] := by
  induction fuel with
  | zero => intro b v1 v2 v3 hf; cases hf
  | succ n ih =>
    intro b v1 v2 v3 hf
    have hf : f_X9_itemsOf_4 (l_X9_itemsOf_4 n ) b v1 v2 v3 = some rr := hf
    exact w_X9_itemsOf_4 C hr hk (l_X9_itemsOf_4 n ) ih b v1 v2 v3 hf
set_option maxRecDepth 100000 in
set_option maxHeartbeats 4000000 in
theorem k_X9_itemsOf {l : Launch} {G : GT} {ad : Nat → Nat} {b : MS} {v1 : Int32} {a : KS} {rr : Int32} (hf : f_X9_itemsOf b v1 = some rr) : MT l G yX9_itemsOf cX9_itemsOf 4 (some .int) (RM 0) [.ref (ad 100), .int v1] ad a b (some (.int rr)) a b := by
  refine MT_of (by decide) (Nat.le_of_ble_eq_true rfl) ?_
  intro p e s m args below meth c A C hr hk
  unfold f_X9_itemsOf at hf
  refine j_iconst (v := 0) C (by decide) dX9_itemsOf_0 ?_
  refine j_istore_n (i := 2) (lv' := [(2, .int 0), (0, .ref (ad 100)), (1, .int v1)]) C dX9_itemsOf_1 rfl (by decide) rfl ?_
  refine j_iconst (v := 1) C (by decide) dX9_itemsOf_2 ?_
  refine j_istore_n (i := 3) (lv' := [(3, .int 1), (2, .int 0), (0, .ref (ad 100)), (1, .int v1)]) C dX9_itemsOf_3 rfl (by decide) rfl ?_
  refine j_sub [2, 3, 1, 0] rfl ?_
  exact wl_X9_itemsOf_4 C hr hk FU b v1 0 1 hf
set_option maxRecDepth 100000 in
set_option maxHeartbeats 4000000 in
theorem k_X9_entries {l : Launch} {G : GT} {ad : Nat → Nat} {b : MS} {v1 : Int32} {a : KS} {rr : Int32} (hf : f_X9_entries b v1 = some rr) : MT l G yX9_entries cX9_entries 2 (some .int) (RM 1) [.ref (ad 100), .int v1] ad a b (some (.int rr)) a b := by
  refine MT_of (by decide) (Nat.le_of_ble_eq_true rfl) ?_
  intro p e s m args below meth c A C hr hk
  unfold f_X9_entries at hf
  refine j_aload_n C 0 rfl dX9_entries_0 ?_
  refine j_iload_n C 1 rfl dX9_entries_1 ?_
  obtain ⟨z1, h2, hf⟩ := bnd_some hf
  refine j_callV (q := 100) (As := [.int v1]) (rest := []) C (k_X9_itemsOf h2) cw_X9_itemsOf ml_X9_73 m_100 ce_100 rfl rfl ⟨Nat.le_of_ble_eq_true rfl, Nat.le_of_ble_eq_true rfl⟩ ⟨Nat.le_of_ble_eq_true rfl, Nat.le_of_ble_eq_true rfl⟩ rfl (Nat.le_of_ble_eq_true rfl) dX9_entries_2 ?_
  refine j_iload_n C 1 rfl dX9_entries_5 ?_
  refine j_if_ne C 13 dX9_entries_6 (by decide) hf (fun y4 hf => ?_) (fun y4 hf => ?_)
  · refine j_iconst (v := 1) C (by decide) dX9_entries_13 ?_
    refine j_iadd C dX9_entries_14 ?_
    obtain rfl := Option.some.inj hf
    exact j_iret C hr hk ⟨Nat.le_of_ble_eq_true rfl, Nat.le_of_ble_eq_true rfl⟩ rfl dX9_entries_15
  · refine j_iconst (v := 0) C (by decide) dX9_entries_9 ?_
    refine j_goto C 14 dX9_entries_10 (by decide) ?_
    refine j_iadd C dX9_entries_14 ?_
    obtain rfl := Option.some.inj hf
    exact j_iret C hr hk ⟨Nat.le_of_ble_eq_true rfl, Nat.le_of_ble_eq_true rfl⟩ rfl dX9_entries_15
set_option maxRecDepth 100000 in
set_option maxHeartbeats 4000000 in
theorem w_X9_indexOf_30 {p : Program} {l : Launch} {e : Env} {s : State} {m : MethodId} {args : Array Value} {below : List Frame} {meth : Method} {c : Code} {G : GT} {A : Nat → Prop} {ad : Nat → Nat} (C : CX G A RX9 cX9_indexOf 4 p s m args c) (hr : meth.sig.returnType = (some .int)) (hk : meth.locks = false) {a : KS} {rr : Int32} (c4 : MS → Int32 → Int32 → Int32 → Option Int32) (K4 : ∀ (b : MS) (v1 : Int32) (v2 : Int32) (v3 : Int32), c4 b v1 v2 v3 = some rr → J p l e (RM 0) s m args below meth c G A 4 (MQ below (QV (some (.int rr)) (PosW G ad a b A) A) args s 0 0 A) 0 0 ad a b 4 [(0, .ref (ad 100)), (1, .int v1), (2, .int v2), (3, .int v3)] []) (b : MS) (v1 : Int32) (v3 : Int32) (s0 : Int32) (s1 : Int32) (hf : f_X9_indexOf_30 c4 b v1 v3 s0 s1 = some rr) : J p l e (RM 0) s m args below meth c G A 4 (MQ below (QV (some (.int rr)) (PosW G ad a b A) A) args s 0 0 A) 0 0 ad a b 30 [(0, .ref (ad 100)), (1, .int v1), (3, .int v3)] [.int s1, .int s0] := by
  unfold f_X9_indexOf_30 at hf
  refine j_iadd C dX9_indexOf_30 ?_
  refine j_letI hf (fun x1 hf => ?_)
  refine j_istore_n (i := 2) (lv' := [(2, .int x1), (0, .ref (ad 100)), (1, .int v1), (3, .int v3)]) C dX9_indexOf_31 rfl (by decide) rfl ?_
  refine j_iinc (v := v3 + 1) (lv' := [(3, .int (v3 + 1)), (2, .int x1), (0, .ref (ad 100)), (1, .int v1)]) C 3 rfl rfl (by decide) rfl dX9_indexOf_32 ?_
  refine j_goto C 4 dX9_indexOf_35 (by decide) ?_
  refine j_sub [2, 3, 1, 0] rfl ?_
  exact K4 b v1 x1 (v3 + 1) hf
set_option maxRecDepth 100000 in
set_option maxHeartbeats 4000000 in
theorem w_X9_indexOf_4 {p : Program} {l : Launch} {e : Env} {s : State} {m : MethodId} {args : Array Value} {below : List Frame} {meth : Method} {c : Code} {G : GT} {A : Nat → Prop} {ad : Nat → Nat} (C : CX G A RX9 cX9_indexOf 4 p s m args c) (hr : meth.sig.returnType = (some .int)) (hk : meth.locks = false) {a : KS} {rr : Int32} (c4 : MS → Int32 → Int32 → Int32 → Option Int32) (K4 : ∀ (b : MS) (v1 : Int32) (v2 : Int32) (v3 : Int32), c4 b v1 v2 v3 = some rr → J p l e (RM 0) s m args below meth c G A 4 (MQ below (QV (some (.int rr)) (PosW G ad a b A) A) args s 0 0 A) 0 0 ad a b 4 [(0, .ref (ad 100)), (1, .int v1), (2, .int v2), (3, .int v3)] []) (b : MS) (v1 : Int32) (v2 : Int32) (v3 : Int32) (hf : f_X9_indexOf_4 c4 b v1 v2 v3 = some rr) : J p l e (RM 0) s m args below meth c G A 4 (MQ below (QV (some (.int rr)) (PosW G ad a b A) A) args s 0 0 A) 0 0 ad a b 4 [(0, .ref (ad 100)), (1, .int v1), (2, .int v2), (3, .int v3)] [] := by
  unfold f_X9_indexOf_4 at hf
  refine j_iload_n C 3 rfl dX9_indexOf_4 ?_
  refine j_iload_n C 1 rfl dX9_indexOf_5 ?_
  refine j_icmp_ge C 38 dX9_indexOf_6 (by decide) hf (fun y1 hf => ?_) (fun y1 hf => ?_)
  · refine j_iload_n C 2 rfl dX9_indexOf_38 ?_
    obtain rfl := Option.some.inj hf
    exact j_iret C hr hk ⟨Nat.le_of_ble_eq_true rfl, Nat.le_of_ble_eq_true rfl⟩ rfl dX9_indexOf_39
  · refine j_iload_n C 2 rfl dX9_indexOf_9 ?_
    refine j_aload_n C 0 rfl dX9_indexOf_10 ?_
    refine j_get (q := 100) (kf := 3) (T := TX9) (N := 33) (RC := RX9) C m_100 ce_100 rfl in_X9 (by decide) (fun _ h9 => h9) fl_X9_13 rfl dX9_indexOf_11 ?_
    refine j_iload_n C 3 rfl dX9_indexOf_14 ?_
    refine j_iald (q := 103) C m_103 ce_103 hf dX9_indexOf_15 (fun hf => ?_)
    refine j_aload_n C 0 rfl dX9_indexOf_16 ?_
    refine j_get (q := 100) (kf := 3) (T := TX9) (N := 33) (RC := RX9) C m_100 ce_100 rfl in_X9 (by decide) (fun _ h9 => h9) fl_X9_13 rfl dX9_indexOf_17 ?_
    refine j_iload_n C 1 rfl dX9_indexOf_20 ?_
    refine j_iald (q := 103) C m_103 ce_103 hf dX9_indexOf_21 (fun hf => ?_)
    refine j_icmp_ne C 29 dX9_indexOf_22 (by decide) hf (fun y2 hf => ?_) (fun y2 hf => ?_)
    · refine j_iconst (v := 0) C (by decide) dX9_indexOf_29 ?_
      refine j_sub [0, 1, 3] rfl ?_
      exact w_X9_indexOf_30 C hr hk c4 K4 b v1 v3 v2 0 hf
    · refine j_iconst (v := 1) C (by decide) dX9_indexOf_25 ?_
      refine j_goto C 30 dX9_indexOf_26 (by decide) ?_
      refine j_sub [0, 1, 3] rfl ?_
      exact w_X9_indexOf_30 C hr hk c4 K4 b v1 v3 v2 1 hf
theorem wl_X9_indexOf_4 {p : Program} {l : Launch} {e : Env} {s : State} {m : MethodId} {args : Array Value} {below : List Frame} {meth : Method} {c : Code} {G : GT} {A : Nat → Prop} {ad : Nat → Nat} (C : CX G A RX9 cX9_indexOf 4 p s m args c) (hr : meth.sig.returnType = (some .int)) (hk : meth.locks = false) {a : KS} {rr : Int32} (fuel : Nat)   : ∀ (b : MS) (v1 : Int32) (v2 : Int32) (v3 : Int32), l_X9_indexOf_4 fuel  b v1 v2 v3 = some rr → J p l e (RM 0) s m args below meth c G A 4 (MQ below (QV (some (.int rr)) (PosW G ad a b A) A) args s 0 0 A) 0 0 ad a b 4 [(0, .ref (ad 100)), (1, .int v1), (2, .int v2), (3, .int v3)] [] := by
  induction fuel with
  | zero => intro b v1 v2 v3 hf; cases hf
  | succ n ih =>
    intro b v1 v2 v3 hf
    have hf : f_X9_indexOf_4 (l_X9_indexOf_4 n ) b v1 v2 v3 = some rr := hf
    exact w_X9_indexOf_4 C hr hk (l_X9_indexOf_4 n ) ih b v1 v2 v3 hf
set_option maxRecDepth 100000 in
set_option maxHeartbeats 4000000 in
theorem k_X9_indexOf {l : Launch} {G : GT} {ad : Nat → Nat} {b : MS} {v1 : Int32} {a : KS} {rr : Int32} (hf : f_X9_indexOf b v1 = some rr) : MT l G yX9_indexOf cX9_indexOf 4 (some .int) (RM 0) [.ref (ad 100), .int v1] ad a b (some (.int rr)) a b := by
  refine MT_of (by decide) (Nat.le_of_ble_eq_true rfl) ?_
  intro p e s m args below meth c A C hr hk
  unfold f_X9_indexOf at hf
  refine j_iconst (v := 0) C (by decide) dX9_indexOf_0 ?_
  refine j_istore_n (i := 2) (lv' := [(2, .int 0), (0, .ref (ad 100)), (1, .int v1)]) C dX9_indexOf_1 rfl (by decide) rfl ?_
  refine j_iconst (v := 1) C (by decide) dX9_indexOf_2 ?_
  refine j_istore_n (i := 3) (lv' := [(3, .int 1), (2, .int 0), (0, .ref (ad 100)), (1, .int v1)]) C dX9_indexOf_3 rfl (by decide) rfl ?_
  refine j_sub [2, 3, 1, 0] rfl ?_
  exact wl_X9_indexOf_4 C hr hk FU b v1 0 1 hf
set_option maxRecDepth 100000 in
set_option maxHeartbeats 4000000 in
theorem w_X9_itemAt_34 {p : Program} {l : Launch} {e : Env} {s : State} {m : MethodId} {args : Array Value} {below : List Frame} {meth : Method} {c : Code} {G : GT} {A : Nat → Prop} {ad : Nat → Nat} (C : CX G A RX9 cX9_itemAt 3 p s m args c) (hr : meth.sig.returnType = (some .int)) (hk : meth.locks = false) {a : KS} {rr : Int32} (c2 : MS → Int32 → Int32 → Option Int32) (K2 : ∀ (b : MS) (v1 : Int32) (v2 : Int32), c2 b v1 v2 = some rr → J p l e (RM 1) s m args below meth c G A 3 (MQ below (QV (some (.int rr)) (PosW G ad a b A) A) args s 0 0 A) 0 0 ad a b 2 [(0, .ref (ad 100)), (1, .int v1), (2, .int v2)] []) (b : MS) (v1 : Int32) (v2 : Int32) (hf : f_X9_itemAt_34 c2 b v1 v2 = some rr) : J p l e (RM 1) s m args below meth c G A 3 (MQ below (QV (some (.int rr)) (PosW G ad a b A) A) args s 0 0 A) 0 0 ad a b 34 [(0, .ref (ad 100)), (1, .int v1), (2, .int v2)] [] := by
  unfold f_X9_itemAt_34 at hf
  refine j_iinc (v := v2 + 1) (lv' := [(2, .int (v2 + 1)), (0, .ref (ad 100)), (1, .int v1)]) C 2 rfl rfl (by decide) rfl dX9_itemAt_34 ?_
  refine j_goto C 2 dX9_itemAt_37 (by decide) ?_
  refine j_sub [1, 2, 0] rfl ?_
  exact K2 b v1 (v2 + 1) hf
set_option maxRecDepth 100000 in
set_option maxHeartbeats 4000000 in
theorem w_X9_itemAt_2 {p : Program} {l : Launch} {e : Env} {s : State} {m : MethodId} {args : Array Value} {below : List Frame} {meth : Method} {c : Code} {G : GT} {A : Nat → Prop} {ad : Nat → Nat} (C : CX G A RX9 cX9_itemAt 3 p s m args c) (hr : meth.sig.returnType = (some .int)) (hk : meth.locks = false) {a : KS} {rr : Int32} (c2 : MS → Int32 → Int32 → Option Int32) (K2 : ∀ (b : MS) (v1 : Int32) (v2 : Int32), c2 b v1 v2 = some rr → J p l e (RM 1) s m args below meth c G A 3 (MQ below (QV (some (.int rr)) (PosW G ad a b A) A) args s 0 0 A) 0 0 ad a b 2 [(0, .ref (ad 100)), (1, .int v1), (2, .int v2)] []) (b : MS) (v1 : Int32) (v2 : Int32) (hf : f_X9_itemAt_2 c2 b v1 v2 = some rr) : J p l e (RM 1) s m args below meth c G A 3 (MQ below (QV (some (.int rr)) (PosW G ad a b A) A) args s 0 0 A) 0 0 ad a b 2 [(0, .ref (ad 100)), (1, .int v1), (2, .int v2)] [] := by
  unfold f_X9_itemAt_2 at hf
  refine j_iload_n C 2 rfl dX9_itemAt_2 ?_
  refine j_aload_n C 0 rfl dX9_itemAt_3 ?_
  refine j_get (q := 100) (kf := 1) (T := TX9) (N := 33) (RC := RX9) C m_100 ce_100 rfl in_X9 (by decide) (fun _ h9 => h9) fl_X9_62 rfl dX9_itemAt_4 ?_
  refine j_icmp_ge C 40 dX9_itemAt_7 (by decide) hf (fun y1 hf => ?_) (fun y1 hf => ?_)
  · refine j_iconst (v := -1) C (by decide) dX9_itemAt_40 ?_
    obtain rfl := Option.some.inj hf
    exact j_iret C hr hk ⟨Nat.le_of_ble_eq_true rfl, Nat.le_of_ble_eq_true rfl⟩ rfl dX9_itemAt_41
  · refine j_aload_n C 0 rfl dX9_itemAt_10 ?_
    refine j_get (q := 100) (kf := 3) (T := TX9) (N := 33) (RC := RX9) C m_100 ce_100 rfl in_X9 (by decide) (fun _ h9 => h9) fl_X9_13 rfl dX9_itemAt_11 ?_
    refine j_iload_n C 2 rfl dX9_itemAt_14 ?_
    refine j_iald (q := 103) C m_103 ce_103 hf dX9_itemAt_15 (fun hf => ?_)
    refine j_aload_n C 0 rfl dX9_itemAt_16 ?_
    refine j_get (q := 100) (kf := 11) (T := TX9) (N := 33) (RC := RX9) C m_100 ce_100 rfl in_X9 (by decide) (fun _ h9 => h9) fl_X9_77 rfl dX9_itemAt_17 ?_
    refine j_icmp_ne C 34 dX9_itemAt_20 (by decide) hf (fun y2 hf => ?_) (fun y2 hf => ?_)
    · refine j_sub [0, 1, 2] rfl ?_
      exact w_X9_itemAt_34 C hr hk c2 K2 b v1 v2 hf
    · refine j_aload_n C 0 rfl dX9_itemAt_23 ?_
      refine j_iload_n C 2 rfl dX9_itemAt_24 ?_
      obtain ⟨z3, h4, hf⟩ := bnd_some hf
      refine j_callV (q := 100) (As := [.int v2]) (rest := []) C (k_X9_indexOf h4) cw_X9_indexOf ml_X9_80 m_100 ce_100 rfl rfl ⟨Nat.le_of_ble_eq_true rfl, Nat.le_of_ble_eq_true rfl⟩ ⟨Nat.le_of_ble_eq_true rfl, Nat.le_of_ble_eq_true rfl⟩ rfl (Nat.le_of_ble_eq_true rfl) dX9_itemAt_25 ?_
      refine j_iload_n C 1 rfl dX9_itemAt_28 ?_
      refine j_icmp_ne C 34 dX9_itemAt_29 (by decide) hf (fun y6 hf => ?_) (fun y6 hf => ?_)
      · refine j_sub [0, 1, 2] rfl ?_
        exact w_X9_itemAt_34 C hr hk c2 K2 b v1 v2 hf
      · refine j_iload_n C 2 rfl dX9_itemAt_32 ?_
        obtain rfl := Option.some.inj hf
        exact j_iret C hr hk ⟨Nat.le_of_ble_eq_true rfl, Nat.le_of_ble_eq_true rfl⟩ rfl dX9_itemAt_33
theorem wl_X9_itemAt_2 {p : Program} {l : Launch} {e : Env} {s : State} {m : MethodId} {args : Array Value} {below : List Frame} {meth : Method} {c : Code} {G : GT} {A : Nat → Prop} {ad : Nat → Nat} (C : CX G A RX9 cX9_itemAt 3 p s m args c) (hr : meth.sig.returnType = (some .int)) (hk : meth.locks = false) {a : KS} {rr : Int32} (fuel : Nat)   : ∀ (b : MS) (v1 : Int32) (v2 : Int32), l_X9_itemAt_2 fuel  b v1 v2 = some rr → J p l e (RM 1) s m args below meth c G A 3 (MQ below (QV (some (.int rr)) (PosW G ad a b A) A) args s 0 0 A) 0 0 ad a b 2 [(0, .ref (ad 100)), (1, .int v1), (2, .int v2)] [] := by
  induction fuel with
  | zero => intro b v1 v2 hf; cases hf
  | succ n ih =>
    intro b v1 v2 hf
    have hf : f_X9_itemAt_2 (l_X9_itemAt_2 n ) b v1 v2 = some rr := hf
    exact w_X9_itemAt_2 C hr hk (l_X9_itemAt_2 n ) ih b v1 v2 hf
set_option maxRecDepth 100000 in
set_option maxHeartbeats 4000000 in
theorem k_X9_itemAt {l : Launch} {G : GT} {ad : Nat → Nat} {b : MS} {v1 : Int32} {a : KS} {rr : Int32} (hf : f_X9_itemAt b v1 = some rr) : MT l G yX9_itemAt cX9_itemAt 3 (some .int) (RM 1) [.ref (ad 100), .int v1] ad a b (some (.int rr)) a b := by
  refine MT_of (by decide) (Nat.le_of_ble_eq_true rfl) ?_
  intro p e s m args below meth c A C hr hk
  unfold f_X9_itemAt at hf
  refine j_iconst (v := 1) C (by decide) dX9_itemAt_0 ?_
  refine j_istore_n (i := 2) (lv' := [(2, .int 1), (0, .ref (ad 100)), (1, .int v1)]) C dX9_itemAt_1 rfl (by decide) rfl ?_
  refine j_sub [1, 2, 0] rfl ?_
  exact wl_X9_itemAt_2 C hr hk FU b v1 1 hf
set_option maxRecDepth 100000 in
set_option maxHeartbeats 4000000 in
theorem w_X9_anyOpen_40 {p : Program} {l : Launch} {e : Env} {s : State} {m : MethodId} {args : Array Value} {below : List Frame} {meth : Method} {c : Code} {G : GT} {A : Nat → Prop} {ad : Nat → Nat} (C : CX G A RX9 cX9_anyOpen 3 p s m args c) (hr : meth.sig.returnType = (some .boolean)) (hk : meth.locks = false) {a : KS} {rr : Int32} (c4 : MS → Int32 → Int32 → Option Int32) (K4 : ∀ (b : MS) (v1 : Int32) (v2 : Int32), c4 b v1 v2 = some rr → J p l e (RM 0) s m args below meth c G A 3 (MQ below (QV (some (.int rr)) (PosW G ad a b A) A) args s 0 0 A) 0 0 ad a b 4 [(0, .ref (ad 100)), (1, .int v1), (2, .int v2)] []) (b : MS) (v2 : Int32) (s0 : Int32) (hf : f_X9_anyOpen_40 c4 b v2 s0 = some rr) : J p l e (RM 0) s m args below meth c G A 3 (MQ below (QV (some (.int rr)) (PosW G ad a b A) A) args s 0 0 A) 0 0 ad a b 40 [(0, .ref (ad 100)), (2, .int v2)] [.int s0] := by
  unfold f_X9_anyOpen_40 at hf
  refine j_istore_n (i := 1) (lv' := [(1, .int s0), (0, .ref (ad 100)), (2, .int v2)]) C dX9_anyOpen_40 rfl (by decide) rfl ?_
  refine j_iinc (v := v2 + 1) (lv' := [(2, .int (v2 + 1)), (1, .int s0), (0, .ref (ad 100))]) C 2 rfl rfl (by decide) rfl dX9_anyOpen_41 ?_
  refine j_goto C 4 dX9_anyOpen_44 (by decide) ?_
  refine j_sub [2, 1, 0] rfl ?_
  exact K4 b s0 (v2 + 1) hf
set_option maxRecDepth 100000 in
set_option maxHeartbeats 4000000 in
theorem w_X9_anyOpen_35 {p : Program} {l : Launch} {e : Env} {s : State} {m : MethodId} {args : Array Value} {below : List Frame} {meth : Method} {c : Code} {G : GT} {A : Nat → Prop} {ad : Nat → Nat} (C : CX G A RX9 cX9_anyOpen 3 p s m args c) (hr : meth.sig.returnType = (some .boolean)) (hk : meth.locks = false) {a : KS} {rr : Int32} (c4 : MS → Int32 → Int32 → Option Int32) (K4 : ∀ (b : MS) (v1 : Int32) (v2 : Int32), c4 b v1 v2 = some rr → J p l e (RM 0) s m args below meth c G A 3 (MQ below (QV (some (.int rr)) (PosW G ad a b A) A) args s 0 0 A) 0 0 ad a b 4 [(0, .ref (ad 100)), (1, .int v1), (2, .int v2)] []) (b : MS) (v2 : Int32) (hf : f_X9_anyOpen_35 c4 b v2 = some rr) : J p l e (RM 0) s m args below meth c G A 3 (MQ below (QV (some (.int rr)) (PosW G ad a b A) A) args s 0 0 A) 0 0 ad a b 35 [(0, .ref (ad 100)), (2, .int v2)] [] := by
  unfold f_X9_anyOpen_35 at hf
  refine j_iconst (v := 1) C (by decide) dX9_anyOpen_35 ?_
  refine j_goto C 40 dX9_anyOpen_36 (by decide) ?_
  refine j_sub [0, 1] rfl ?_
  exact w_X9_anyOpen_40 C hr hk c4 K4 b v2 1 hf
set_option maxRecDepth 100000 in
set_option maxHeartbeats 4000000 in
theorem w_X9_anyOpen_39 {p : Program} {l : Launch} {e : Env} {s : State} {m : MethodId} {args : Array Value} {below : List Frame} {meth : Method} {c : Code} {G : GT} {A : Nat → Prop} {ad : Nat → Nat} (C : CX G A RX9 cX9_anyOpen 3 p s m args c) (hr : meth.sig.returnType = (some .boolean)) (hk : meth.locks = false) {a : KS} {rr : Int32} (c4 : MS → Int32 → Int32 → Option Int32) (K4 : ∀ (b : MS) (v1 : Int32) (v2 : Int32), c4 b v1 v2 = some rr → J p l e (RM 0) s m args below meth c G A 3 (MQ below (QV (some (.int rr)) (PosW G ad a b A) A) args s 0 0 A) 0 0 ad a b 4 [(0, .ref (ad 100)), (1, .int v1), (2, .int v2)] []) (b : MS) (v2 : Int32) (hf : f_X9_anyOpen_39 c4 b v2 = some rr) : J p l e (RM 0) s m args below meth c G A 3 (MQ below (QV (some (.int rr)) (PosW G ad a b A) A) args s 0 0 A) 0 0 ad a b 39 [(0, .ref (ad 100)), (2, .int v2)] [] := by
  unfold f_X9_anyOpen_39 at hf
  refine j_iconst (v := 0) C (by decide) dX9_anyOpen_39 ?_
  refine j_sub [0, 1] rfl ?_
  exact w_X9_anyOpen_40 C hr hk c4 K4 b v2 0 hf
set_option maxRecDepth 100000 in
set_option maxHeartbeats 4000000 in
theorem w_X9_anyOpen_4 {p : Program} {l : Launch} {e : Env} {s : State} {m : MethodId} {args : Array Value} {below : List Frame} {meth : Method} {c : Code} {G : GT} {A : Nat → Prop} {ad : Nat → Nat} (C : CX G A RX9 cX9_anyOpen 3 p s m args c) (hr : meth.sig.returnType = (some .boolean)) (hk : meth.locks = false) {a : KS} {rr : Int32} (c4 : MS → Int32 → Int32 → Option Int32) (K4 : ∀ (b : MS) (v1 : Int32) (v2 : Int32), c4 b v1 v2 = some rr → J p l e (RM 0) s m args below meth c G A 3 (MQ below (QV (some (.int rr)) (PosW G ad a b A) A) args s 0 0 A) 0 0 ad a b 4 [(0, .ref (ad 100)), (1, .int v1), (2, .int v2)] []) (b : MS) (v1 : Int32) (v2 : Int32) (hf : f_X9_anyOpen_4 c4 b v1 v2 = some rr) : J p l e (RM 0) s m args below meth c G A 3 (MQ below (QV (some (.int rr)) (PosW G ad a b A) A) args s 0 0 A) 0 0 ad a b 4 [(0, .ref (ad 100)), (1, .int v1), (2, .int v2)] [] := by
  unfold f_X9_anyOpen_4 at hf
  refine j_iload_n C 2 rfl dX9_anyOpen_4 ?_
  refine j_aload_n C 0 rfl dX9_anyOpen_5 ?_
  refine j_get (q := 100) (kf := 1) (T := TX9) (N := 33) (RC := RX9) C m_100 ce_100 rfl in_X9 (by decide) (fun _ h9 => h9) fl_X9_62 rfl dX9_anyOpen_6 ?_
  refine j_icmp_ge C 47 dX9_anyOpen_9 (by decide) hf (fun y1 hf => ?_) (fun y1 hf => ?_)
  · refine j_iload_n C 1 rfl dX9_anyOpen_47 ?_
    obtain ⟨h2, hf⟩ := gd_some hf
    obtain rfl := Option.some.inj hf
    exact j_zret C hr hk (okz_n h2) ⟨Nat.le_of_ble_eq_true rfl, Nat.le_of_ble_eq_true rfl⟩ rfl dX9_anyOpen_48
  · refine j_iload_n C 1 rfl dX9_anyOpen_12 ?_
    refine j_if_ne C 35 dX9_anyOpen_13 (by decide) hf (fun y3 hf => ?_) (fun y3 hf => ?_)
    · refine j_sub [0, 2] rfl ?_
      exact w_X9_anyOpen_35 C hr hk c4 K4 b v2 hf
    · refine j_aload_n C 0 rfl dX9_anyOpen_16 ?_
      refine j_get (q := 100) (kf := 8) (T := TX9) (N := 33) (RC := RX9) C m_100 ce_100 rfl in_X9 (by decide) (fun _ h9 => h9) fl_X9_28 rfl dX9_anyOpen_17 ?_
      refine j_iload_n C 2 rfl dX9_anyOpen_20 ?_
      refine j_iald (q := 108) C m_108 ce_108 hf dX9_anyOpen_21 (fun hf => ?_)
      refine j_iconst (v := -1) C (by decide) dX9_anyOpen_22 ?_
      refine j_icmp_eq C 39 dX9_anyOpen_23 (by decide) hf (fun y4 hf => ?_) (fun y4 hf => ?_)
      · refine j_sub [0, 2] rfl ?_
        exact w_X9_anyOpen_39 C hr hk c4 K4 b v2 hf
      · refine j_aload_n C 0 rfl dX9_anyOpen_26 ?_
        refine j_get (q := 100) (kf := 9) (T := TX9) (N := 33) (RC := RX9) C m_100 ce_100 rfl in_X9 (by decide) (fun _ h9 => h9) fl_X9_31 rfl dX9_anyOpen_27 ?_
        refine j_iload_n C 2 rfl dX9_anyOpen_30 ?_
        refine j_zald (q := 109) C m_109 ce_109 hf dX9_anyOpen_31 (fun hf => ?_)
        refine j_if_eq C 39 dX9_anyOpen_32 (by decide) hf (fun y5 hf => ?_) (fun y5 hf => ?_)
        · refine j_sub [0, 2] rfl ?_
          exact w_X9_anyOpen_39 C hr hk c4 K4 b v2 hf
        · refine j_sub [0, 2] rfl ?_
          exact w_X9_anyOpen_35 C hr hk c4 K4 b v2 hf
theorem wl_X9_anyOpen_4 {p : Program} {l : Launch} {e : Env} {s : State} {m : MethodId} {args : Array Value} {below : List Frame} {meth : Method} {c : Code} {G : GT} {A : Nat → Prop} {ad : Nat → Nat} (C : CX G A RX9 cX9_anyOpen 3 p s m args c) (hr : meth.sig.returnType = (some .boolean)) (hk : meth.locks = false) {a : KS} {rr : Int32} (fuel : Nat)   : ∀ (b : MS) (v1 : Int32) (v2 : Int32), l_X9_anyOpen_4 fuel  b v1 v2 = some rr → J p l e (RM 0) s m args below meth c G A 3 (MQ below (QV (some (.int rr)) (PosW G ad a b A) A) args s 0 0 A) 0 0 ad a b 4 [(0, .ref (ad 100)), (1, .int v1), (2, .int v2)] [] := by
  induction fuel with
  | zero => intro b v1 v2 hf; cases hf
  | succ n ih =>
    intro b v1 v2 hf
    have hf : f_X9_anyOpen_4 (l_X9_anyOpen_4 n ) b v1 v2 = some rr := hf
    exact w_X9_anyOpen_4 C hr hk (l_X9_anyOpen_4 n ) ih b v1 v2 hf
set_option maxRecDepth 100000 in
set_option maxHeartbeats 4000000 in
theorem k_X9_anyOpen {l : Launch} {G : GT} {ad : Nat → Nat} {b : MS} {a : KS} {rr : Int32} (hf : f_X9_anyOpen b = some rr) : MT l G yX9_anyOpen cX9_anyOpen 3 (some .boolean) (RM 0) [.ref (ad 100)] ad a b (some (.int rr)) a b := by
  refine MT_of (by decide) (Nat.le_of_ble_eq_true rfl) ?_
  intro p e s m args below meth c A C hr hk
  unfold f_X9_anyOpen at hf
  refine j_iconst (v := 0) C (by decide) dX9_anyOpen_0 ?_
  refine j_istore_n (i := 1) (lv' := [(1, .int 0), (0, .ref (ad 100))]) C dX9_anyOpen_1 rfl (by decide) rfl ?_
  refine j_iconst (v := 0) C (by decide) dX9_anyOpen_2 ?_
  refine j_istore_n (i := 2) (lv' := [(2, .int 0), (1, .int 0), (0, .ref (ad 100))]) C dX9_anyOpen_3 rfl (by decide) rfl ?_
  refine j_sub [2, 1, 0] rfl ?_
  exact wl_X9_anyOpen_4 C hr hk FU b 0 0 hf
set_option maxRecDepth 100000 in
set_option maxHeartbeats 4000000 in
theorem k_X9_home {l : Launch} {G : GT} {ad : Nat → Nat} {b : MS} {a : KS} {rr : Int32} (hf : f_X9_home b = some rr) : MT l G yX9_home cX9_home 1 (some .boolean) (RM 1) [.ref (ad 100)] ad a b (some (.int rr)) a b := by
  refine MT_of (by decide) (Nat.le_of_ble_eq_true rfl) ?_
  intro p e s m args below meth c A C hr hk
  unfold f_X9_home at hf
  refine j_aload_n C 0 rfl dX9_home_0 ?_
  refine j_get (q := 100) (kf := 10) (T := TX9) (N := 33) (RC := RX9) C m_100 ce_100 rfl in_X9 (by decide) (fun _ h9 => h9) fl_X9_83 rfl dX9_home_1 ?_
  refine j_if_ne C 32 dX9_home_4 (by decide) hf (fun y1 hf => ?_) (fun y1 hf => ?_)
  · refine j_iconst (v := 0) C (by decide) dX9_home_32 ?_
    obtain rfl := Option.some.inj hf
    exact j_zret C hr hk (by decide) ⟨Nat.le_of_ble_eq_true rfl, Nat.le_of_ble_eq_true rfl⟩ rfl dX9_home_33
  · refine j_aload_n C 0 rfl dX9_home_7 ?_
    refine j_get (q := 100) (kf := 11) (T := TX9) (N := 33) (RC := RX9) C m_100 ce_100 rfl in_X9 (by decide) (fun _ h9 => h9) fl_X9_77 rfl dX9_home_8 ?_
    refine j_if_ne C 32 dX9_home_11 (by decide) hf (fun y2 hf => ?_) (fun y2 hf => ?_)
    · refine j_iconst (v := 0) C (by decide) dX9_home_32 ?_
      obtain rfl := Option.some.inj hf
      exact j_zret C hr hk (by decide) ⟨Nat.le_of_ble_eq_true rfl, Nat.le_of_ble_eq_true rfl⟩ rfl dX9_home_33
    · refine j_aload_n C 0 rfl dX9_home_14 ?_
      refine j_get (q := 100) (kf := 12) (T := TX9) (N := 33) (RC := RX9) C m_100 ce_100 rfl in_X9 (by decide) (fun _ h9 => h9) fl_X9_86 rfl dX9_home_15 ?_
      refine j_if_ne C 32 dX9_home_18 (by decide) hf (fun y3 hf => ?_) (fun y3 hf => ?_)
      · refine j_iconst (v := 0) C (by decide) dX9_home_32 ?_
        obtain rfl := Option.some.inj hf
        exact j_zret C hr hk (by decide) ⟨Nat.le_of_ble_eq_true rfl, Nat.le_of_ble_eq_true rfl⟩ rfl dX9_home_33
      · refine j_aload_n C 0 rfl dX9_home_21 ?_
        obtain ⟨z4, h5, hf⟩ := bnd_some hf
        refine j_callV (q := 100) (As := []) (rest := []) C (k_X9_anyOpen h5) cw_X9_anyOpen ml_X9_89 m_100 ce_100 rfl rfl ⟨Nat.le_of_ble_eq_true rfl, Nat.le_of_ble_eq_true rfl⟩ ⟨Nat.le_of_ble_eq_true rfl, Nat.le_of_ble_eq_true rfl⟩ rfl (Nat.le_of_ble_eq_true rfl) dX9_home_22 ?_
        refine j_if_ne C 32 dX9_home_25 (by decide) hf (fun y7 hf => ?_) (fun y7 hf => ?_)
        · refine j_iconst (v := 0) C (by decide) dX9_home_32 ?_
          obtain rfl := Option.some.inj hf
          exact j_zret C hr hk (by decide) ⟨Nat.le_of_ble_eq_true rfl, Nat.le_of_ble_eq_true rfl⟩ rfl dX9_home_33
        · refine j_iconst (v := 1) C (by decide) dX9_home_28 ?_
          refine j_goto C 33 dX9_home_29 (by decide) ?_
          obtain rfl := Option.some.inj hf
          exact j_zret C hr hk (by decide) ⟨Nat.le_of_ble_eq_true rfl, Nat.le_of_ble_eq_true rfl⟩ rfl dX9_home_33
set_option maxRecDepth 100000 in
set_option maxHeartbeats 4000000 in
theorem w_X9_goHome_17 {p : Program} {l : Launch} {e : Env} {s : State} {m : MethodId} {args : Array Value} {below : List Frame} {meth : Method} {c : Code} {G : GT} {A : Nat → Prop} {ad : Nat → Nat} (C : CX G A RX9 cX9_goHome 2 p s m args c) (hr : meth.sig.returnType = none) (hk : meth.locks = false) {a : KS} {rr : MS} (c17 : MS → Int32 → Option MS) (K17 : ∀ (b : MS) (v1 : Int32), c17 b v1 = some rr → J p l e (RM 0) s m args below meth c G A 2 (MQ below (QV (none) (PosW G ad a rr A) A) args s 0 0 A) 0 0 ad a b 17 [(0, .ref (ad 100)), (1, .int v1)] []) (b : MS) (v1 : Int32) (hf : f_X9_goHome_17 c17 b v1 = some rr) : J p l e (RM 0) s m args below meth c G A 2 (MQ below (QV (none) (PosW G ad a rr A) A) args s 0 0 A) 0 0 ad a b 17 [(0, .ref (ad 100)), (1, .int v1)] [] := by
  unfold f_X9_goHome_17 at hf
  refine j_iload_n C 1 rfl dX9_goHome_17 ?_
  refine j_aload_n C 0 rfl dX9_goHome_18 ?_
  refine j_get (q := 100) (kf := 1) (T := TX9) (N := 33) (RC := RX9) C m_100 ce_100 rfl in_X9 (by decide) (fun _ h9 => h9) fl_X9_62 rfl dX9_goHome_19 ?_
  refine j_icmp_ge C 38 dX9_goHome_22 (by decide) hf (fun y1 hf => ?_) (fun y1 hf => ?_)
  · obtain rfl := Option.some.inj hf
    exact j_vret C hr hk ⟨Nat.le_of_ble_eq_true rfl, Nat.le_of_ble_eq_true rfl⟩ rfl dX9_goHome_38
  · refine j_aload_n C 0 rfl dX9_goHome_25 ?_
    refine j_get (q := 100) (kf := 9) (T := TX9) (N := 33) (RC := RX9) C m_100 ce_100 rfl in_X9 (by decide) (fun _ h9 => h9) fl_X9_31 rfl dX9_goHome_26 ?_
    refine j_iload_n C 1 rfl dX9_goHome_29 ?_
    refine j_iconst (v := 0) C (by decide) dX9_goHome_30 ?_
    refine ast_109 C hf dX9_goHome_31 (fun hf => ?_)
    refine j_iinc (v := v1 + 1) (lv' := [(1, .int (v1 + 1)), (0, .ref (ad 100))]) C 1 rfl rfl (by decide) rfl dX9_goHome_32 ?_
    refine j_goto C 17 dX9_goHome_35 (by decide) ?_
    refine j_sub [1, 0] rfl ?_
    exact K17 (sMhi b 109 (v1.toNatClampNeg) (vp_nar .boolean 0)) (v1 + 1) hf
theorem wl_X9_goHome_17 {p : Program} {l : Launch} {e : Env} {s : State} {m : MethodId} {args : Array Value} {below : List Frame} {meth : Method} {c : Code} {G : GT} {A : Nat → Prop} {ad : Nat → Nat} (C : CX G A RX9 cX9_goHome 2 p s m args c) (hr : meth.sig.returnType = none) (hk : meth.locks = false) {a : KS} {rr : MS} (fuel : Nat)   : ∀ (b : MS) (v1 : Int32), l_X9_goHome_17 fuel  b v1 = some rr → J p l e (RM 0) s m args below meth c G A 2 (MQ below (QV (none) (PosW G ad a rr A) A) args s 0 0 A) 0 0 ad a b 17 [(0, .ref (ad 100)), (1, .int v1)] [] := by
  induction fuel with
  | zero => intro b v1 hf; cases hf
  | succ n ih =>
    intro b v1 hf
    have hf : f_X9_goHome_17 (l_X9_goHome_17 n ) b v1 = some rr := hf
    exact w_X9_goHome_17 C hr hk (l_X9_goHome_17 n ) ih b v1 hf
set_option maxRecDepth 100000 in
set_option maxHeartbeats 4000000 in
theorem k_X9_goHome {l : Launch} {G : GT} {ad : Nat → Nat} {b : MS} {a : KS} {rr : MS} (hf : f_X9_goHome b = some rr) : MT l G yX9_goHome cX9_goHome 2 none (RM 0) [.ref (ad 100)] ad a b (none) a rr := by
  refine MT_of (by decide) (Nat.le_of_ble_eq_true rfl) ?_
  intro p e s m args below meth c A C hr hk
  unfold f_X9_goHome at hf
  refine j_aload_n C 0 rfl dX9_goHome_0 ?_
  refine j_iconst (v := 0) C (by decide) dX9_goHome_1 ?_
  refine put_X9_10 C fl_X9_83 rfl rfl dX9_goHome_2 ?_
  refine j_aload_n C 0 rfl dX9_goHome_5 ?_
  refine j_iconst (v := 0) C (by decide) dX9_goHome_6 ?_
  refine put_X9_11 C fl_X9_77 rfl rfl dX9_goHome_7 ?_
  refine j_aload_n C 0 rfl dX9_goHome_10 ?_
  refine j_iconst (v := 0) C (by decide) dX9_goHome_11 ?_
  refine put_X9_12 C fl_X9_86 rfl rfl dX9_goHome_12 ?_
  refine j_iconst (v := 0) C (by decide) dX9_goHome_15 ?_
  refine j_istore_n (i := 1) (lv' := [(1, .int 0), (0, .ref (ad 100))]) C dX9_goHome_16 rfl (by decide) rfl ?_
  refine j_sub [1, 0] rfl ?_
  exact wl_X9_goHome_17 C hr hk FU (sMhi (sMhi (sMhi b 100 10 0) 100 11 0) 100 12 0) 0 hf
set_option maxRecDepth 100000 in
set_option maxHeartbeats 4000000 in
theorem k_X9_adds {l : Launch} {G : GT} {ad : Nat → Nat} {b : MS} {v1 : Int32} {v2 : Int32} {a : KS} {rr : Int32 × MS} (hf : f_X9_adds b v1 v2 = some rr) : MT l G yX9_adds cX9_adds 3 (some .int) (RM 0) [.ref (ad 100), .int v1, .int v2] ad a b (some (.int rr.1)) a rr.2 := by
  refine MT_of (by decide) (Nat.le_of_ble_eq_true rfl) ?_
  intro p e s m args below meth c A C hr hk
  unfold f_X9_adds at hf
  refine j_aload_n C 0 rfl dX9_adds_0 ?_
  refine j_get (q := 100) (kf := 2) (T := TX9) (N := 33) (RC := RX9) C m_100 ce_100 rfl in_X9 (by decide) (fun _ h9 => h9) fl_X9_7 rfl dX9_adds_1 ?_
  refine j_aload_n C 0 rfl dX9_adds_4 ?_
  refine j_get (q := 100) (kf := 1) (T := TX9) (N := 33) (RC := RX9) C m_100 ce_100 rfl in_X9 (by decide) (fun _ h9 => h9) fl_X9_62 rfl dX9_adds_5 ?_
  refine j_iload_n C 1 rfl dX9_adds_8 ?_
  refine ast_102 C hf dX9_adds_9 (fun hf => ?_)
  refine j_aload_n C 0 rfl dX9_adds_10 ?_
  refine j_get (q := 100) (kf := 3) (T := TX9) (N := 33) (RC := RX9) C m_100 ce_100 rfl in_X9 (by decide) (fun _ h9 => h9) fl_X9_13 rfl dX9_adds_11 ?_
  refine j_aload_n C 0 rfl dX9_adds_14 ?_
  refine j_get (q := 100) (kf := 1) (T := TX9) (N := 33) (RC := RX9) C m_100 ce_100 rfl in_X9 (by decide) (fun _ h9 => h9) fl_X9_62 rfl dX9_adds_15 ?_
  refine j_iload_n C 2 rfl dX9_adds_18 ?_
  refine ast_103 C hf dX9_adds_19 (fun hf => ?_)
  refine j_aload_n C 0 rfl dX9_adds_20 ?_
  refine j_get (q := 100) (kf := 8) (T := TX9) (N := 33) (RC := RX9) C m_100 ce_100 rfl in_X9 (by decide) (fun _ h9 => h9) fl_X9_28 rfl dX9_adds_21 ?_
  refine j_aload_n C 0 rfl dX9_adds_24 ?_
  refine j_get (q := 100) (kf := 1) (T := TX9) (N := 33) (RC := RX9) C m_100 ce_100 rfl in_X9 (by decide) (fun _ h9 => h9) fl_X9_62 rfl dX9_adds_25 ?_
  refine j_iconst (v := -1) C (by decide) dX9_adds_28 ?_
  refine ast_108 C hf dX9_adds_29 (fun hf => ?_)
  refine j_aload_n C 0 rfl dX9_adds_30 ?_
  refine j_dup C rfl dX9_adds_31 ?_
  refine j_get (q := 100) (kf := 1) (T := TX9) (N := 33) (RC := RX9) C m_100 ce_100 rfl in_X9 (by decide) (fun _ h9 => h9) fl_X9_62 rfl dX9_adds_32 ?_
  refine j_iconst (v := 1) C (by decide) dX9_adds_35 ?_
  refine j_iadd C dX9_adds_36 ?_
  refine put_X9_1 C fl_X9_62 rfl rfl dX9_adds_37 ?_
  refine j_aload_n C 0 rfl dX9_adds_40 ?_
  refine j_get (q := 100) (kf := 1) (T := TX9) (N := 33) (RC := RX9) C m_100 ce_100 rfl in_X9 (by decide) (fun _ h9 => h9) fl_X9_62 rfl dX9_adds_41 ?_
  refine j_iconst (v := 1) C (by decide) dX9_adds_44 ?_
  refine j_isub C dX9_adds_45 ?_
  obtain rfl := Option.some.inj hf
  exact j_iret C hr hk ⟨Nat.le_of_ble_eq_true rfl, Nat.le_of_ble_eq_true rfl⟩ rfl dX9_adds_46
set_option maxRecDepth 100000 in
set_option maxHeartbeats 4000000 in
theorem k_X9_isMenu {l : Launch} {G : GT} {ad : Nat → Nat} {b : MS} {v1 : Int32} {a : KS} {rr : Int32} (hf : f_X9_isMenu b v1 = some rr) : MT l G yX9_isMenu cX9_isMenu 2 (some .boolean) (RM 0) [.ref (ad 100), .int v1] ad a b (some (.int rr)) a b := by
  refine MT_of (by decide) (Nat.le_of_ble_eq_true rfl) ?_
  intro p e s m args below meth c A C hr hk
  unfold f_X9_isMenu at hf
  refine j_aload_n C 0 rfl dX9_isMenu_0 ?_
  refine j_get (q := 100) (kf := 2) (T := TX9) (N := 33) (RC := RX9) C m_100 ce_100 rfl in_X9 (by decide) (fun _ h9 => h9) fl_X9_7 rfl dX9_isMenu_1 ?_
  refine j_iload_n C 1 rfl dX9_isMenu_4 ?_
  refine j_iald (q := 102) C m_102 ce_102 hf dX9_isMenu_5 (fun hf => ?_)
  refine j_if_ne C 13 dX9_isMenu_6 (by decide) hf (fun y1 hf => ?_) (fun y1 hf => ?_)
  · refine j_iconst (v := 0) C (by decide) dX9_isMenu_13 ?_
    obtain rfl := Option.some.inj hf
    exact j_zret C hr hk (by decide) ⟨Nat.le_of_ble_eq_true rfl, Nat.le_of_ble_eq_true rfl⟩ rfl dX9_isMenu_14
  · refine j_iconst (v := 1) C (by decide) dX9_isMenu_9 ?_
    refine j_goto C 14 dX9_isMenu_10 (by decide) ?_
    obtain rfl := Option.some.inj hf
    exact j_zret C hr hk (by decide) ⟨Nat.le_of_ble_eq_true rfl, Nat.le_of_ble_eq_true rfl⟩ rfl dX9_isMenu_14
set_option maxRecDepth 100000 in
set_option maxHeartbeats 4000000 in
theorem k_X9_canAdd {l : Launch} {G : GT} {ad : Nat → Nat} {b : MS} {v1 : Int32} {a : KS} {rr : Int32} (hf : f_X9_canAdd b v1 = some rr) : MT l G yX9_canAdd cX9_canAdd 2 (some .boolean) (RM 2) [.ref (ad 100), .int v1] ad a b (some (.int rr)) a b := by
  refine MT_of (by decide) (Nat.le_of_ble_eq_true rfl) ?_
  intro p e s m args below meth c A C hr hk
  unfold f_X9_canAdd at hf
  refine j_aload_n C 0 rfl dX9_canAdd_0 ?_
  obtain ⟨z1, h2, hf⟩ := bnd_some hf
  refine j_callV (q := 100) (As := []) (rest := []) C (k_X9_home h2) cw_X9_home ml_X9_93 m_100 ce_100 rfl rfl ⟨Nat.le_of_ble_eq_true rfl, Nat.le_of_ble_eq_true rfl⟩ ⟨Nat.le_of_ble_eq_true rfl, Nat.le_of_ble_eq_true rfl⟩ rfl (Nat.le_of_ble_eq_true rfl) dX9_canAdd_1 ?_
  refine j_if_eq C 30 dX9_canAdd_4 (by decide) hf (fun y4 hf => ?_) (fun y4 hf => ?_)
  · refine j_iconst (v := 0) C (by decide) dX9_canAdd_30 ?_
    obtain rfl := Option.some.inj hf
    exact j_zret C hr hk (by decide) ⟨Nat.le_of_ble_eq_true rfl, Nat.le_of_ble_eq_true rfl⟩ rfl dX9_canAdd_31
  · refine j_aload_n C 0 rfl dX9_canAdd_7 ?_
    refine j_get (q := 100) (kf := 1) (T := TX9) (N := 33) (RC := RX9) C m_100 ce_100 rfl in_X9 (by decide) (fun _ h9 => h9) fl_X9_62 rfl dX9_canAdd_8 ?_
    refine j_bipush (v := 24) C (by decide) dX9_canAdd_11 ?_
    refine j_icmp_ge C 30 dX9_canAdd_13 (by decide) hf (fun y5 hf => ?_) (fun y5 hf => ?_)
    · refine j_iconst (v := 0) C (by decide) dX9_canAdd_30 ?_
      obtain rfl := Option.some.inj hf
      exact j_zret C hr hk (by decide) ⟨Nat.le_of_ble_eq_true rfl, Nat.le_of_ble_eq_true rfl⟩ rfl dX9_canAdd_31
    · refine j_aload_n C 0 rfl dX9_canAdd_16 ?_
      refine j_iload_n C 1 rfl dX9_canAdd_17 ?_
      obtain ⟨z6, h7, hf⟩ := bnd_some hf
      refine j_callV (q := 100) (As := [.int v1]) (rest := []) C (k_X9_itemsOf h7) cw_X9_itemsOf ml_X9_73 m_100 ce_100 rfl rfl ⟨Nat.le_of_ble_eq_true rfl, Nat.le_of_ble_eq_true rfl⟩ ⟨Nat.le_of_ble_eq_true rfl, Nat.le_of_ble_eq_true rfl⟩ rfl (Nat.le_of_ble_eq_true rfl) dX9_canAdd_18 ?_
      refine j_bipush (v := 8) C (by decide) dX9_canAdd_21 ?_
      refine j_icmp_ge C 30 dX9_canAdd_23 (by decide) hf (fun y9 hf => ?_) (fun y9 hf => ?_)
      · refine j_iconst (v := 0) C (by decide) dX9_canAdd_30 ?_
        obtain rfl := Option.some.inj hf
        exact j_zret C hr hk (by decide) ⟨Nat.le_of_ble_eq_true rfl, Nat.le_of_ble_eq_true rfl⟩ rfl dX9_canAdd_31
      · refine j_iconst (v := 1) C (by decide) dX9_canAdd_26 ?_
        refine j_goto C 31 dX9_canAdd_27 (by decide) ?_
        obtain rfl := Option.some.inj hf
        exact j_zret C hr hk (by decide) ⟨Nat.le_of_ble_eq_true rfl, Nat.le_of_ble_eq_true rfl⟩ rfl dX9_canAdd_31
set_option maxRecDepth 100000 in
set_option maxHeartbeats 4000000 in
theorem w_X9_addMenu_47 {p : Program} {l : Launch} {e : Env} {s : State} {m : MethodId} {args : Array Value} {below : List Frame} {meth : Method} {c : Code} {G : GT} {A : Nat → Prop} {ad : Nat → Nat} (C : CX G A RX9 cX9_addMenu 2 p s m args c) (hr : meth.sig.returnType = (some .int)) (hk : meth.locks = false) {a : KS} {rr : Int32 × MS}   (b : MS) (v1 : Int32) (s1 : Int32) (hf : f_X9_addMenu_47 b v1 s1 = some rr) : J p l e (RM 3) s m args below meth c G A 2 (MQ below (QV (some (.int rr.1)) (PosW G ad a rr.2 A) A) args s 0 0 A) 0 0 ad a b 47 [(0, .ref (ad 100)), (1, .int v1)] [.int s1, .ref (ad 100)] := by
  unfold f_X9_addMenu_47 at hf
  obtain ⟨z1, h2, hf⟩ := bnd_some hf
  refine j_callV (q := 100) (As := [.int s1]) (rest := []) C (k_X9_holds h2) cw_X9_holds ml_X9_109 m_100 ce_100 rfl rfl ⟨Nat.le_of_ble_eq_true rfl, Nat.le_of_ble_eq_true rfl⟩ ⟨Nat.le_of_ble_eq_true rfl, Nat.le_of_ble_eq_true rfl⟩ rfl (Nat.le_of_ble_eq_true rfl) dX9_addMenu_47 ?_
  refine j_if_ne C 55 dX9_addMenu_50 (by decide) hf (fun y4 hf => ?_) (fun y4 hf => ?_)
  · refine j_aload_n C 0 rfl dX9_addMenu_55 ?_
    refine j_iconst (v := 0) C (by decide) dX9_addMenu_56 ?_
    refine j_iload_n C 1 rfl dX9_addMenu_57 ?_
    obtain ⟨z5, h6, hf⟩ := bnd_some hf
    refine j_callV (q := 100) (As := [.int 0, .int v1]) (rest := []) C (k_X9_adds h6) cw_X9_adds ml_X9_112 m_100 ce_100 rfl rfl ⟨Nat.le_of_ble_eq_true rfl, Nat.le_of_ble_eq_true rfl⟩ ⟨Nat.le_of_ble_eq_true rfl, Nat.le_of_ble_eq_true rfl⟩ rfl (Nat.le_of_ble_eq_true rfl) dX9_addMenu_58 ?_
    obtain rfl := Option.some.inj hf
    exact j_iret C hr hk ⟨Nat.le_of_ble_eq_true rfl, Nat.le_of_ble_eq_true rfl⟩ rfl dX9_addMenu_61
  · refine j_iconst (v := 0) C (by decide) dX9_addMenu_53 ?_
    obtain rfl := Option.some.inj hf
    exact j_iret C hr hk ⟨Nat.le_of_ble_eq_true rfl, Nat.le_of_ble_eq_true rfl⟩ rfl dX9_addMenu_54
set_option maxRecDepth 100000 in
set_option maxHeartbeats 4000000 in
theorem w_X9_addMenu_42 {p : Program} {l : Launch} {e : Env} {s : State} {m : MethodId} {args : Array Value} {below : List Frame} {meth : Method} {c : Code} {G : GT} {A : Nat → Prop} {ad : Nat → Nat} (C : CX G A RX9 cX9_addMenu 2 p s m args c) (hr : meth.sig.returnType = (some .int)) (hk : meth.locks = false) {a : KS} {rr : Int32 × MS}   (b : MS) (v1 : Int32) (hf : f_X9_addMenu_42 b v1 = some rr) : J p l e (RM 3) s m args below meth c G A 2 (MQ below (QV (some (.int rr.1)) (PosW G ad a rr.2 A) A) args s 0 0 A) 0 0 ad a b 42 [(0, .ref (ad 100)), (1, .int v1)] [.ref (ad 100)] := by
  unfold f_X9_addMenu_42 at hf
  refine j_iconst (v := 3) C (by decide) dX9_addMenu_42 ?_
  refine j_goto C 47 dX9_addMenu_43 (by decide) ?_
  refine j_sub [0, 1] rfl ?_
  exact w_X9_addMenu_47 C hr hk b v1 3 hf
set_option maxRecDepth 100000 in
set_option maxHeartbeats 4000000 in
theorem k_X9_addMenu {l : Launch} {G : GT} {ad : Nat → Nat} {b : MS} {v1 : Int32} {a : KS} {rr : Int32 × MS} (hf : f_X9_addMenu b v1 = some rr) : MT l G yX9_addMenu cX9_addMenu 2 (some .int) (RM 3) [.ref (ad 100), .int v1] ad a b (some (.int rr.1)) a rr.2 := by
  refine MT_of (by decide) (Nat.le_of_ble_eq_true rfl) ?_
  intro p e s m args below meth c A C hr hk
  unfold f_X9_addMenu at hf
  refine j_aload_n C 0 rfl dX9_addMenu_0 ?_
  refine j_aload_n C 0 rfl dX9_addMenu_1 ?_
  refine j_iload_n C 1 rfl dX9_addMenu_2 ?_
  obtain ⟨z1, h2, hf⟩ := bnd_some hf
  refine j_callV (q := 100) (As := [.int v1]) (rest := [.ref (ad 100)]) C (k_X9_isItem h2) cw_X9_isItem ml_X9_96 m_100 ce_100 rfl rfl ⟨Nat.le_of_ble_eq_true rfl, Nat.le_of_ble_eq_true rfl⟩ ⟨Nat.le_of_ble_eq_true rfl, Nat.le_of_ble_eq_true rfl⟩ rfl (Nat.le_of_ble_eq_true rfl) dX9_addMenu_3 ?_
  refine j_if_ne C 13 dX9_addMenu_6 (by decide) hf (fun y4 hf => ?_) (fun y4 hf => ?_)
  · refine j_aload_n C 0 rfl dX9_addMenu_13 ?_
    refine j_iload_n C 1 rfl dX9_addMenu_14 ?_
    obtain ⟨z5, h6, hf⟩ := bnd_some hf
    refine j_callV (q := 100) (As := [.int v1]) (rest := [.ref (ad 100)]) C (k_X9_isMenu h6) cw_X9_isMenu ml_X9_100 m_100 ce_100 rfl rfl ⟨Nat.le_of_ble_eq_true rfl, Nat.le_of_ble_eq_true rfl⟩ ⟨Nat.le_of_ble_eq_true rfl, Nat.le_of_ble_eq_true rfl⟩ rfl (Nat.le_of_ble_eq_true rfl) dX9_addMenu_15 ?_
    refine j_if_ne C 25 dX9_addMenu_18 (by decide) hf (fun y8 hf => ?_) (fun y8 hf => ?_)
    · refine j_aload_n C 0 rfl dX9_addMenu_25 ?_
      refine j_iload_n C 1 rfl dX9_addMenu_26 ?_
      obtain ⟨z9, h10, hf⟩ := bnd_some hf
      refine j_callV (q := 100) (As := [.int v1]) (rest := [.ref (ad 100)]) C (k_X9_canAdd h10) cw_X9_canAdd ml_X9_103 m_100 ce_100 rfl rfl ⟨Nat.le_of_ble_eq_true rfl, Nat.le_of_ble_eq_true rfl⟩ ⟨Nat.le_of_ble_eq_true rfl, Nat.le_of_ble_eq_true rfl⟩ rfl (Nat.le_of_ble_eq_true rfl) dX9_addMenu_27 ?_
      refine j_if_eq C 42 dX9_addMenu_30 (by decide) hf (fun y12 hf => ?_) (fun y12 hf => ?_)
      · refine j_sub [0, 1] rfl ?_
        exact w_X9_addMenu_42 C hr hk b v1 hf
      · refine j_aload_n C 0 rfl dX9_addMenu_33 ?_
        refine j_iload_n C 1 rfl dX9_addMenu_34 ?_
        obtain ⟨z13, h14, hf⟩ := bnd_some hf
        refine j_callV (q := 100) (As := [.int v1]) (rest := [.ref (ad 100)]) C (k_X9_levelOf h14) cw_X9_levelOf ml_X9_106 m_100 ce_100 rfl rfl ⟨Nat.le_of_ble_eq_true rfl, Nat.le_of_ble_eq_true rfl⟩ ⟨Nat.le_of_ble_eq_true rfl, Nat.le_of_ble_eq_true rfl⟩ rfl (Nat.le_of_ble_eq_true rfl) dX9_addMenu_35 ?_
        refine j_iconst (v := 3) C (by decide) dX9_addMenu_38 ?_
        refine j_icmp_ne C 46 dX9_addMenu_39 (by decide) hf (fun y16 hf => ?_) (fun y16 hf => ?_)
        · refine j_iconst (v := 0) C (by decide) dX9_addMenu_46 ?_
          refine j_sub [0, 1] rfl ?_
          exact w_X9_addMenu_47 C hr hk b v1 0 hf
        · refine j_sub [0, 1] rfl ?_
          exact w_X9_addMenu_42 C hr hk b v1 hf
    · refine j_iconst (v := 2) C (by decide) dX9_addMenu_21 ?_
      refine j_goto C 47 dX9_addMenu_22 (by decide) ?_
      refine j_sub [0, 1] rfl ?_
      exact w_X9_addMenu_47 C hr hk b v1 2 hf
  · refine j_iconst (v := 1) C (by decide) dX9_addMenu_9 ?_
    refine j_goto C 47 dX9_addMenu_10 (by decide) ?_
    refine j_sub [0, 1] rfl ?_
    exact w_X9_addMenu_47 C hr hk b v1 1 hf
set_option maxRecDepth 100000 in
set_option maxHeartbeats 4000000 in
theorem w_X9_addNumber_86 {p : Program} {l : Launch} {e : Env} {s : State} {m : MethodId} {args : Array Value} {below : List Frame} {meth : Method} {c : Code} {G : GT} {A : Nat → Prop} {ad : Nat → Nat} (C : CX G A RX9 cX9_addNumber 6 p s m args c) (hr : meth.sig.returnType = (some .int)) (hk : meth.locks = false) {a : KS} {rr : Int32 × MS}   (b : MS) (v1 : Int32) (v2 : Int32) (v3 : Int32) (v4 : Int32) (s1 : Int32) (hf : f_X9_addNumber_86 b v1 v2 v3 v4 s1 = some rr) : J p l e (RM 3) s m args below meth c G A 6 (MQ below (QV (some (.int rr.1)) (PosW G ad a rr.2 A) A) args s 0 0 A) 0 0 ad a b 86 [(0, .ref (ad 100)), (1, .int v1), (2, .int v2), (3, .int v3), (4, .int v4)] [.int s1, .ref (ad 100)] := by
  unfold f_X9_addNumber_86 at hf
  obtain ⟨z1, h2, hf⟩ := bnd_some hf
  refine j_callV (q := 100) (As := [.int s1]) (rest := []) C (k_X9_holds h2) cw_X9_holds ml_X9_109 m_100 ce_100 rfl rfl ⟨Nat.le_of_ble_eq_true rfl, Nat.le_of_ble_eq_true rfl⟩ ⟨Nat.le_of_ble_eq_true rfl, Nat.le_of_ble_eq_true rfl⟩ rfl (Nat.le_of_ble_eq_true rfl) dX9_addNumber_86 ?_
  refine j_if_ne C 94 dX9_addNumber_89 (by decide) hf (fun y4 hf => ?_) (fun y4 hf => ?_)
  · refine j_aload_n C 0 rfl dX9_addNumber_94 ?_
    refine j_get (q := 100) (kf := 4) (T := TX9) (N := 33) (RC := RX9) C m_100 ce_100 rfl in_X9 (by decide) (fun _ h9 => h9) fl_X9_16 rfl dX9_addNumber_95 ?_
    refine j_aload_n C 0 rfl dX9_addNumber_98 ?_
    refine j_get (q := 100) (kf := 1) (T := TX9) (N := 33) (RC := RX9) C m_100 ce_100 rfl in_X9 (by decide) (fun _ h9 => h9) fl_X9_62 rfl dX9_addNumber_99 ?_
    refine j_iload_n C 2 rfl dX9_addNumber_102 ?_
    refine ast_104 C hf dX9_addNumber_103 (fun hf => ?_)
    refine j_aload_n C 0 rfl dX9_addNumber_104 ?_
    refine j_get (q := 100) (kf := 5) (T := TX9) (N := 33) (RC := RX9) C m_100 ce_100 rfl in_X9 (by decide) (fun _ h9 => h9) fl_X9_19 rfl dX9_addNumber_105 ?_
    refine j_aload_n C 0 rfl dX9_addNumber_108 ?_
    refine j_get (q := 100) (kf := 1) (T := TX9) (N := 33) (RC := RX9) C m_100 ce_100 rfl in_X9 (by decide) (fun _ h9 => h9) fl_X9_62 rfl dX9_addNumber_109 ?_
    refine j_iload_n C 3 rfl dX9_addNumber_112 ?_
    refine ast_105 C hf dX9_addNumber_113 (fun hf => ?_)
    refine j_aload_n C 0 rfl dX9_addNumber_114 ?_
    refine j_get (q := 100) (kf := 6) (T := TX9) (N := 33) (RC := RX9) C m_100 ce_100 rfl in_X9 (by decide) (fun _ h9 => h9) fl_X9_22 rfl dX9_addNumber_115 ?_
    refine j_aload_n C 0 rfl dX9_addNumber_118 ?_
    refine j_get (q := 100) (kf := 1) (T := TX9) (N := 33) (RC := RX9) C m_100 ce_100 rfl in_X9 (by decide) (fun _ h9 => h9) fl_X9_62 rfl dX9_addNumber_119 ?_
    refine j_iload C 4 rfl dX9_addNumber_122 ?_
    refine ast_106 C hf dX9_addNumber_124 (fun hf => ?_)
    refine j_aload_n C 0 rfl dX9_addNumber_125 ?_
    refine j_get (q := 100) (kf := 7) (T := TX9) (N := 33) (RC := RX9) C m_100 ce_100 rfl in_X9 (by decide) (fun _ h9 => h9) fl_X9_25 rfl dX9_addNumber_126 ?_
    refine j_aload_n C 0 rfl dX9_addNumber_129 ?_
    refine j_get (q := 100) (kf := 1) (T := TX9) (N := 33) (RC := RX9) C m_100 ce_100 rfl in_X9 (by decide) (fun _ h9 => h9) fl_X9_62 rfl dX9_addNumber_130 ?_
    refine j_iload_n C 2 rfl dX9_addNumber_133 ?_
    refine ast_107 C hf dX9_addNumber_134 (fun hf => ?_)
    refine j_aload_n C 0 rfl dX9_addNumber_135 ?_
    refine j_iconst (v := 1) C (by decide) dX9_addNumber_136 ?_
    refine j_iload_n C 1 rfl dX9_addNumber_137 ?_
    obtain ⟨z5, h6, hf⟩ := bnd_some hf
    refine j_callV (q := 100) (As := [.int 1, .int v1]) (rest := []) C (k_X9_adds h6) cw_X9_adds ml_X9_112 m_100 ce_100 rfl rfl ⟨Nat.le_of_ble_eq_true rfl, Nat.le_of_ble_eq_true rfl⟩ ⟨Nat.le_of_ble_eq_true rfl, Nat.le_of_ble_eq_true rfl⟩ rfl (Nat.le_of_ble_eq_true rfl) dX9_addNumber_138 ?_
    obtain rfl := Option.some.inj hf
    exact j_iret C hr hk ⟨Nat.le_of_ble_eq_true rfl, Nat.le_of_ble_eq_true rfl⟩ rfl dX9_addNumber_141
  · refine j_iconst (v := 0) C (by decide) dX9_addNumber_92 ?_
    obtain rfl := Option.some.inj hf
    exact j_iret C hr hk ⟨Nat.le_of_ble_eq_true rfl, Nat.le_of_ble_eq_true rfl⟩ rfl dX9_addNumber_93
set_option maxRecDepth 100000 in
set_option maxHeartbeats 4000000 in
theorem w_X9_addNumber_69 {p : Program} {l : Launch} {e : Env} {s : State} {m : MethodId} {args : Array Value} {below : List Frame} {meth : Method} {c : Code} {G : GT} {A : Nat → Prop} {ad : Nat → Nat} (C : CX G A RX9 cX9_addNumber 6 p s m args c) (hr : meth.sig.returnType = (some .int)) (hk : meth.locks = false) {a : KS} {rr : Int32 × MS}   (b : MS) (v1 : Int32) (v2 : Int32) (v3 : Int32) (v4 : Int32) (hf : f_X9_addNumber_69 b v1 v2 v3 v4 = some rr) : J p l e (RM 3) s m args below meth c G A 6 (MQ below (QV (some (.int rr.1)) (PosW G ad a rr.2 A) A) args s 0 0 A) 0 0 ad a b 69 [(0, .ref (ad 100)), (1, .int v1), (2, .int v2), (3, .int v3), (4, .int v4)] [.ref (ad 100)] := by
  unfold f_X9_addNumber_69 at hf
  refine j_iconst (v := 2) C (by decide) dX9_addNumber_69 ?_
  refine j_goto C 86 dX9_addNumber_70 (by decide) ?_
  refine j_sub [0, 1, 2, 3, 4] rfl ?_
  exact w_X9_addNumber_86 C hr hk b v1 v2 v3 v4 2 hf
set_option maxRecDepth 100000 in
set_option maxHeartbeats 4000000 in
theorem w_X9_addNumber_41 {p : Program} {l : Launch} {e : Env} {s : State} {m : MethodId} {args : Array Value} {below : List Frame} {meth : Method} {c : Code} {G : GT} {A : Nat → Prop} {ad : Nat → Nat} (C : CX G A RX9 cX9_addNumber 6 p s m args c) (hr : meth.sig.returnType = (some .int)) (hk : meth.locks = false) {a : KS} {rr : Int32 × MS}   (b : MS) (v1 : Int32) (v2 : Int32) (v3 : Int32) (v4 : Int32) (s0 : Int32) (hf : f_X9_addNumber_41 b v1 v2 v3 v4 s0 = some rr) : J p l e (RM 3) s m args below meth c G A 6 (MQ below (QV (some (.int rr.1)) (PosW G ad a rr.2 A) A) args s 0 0 A) 0 0 ad a b 41 [(0, .ref (ad 100)), (1, .int v1), (2, .int v2), (3, .int v3), (4, .int v4)] [.int s0] := by
  unfold f_X9_addNumber_41 at hf
  refine j_istore (lv' := [(5, .int s0), (0, .ref (ad 100)), (1, .int v1), (2, .int v2), (3, .int v3), (4, .int v4)]) C dX9_addNumber_41 (by decide) rfl ?_
  refine j_aload_n C 1 rfl dX9_addNumber_43 ?_
  refine j_aload_n C 1 rfl dX9_addNumber_44 ?_
  refine j_iload_n C 2 rfl dX9_addNumber_45 ?_
  obtain ⟨z1, h2, hf⟩ := bnd_some hf
  refine j_callV (q := 100) (As := [.int v1]) (rest := [.ref (ad 100)]) C (k_X9_isItem h2) cw_X9_isItem ml_X9_96 m_100 ce_100 rfl rfl ⟨Nat.le_of_ble_eq_true rfl, Nat.le_of_ble_eq_true rfl⟩ ⟨Nat.le_of_ble_eq_true rfl, Nat.le_of_ble_eq_true rfl⟩ rfl (Nat.le_of_ble_eq_true rfl) dX9_addNumber_46 ?_
  refine j_if_ne C 56 dX9_addNumber_49 (by decide) hf (fun y4 hf => ?_) (fun y4 hf => ?_)
  · refine j_aload_n C 1 rfl dX9_addNumber_56 ?_
    refine j_iload_n C 2 rfl dX9_addNumber_57 ?_
    obtain ⟨z5, h6, hf⟩ := bnd_some hf
    refine j_callV (q := 100) (As := [.int v1]) (rest := [.ref (ad 100)]) C (k_X9_isMenu h6) cw_X9_isMenu ml_X9_100 m_100 ce_100 rfl rfl ⟨Nat.le_of_ble_eq_true rfl, Nat.le_of_ble_eq_true rfl⟩ ⟨Nat.le_of_ble_eq_true rfl, Nat.le_of_ble_eq_true rfl⟩ rfl (Nat.le_of_ble_eq_true rfl) dX9_addNumber_58 ?_
    refine j_if_eq C 69 dX9_addNumber_61 (by decide) hf (fun y8 hf => ?_) (fun y8 hf => ?_)
    · refine j_sub [1, 2, 3, 4, 5] rfl ?_
      exact w_X9_addNumber_69 C hr hk b v1 v2 v3 v4 hf
    · refine j_iload C 0 rfl dX9_addNumber_64 ?_
      refine j_if_ne C 73 dX9_addNumber_66 (by decide) hf (fun y9 hf => ?_) (fun y9 hf => ?_)
      · refine j_aload_n C 1 rfl dX9_addNumber_73 ?_
        refine j_iload_n C 2 rfl dX9_addNumber_74 ?_
        obtain ⟨z10, h11, hf⟩ := bnd_some hf
        refine j_callV (q := 100) (As := [.int v1]) (rest := [.ref (ad 100)]) C (k_X9_canAdd h11) cw_X9_canAdd ml_X9_103 m_100 ce_100 rfl rfl ⟨Nat.le_of_ble_eq_true rfl, Nat.le_of_ble_eq_true rfl⟩ ⟨Nat.le_of_ble_eq_true rfl, Nat.le_of_ble_eq_true rfl⟩ rfl (Nat.le_of_ble_eq_true rfl) dX9_addNumber_75 ?_
        refine j_if_ne C 85 dX9_addNumber_78 (by decide) hf (fun y13 hf => ?_) (fun y13 hf => ?_)
        · refine j_iconst (v := 0) C (by decide) dX9_addNumber_85 ?_
          refine j_sub [1, 2, 3, 4, 5] rfl ?_
          exact w_X9_addNumber_86 C hr hk b v1 v2 v3 v4 0 hf
        · refine j_iconst (v := 3) C (by decide) dX9_addNumber_81 ?_
          refine j_goto C 86 dX9_addNumber_82 (by decide) ?_
          refine j_sub [1, 2, 3, 4, 5] rfl ?_
          exact w_X9_addNumber_86 C hr hk b v1 v2 v3 v4 3 hf
      · refine j_sub [1, 2, 3, 4, 5] rfl ?_
        exact w_X9_addNumber_69 C hr hk b v1 v2 v3 v4 hf
  · refine j_iconst (v := 1) C (by decide) dX9_addNumber_52 ?_
    refine j_goto C 86 dX9_addNumber_53 (by decide) ?_
    refine j_sub [1, 2, 3, 4, 5] rfl ?_
    exact w_X9_addNumber_86 C hr hk b v1 v2 v3 v4 1 hf
set_option maxRecDepth 100000 in
set_option maxHeartbeats 4000000 in
theorem w_X9_addNumber_40 {p : Program} {l : Launch} {e : Env} {s : State} {m : MethodId} {args : Array Value} {below : List Frame} {meth : Method} {c : Code} {G : GT} {A : Nat → Prop} {ad : Nat → Nat} (C : CX G A RX9 cX9_addNumber 6 p s m args c) (hr : meth.sig.returnType = (some .int)) (hk : meth.locks = false) {a : KS} {rr : Int32 × MS}   (b : MS) (v1 : Int32) (v2 : Int32) (v3 : Int32) (v4 : Int32) (hf : f_X9_addNumber_40 b v1 v2 v3 v4 = some rr) : J p l e (RM 3) s m args below meth c G A 6 (MQ below (QV (some (.int rr.1)) (PosW G ad a rr.2 A) A) args s 0 0 A) 0 0 ad a b 40 [(0, .ref (ad 100)), (1, .int v1), (2, .int v2), (3, .int v3), (4, .int v4)] [] := by
  unfold f_X9_addNumber_40 at hf
  refine j_iconst (v := 0) C (by decide) dX9_addNumber_40 ?_
  refine j_sub [0, 1, 2, 3, 4] rfl ?_
  exact w_X9_addNumber_41 C hr hk b v1 v2 v3 v4 0 hf
set_option maxRecDepth 100000 in
set_option maxHeartbeats 4000000 in
theorem k_X9_addNumber {l : Launch} {G : GT} {ad : Nat → Nat} {b : MS} {v1 : Int32} {v2 : Int32} {v3 : Int32} {v4 : Int32} {a : KS} {rr : Int32 × MS} (hf : f_X9_addNumber b v1 v2 v3 v4 = some rr) : MT l G yX9_addNumber cX9_addNumber 6 (some .int) (RM 3) [.ref (ad 100), .int v1, .int v2, .int v3, .int v4] ad a b (some (.int rr.1)) a rr.2 := by
  refine MT_of (by decide) (Nat.le_of_ble_eq_true rfl) ?_
  intro p e s m args below meth c A C hr hk
  unfold f_X9_addNumber at hf
  refine j_iload_n C 2 rfl dX9_addNumber_0 ?_
  refine j_sipush (v := -999) C (by decide) dX9_addNumber_1 ?_
  refine j_sipush (v := 998) C (by decide) dX9_addNumber_4 ?_
  obtain ⟨z1, h2, hf⟩ := bnd_some hf
  refine j_callS (As := [.int v2, .int (-999), .int 998]) (rest := []) C (k_X9_in h2) cw_X9_in ml_X9_69 rfl ⟨Nat.le_of_ble_eq_true rfl, Nat.le_of_ble_eq_true rfl⟩ ⟨Nat.le_of_ble_eq_true rfl, Nat.le_of_ble_eq_true rfl⟩ rfl (Nat.le_of_ble_eq_true rfl) dX9_addNumber_7 ?_
  refine j_if_eq C 40 dX9_addNumber_10 (by decide) hf (fun y4 hf => ?_) (fun y4 hf => ?_)
  · refine j_sub [0, 1, 2, 3, 4] rfl ?_
    exact w_X9_addNumber_40 C hr hk b v1 v2 v3 v4 hf
  · refine j_iload_n C 3 rfl dX9_addNumber_13 ?_
    refine j_iload_n C 2 rfl dX9_addNumber_14 ?_
    refine j_icmp_le C 40 dX9_addNumber_15 (by decide) hf (fun y5 hf => ?_) (fun y5 hf => ?_)
    · refine j_sub [0, 1, 2, 3, 4] rfl ?_
      exact w_X9_addNumber_40 C hr hk b v1 v2 v3 v4 hf
    · refine j_iload_n C 3 rfl dX9_addNumber_18 ?_
      refine j_sipush (v := 999) C (by decide) dX9_addNumber_19 ?_
      refine j_icmp_gt C 40 dX9_addNumber_22 (by decide) hf (fun y6 hf => ?_) (fun y6 hf => ?_)
      · refine j_sub [0, 1, 2, 3, 4] rfl ?_
        exact w_X9_addNumber_40 C hr hk b v1 v2 v3 v4 hf
      · refine j_iload C 4 rfl dX9_addNumber_25 ?_
        refine j_iconst (v := 1) C (by decide) dX9_addNumber_27 ?_
        refine j_bipush (v := 100) C (by decide) dX9_addNumber_28 ?_
        obtain ⟨z7, h8, hf⟩ := bnd_some hf
        refine j_callS (As := [.int v4, .int 1, .int 100]) (rest := []) C (k_X9_in h8) cw_X9_in ml_X9_69 rfl ⟨Nat.le_of_ble_eq_true rfl, Nat.le_of_ble_eq_true rfl⟩ ⟨Nat.le_of_ble_eq_true rfl, Nat.le_of_ble_eq_true rfl⟩ rfl (Nat.le_of_ble_eq_true rfl) dX9_addNumber_30 ?_
        refine j_if_eq C 40 dX9_addNumber_33 (by decide) hf (fun y10 hf => ?_) (fun y10 hf => ?_)
        · refine j_sub [0, 1, 2, 3, 4] rfl ?_
          exact w_X9_addNumber_40 C hr hk b v1 v2 v3 v4 hf
        · refine j_iconst (v := 1) C (by decide) dX9_addNumber_36 ?_
          refine j_goto C 41 dX9_addNumber_37 (by decide) ?_
          refine j_sub [0, 1, 2, 3, 4] rfl ?_
          exact w_X9_addNumber_41 C hr hk b v1 v2 v3 v4 1 hf
set_option maxRecDepth 100000 in
set_option maxHeartbeats 4000000 in
theorem w_X9_addChoice_48 {p : Program} {l : Launch} {e : Env} {s : State} {m : MethodId} {args : Array Value} {below : List Frame} {meth : Method} {c : Code} {G : GT} {A : Nat → Prop} {ad : Nat → Nat} (C : CX G A RX9 cX9_addChoice 3 p s m args c) (hr : meth.sig.returnType = (some .int)) (hk : meth.locks = false) {a : KS} {rr : Int32 × MS}   (b : MS) (v1 : Int32) (v2 : Int32) (s1 : Int32) (hf : f_X9_addChoice_48 b v1 v2 s1 = some rr) : J p l e (RM 3) s m args below meth c G A 3 (MQ below (QV (some (.int rr.1)) (PosW G ad a rr.2 A) A) args s 0 0 A) 0 0 ad a b 48 [(0, .ref (ad 100)), (1, .int v1), (2, .int v2)] [.int s1, .ref (ad 100)] := by
  unfold f_X9_addChoice_48 at hf
  obtain ⟨z1, h2, hf⟩ := bnd_some hf
  refine j_callV (q := 100) (As := [.int s1]) (rest := []) C (k_X9_holds h2) cw_X9_holds ml_X9_109 m_100 ce_100 rfl rfl ⟨Nat.le_of_ble_eq_true rfl, Nat.le_of_ble_eq_true rfl⟩ ⟨Nat.le_of_ble_eq_true rfl, Nat.le_of_ble_eq_true rfl⟩ rfl (Nat.le_of_ble_eq_true rfl) dX9_addChoice_48 ?_
  refine j_if_ne C 56 dX9_addChoice_51 (by decide) hf (fun y4 hf => ?_) (fun y4 hf => ?_)
  · refine j_aload_n C 0 rfl dX9_addChoice_56 ?_
    refine j_get (q := 100) (kf := 5) (T := TX9) (N := 33) (RC := RX9) C m_100 ce_100 rfl in_X9 (by decide) (fun _ h9 => h9) fl_X9_19 rfl dX9_addChoice_57 ?_
    refine j_aload_n C 0 rfl dX9_addChoice_60 ?_
    refine j_get (q := 100) (kf := 1) (T := TX9) (N := 33) (RC := RX9) C m_100 ce_100 rfl in_X9 (by decide) (fun _ h9 => h9) fl_X9_62 rfl dX9_addChoice_61 ?_
    refine j_iload_n C 2 rfl dX9_addChoice_64 ?_
    refine j_iconst (v := 1) C (by decide) dX9_addChoice_65 ?_
    refine j_isub C dX9_addChoice_66 ?_
    refine ast_105 C hf dX9_addChoice_67 (fun hf => ?_)
    refine j_aload_n C 0 rfl dX9_addChoice_68 ?_
    refine j_get (q := 100) (kf := 6) (T := TX9) (N := 33) (RC := RX9) C m_100 ce_100 rfl in_X9 (by decide) (fun _ h9 => h9) fl_X9_22 rfl dX9_addChoice_69 ?_
    refine j_aload_n C 0 rfl dX9_addChoice_72 ?_
    refine j_get (q := 100) (kf := 1) (T := TX9) (N := 33) (RC := RX9) C m_100 ce_100 rfl in_X9 (by decide) (fun _ h9 => h9) fl_X9_62 rfl dX9_addChoice_73 ?_
    refine j_iconst (v := 1) C (by decide) dX9_addChoice_76 ?_
    refine ast_106 C hf dX9_addChoice_77 (fun hf => ?_)
    refine j_aload_n C 0 rfl dX9_addChoice_78 ?_
    refine j_iconst (v := 2) C (by decide) dX9_addChoice_79 ?_
    refine j_iload_n C 1 rfl dX9_addChoice_80 ?_
    obtain ⟨z5, h6, hf⟩ := bnd_some hf
    refine j_callV (q := 100) (As := [.int 2, .int v1]) (rest := []) C (k_X9_adds h6) cw_X9_adds ml_X9_112 m_100 ce_100 rfl rfl ⟨Nat.le_of_ble_eq_true rfl, Nat.le_of_ble_eq_true rfl⟩ ⟨Nat.le_of_ble_eq_true rfl, Nat.le_of_ble_eq_true rfl⟩ rfl (Nat.le_of_ble_eq_true rfl) dX9_addChoice_81 ?_
    obtain rfl := Option.some.inj hf
    exact j_iret C hr hk ⟨Nat.le_of_ble_eq_true rfl, Nat.le_of_ble_eq_true rfl⟩ rfl dX9_addChoice_84
  · refine j_iconst (v := 0) C (by decide) dX9_addChoice_54 ?_
    obtain rfl := Option.some.inj hf
    exact j_iret C hr hk ⟨Nat.le_of_ble_eq_true rfl, Nat.le_of_ble_eq_true rfl⟩ rfl dX9_addChoice_55
set_option maxRecDepth 100000 in
set_option maxHeartbeats 4000000 in
theorem w_X9_addChoice_31 {p : Program} {l : Launch} {e : Env} {s : State} {m : MethodId} {args : Array Value} {below : List Frame} {meth : Method} {c : Code} {G : GT} {A : Nat → Prop} {ad : Nat → Nat} (C : CX G A RX9 cX9_addChoice 3 p s m args c) (hr : meth.sig.returnType = (some .int)) (hk : meth.locks = false) {a : KS} {rr : Int32 × MS}   (b : MS) (v1 : Int32) (v2 : Int32) (hf : f_X9_addChoice_31 b v1 v2 = some rr) : J p l e (RM 3) s m args below meth c G A 3 (MQ below (QV (some (.int rr.1)) (PosW G ad a rr.2 A) A) args s 0 0 A) 0 0 ad a b 31 [(0, .ref (ad 100)), (1, .int v1), (2, .int v2)] [.ref (ad 100)] := by
  unfold f_X9_addChoice_31 at hf
  refine j_iconst (v := 2) C (by decide) dX9_addChoice_31 ?_
  refine j_goto C 48 dX9_addChoice_32 (by decide) ?_
  refine j_sub [0, 1, 2] rfl ?_
  exact w_X9_addChoice_48 C hr hk b v1 v2 2 hf
set_option maxRecDepth 100000 in
set_option maxHeartbeats 4000000 in
theorem k_X9_addChoice {l : Launch} {G : GT} {ad : Nat → Nat} {b : MS} {v1 : Int32} {v2 : Int32} {a : KS} {rr : Int32 × MS} (hf : f_X9_addChoice b v1 v2 = some rr) : MT l G yX9_addChoice cX9_addChoice 3 (some .int) (RM 3) [.ref (ad 100), .int v1, .int v2] ad a b (some (.int rr.1)) a rr.2 := by
  refine MT_of (by decide) (Nat.le_of_ble_eq_true rfl) ?_
  intro p e s m args below meth c A C hr hk
  unfold f_X9_addChoice at hf
  refine j_aload_n C 0 rfl dX9_addChoice_0 ?_
  refine j_aload_n C 0 rfl dX9_addChoice_1 ?_
  refine j_iload_n C 1 rfl dX9_addChoice_2 ?_
  obtain ⟨z1, h2, hf⟩ := bnd_some hf
  refine j_callV (q := 100) (As := [.int v1]) (rest := [.ref (ad 100)]) C (k_X9_isItem h2) cw_X9_isItem ml_X9_96 m_100 ce_100 rfl rfl ⟨Nat.le_of_ble_eq_true rfl, Nat.le_of_ble_eq_true rfl⟩ ⟨Nat.le_of_ble_eq_true rfl, Nat.le_of_ble_eq_true rfl⟩ rfl (Nat.le_of_ble_eq_true rfl) dX9_addChoice_3 ?_
  refine j_if_ne C 13 dX9_addChoice_6 (by decide) hf (fun y4 hf => ?_) (fun y4 hf => ?_)
  · refine j_aload_n C 0 rfl dX9_addChoice_13 ?_
    refine j_iload_n C 1 rfl dX9_addChoice_14 ?_
    obtain ⟨z5, h6, hf⟩ := bnd_some hf
    refine j_callV (q := 100) (As := [.int v1]) (rest := [.ref (ad 100)]) C (k_X9_isMenu h6) cw_X9_isMenu ml_X9_100 m_100 ce_100 rfl rfl ⟨Nat.le_of_ble_eq_true rfl, Nat.le_of_ble_eq_true rfl⟩ ⟨Nat.le_of_ble_eq_true rfl, Nat.le_of_ble_eq_true rfl⟩ rfl (Nat.le_of_ble_eq_true rfl) dX9_addChoice_15 ?_
    refine j_if_eq C 31 dX9_addChoice_18 (by decide) hf (fun y8 hf => ?_) (fun y8 hf => ?_)
    · refine j_sub [0, 1, 2] rfl ?_
      exact w_X9_addChoice_31 C hr hk b v1 v2 hf
    · refine j_iload_n C 2 rfl dX9_addChoice_21 ?_
      refine j_iconst (v := 2) C (by decide) dX9_addChoice_22 ?_
      refine j_bipush (v := 9) C (by decide) dX9_addChoice_23 ?_
      obtain ⟨z9, h10, hf⟩ := bnd_some hf
      refine j_callS (As := [.int v2, .int 2, .int 9]) (rest := [.ref (ad 100)]) C (k_X9_in h10) cw_X9_in ml_X9_69 rfl ⟨Nat.le_of_ble_eq_true rfl, Nat.le_of_ble_eq_true rfl⟩ ⟨Nat.le_of_ble_eq_true rfl, Nat.le_of_ble_eq_true rfl⟩ rfl (Nat.le_of_ble_eq_true rfl) dX9_addChoice_25 ?_
      refine j_if_ne C 35 dX9_addChoice_28 (by decide) hf (fun y12 hf => ?_) (fun y12 hf => ?_)
      · refine j_aload_n C 0 rfl dX9_addChoice_35 ?_
        refine j_iload_n C 1 rfl dX9_addChoice_36 ?_
        obtain ⟨z13, h14, hf⟩ := bnd_some hf
        refine j_callV (q := 100) (As := [.int v1]) (rest := [.ref (ad 100)]) C (k_X9_canAdd h14) cw_X9_canAdd ml_X9_103 m_100 ce_100 rfl rfl ⟨Nat.le_of_ble_eq_true rfl, Nat.le_of_ble_eq_true rfl⟩ ⟨Nat.le_of_ble_eq_true rfl, Nat.le_of_ble_eq_true rfl⟩ rfl (Nat.le_of_ble_eq_true rfl) dX9_addChoice_37 ?_
        refine j_if_ne C 47 dX9_addChoice_40 (by decide) hf (fun y16 hf => ?_) (fun y16 hf => ?_)
        · refine j_iconst (v := 0) C (by decide) dX9_addChoice_47 ?_
          refine j_sub [0, 1, 2] rfl ?_
          exact w_X9_addChoice_48 C hr hk b v1 v2 0 hf
        · refine j_iconst (v := 3) C (by decide) dX9_addChoice_43 ?_
          refine j_goto C 48 dX9_addChoice_44 (by decide) ?_
          refine j_sub [0, 1, 2] rfl ?_
          exact w_X9_addChoice_48 C hr hk b v1 v2 3 hf
      · refine j_sub [0, 1, 2] rfl ?_
        exact w_X9_addChoice_31 C hr hk b v1 v2 hf
  · refine j_iconst (v := 1) C (by decide) dX9_addChoice_9 ?_
    refine j_goto C 48 dX9_addChoice_10 (by decide) ?_
    refine j_sub [0, 1, 2] rfl ?_
    exact w_X9_addChoice_48 C hr hk b v1 v2 1 hf
set_option maxRecDepth 100000 in
set_option maxHeartbeats 4000000 in
theorem w_X9_lock_44 {p : Program} {l : Launch} {e : Env} {s : State} {m : MethodId} {args : Array Value} {below : List Frame} {meth : Method} {c : Code} {G : GT} {A : Nat → Prop} {ad : Nat → Nat} (C : CX G A RX9 cX9_lock 4 p s m args c) (hr : meth.sig.returnType = (some .int)) (hk : meth.locks = false) {a : KS} {rr : Int32 × MS}   (b : MS) (v1 : Int32) (v2 : Int32) (s1 : Int32) (hf : f_X9_lock_44 b v1 v2 s1 = some rr) : J p l e (RM 2) s m args below meth c G A 4 (MQ below (QV (some (.int rr.1)) (PosW G ad a rr.2 A) A) args s 0 0 A) 0 0 ad a b 44 [(0, .ref (ad 100)), (1, .int v1), (2, .int v2)] [.int s1, .ref (ad 100)] := by
  unfold f_X9_lock_44 at hf
  obtain ⟨z1, h2, hf⟩ := bnd_some hf
  refine j_callV (q := 100) (As := [.int s1]) (rest := []) C (k_X9_holds h2) cw_X9_holds ml_X9_109 m_100 ce_100 rfl rfl ⟨Nat.le_of_ble_eq_true rfl, Nat.le_of_ble_eq_true rfl⟩ ⟨Nat.le_of_ble_eq_true rfl, Nat.le_of_ble_eq_true rfl⟩ rfl (Nat.le_of_ble_eq_true rfl) dX9_lock_44 ?_
  refine j_if_ne C 52 dX9_lock_47 (by decide) hf (fun y4 hf => ?_) (fun y4 hf => ?_)
  · refine j_aload_n C 0 rfl dX9_lock_52 ?_
    refine j_get (q := 100) (kf := 8) (T := TX9) (N := 33) (RC := RX9) C m_100 ce_100 rfl in_X9 (by decide) (fun _ h9 => h9) fl_X9_28 rfl dX9_lock_53 ?_
    refine j_iload_n C 1 rfl dX9_lock_56 ?_
    refine j_iald (q := 108) C m_108 ce_108 hf dX9_lock_57 (fun hf => ?_)
    refine j_letI hf (fun x5 hf => ?_)
    refine j_istore_n (i := 3) (lv' := [(3, .int x5), (0, .ref (ad 100)), (1, .int v1), (2, .int v2)]) C dX9_lock_58 rfl (by decide) rfl ?_
    refine j_aload_n C 1 rfl dX9_lock_59 ?_
    refine j_get (q := 100) (kf := 8) (T := TX9) (N := 33) (RC := RX9) C m_100 ce_100 rfl in_X9 (by decide) (fun _ h9 => h9) fl_X9_28 rfl dX9_lock_60 ?_
    refine j_iload_n C 2 rfl dX9_lock_63 ?_
    refine j_iload_n C 3 rfl dX9_lock_64 ?_
    refine ast_108 C hf dX9_lock_65 (fun hf => ?_)
    refine j_aload_n C 1 rfl dX9_lock_66 ?_
    refine j_get (q := 100) (kf := 9) (T := TX9) (N := 33) (RC := RX9) C m_100 ce_100 rfl in_X9 (by decide) (fun _ h9 => h9) fl_X9_31 rfl dX9_lock_67 ?_
    refine j_iload_n C 2 rfl dX9_lock_70 ?_
    refine j_iconst (v := 0) C (by decide) dX9_lock_71 ?_
    refine ast_109 C hf dX9_lock_72 (fun hf => ?_)
    refine j_iload_n C 0 rfl dX9_lock_73 ?_
    obtain rfl := Option.some.inj hf
    exact j_iret C hr hk ⟨Nat.le_of_ble_eq_true rfl, Nat.le_of_ble_eq_true rfl⟩ rfl dX9_lock_74
  · refine j_iconst (v := 0) C (by decide) dX9_lock_50 ?_
    obtain rfl := Option.some.inj hf
    exact j_iret C hr hk ⟨Nat.le_of_ble_eq_true rfl, Nat.le_of_ble_eq_true rfl⟩ rfl dX9_lock_51
set_option maxRecDepth 100000 in
set_option maxHeartbeats 4000000 in
theorem w_X9_lock_28 {p : Program} {l : Launch} {e : Env} {s : State} {m : MethodId} {args : Array Value} {below : List Frame} {meth : Method} {c : Code} {G : GT} {A : Nat → Prop} {ad : Nat → Nat} (C : CX G A RX9 cX9_lock 4 p s m args c) (hr : meth.sig.returnType = (some .int)) (hk : meth.locks = false) {a : KS} {rr : Int32 × MS}   (b : MS) (v1 : Int32) (v2 : Int32) (hf : f_X9_lock_28 b v1 v2 = some rr) : J p l e (RM 2) s m args below meth c G A 4 (MQ below (QV (some (.int rr.1)) (PosW G ad a rr.2 A) A) args s 0 0 A) 0 0 ad a b 28 [(0, .ref (ad 100)), (1, .int v1), (2, .int v2)] [.ref (ad 100)] := by
  unfold f_X9_lock_28 at hf
  refine j_iconst (v := 2) C (by decide) dX9_lock_28 ?_
  refine j_goto C 44 dX9_lock_29 (by decide) ?_
  refine j_sub [0, 1, 2] rfl ?_
  exact w_X9_lock_44 C hr hk b v1 v2 2 hf
set_option maxRecDepth 100000 in
set_option maxHeartbeats 4000000 in
theorem k_X9_lock {l : Launch} {G : GT} {ad : Nat → Nat} {b : MS} {v1 : Int32} {v2 : Int32} {a : KS} {rr : Int32 × MS} (hf : f_X9_lock b v1 v2 = some rr) : MT l G yX9_lock cX9_lock 4 (some .int) (RM 2) [.ref (ad 100), .int v1, .int v2] ad a b (some (.int rr.1)) a rr.2 := by
  refine MT_of (by decide) (Nat.le_of_ble_eq_true rfl) ?_
  intro p e s m args below meth c A C hr hk
  unfold f_X9_lock at hf
  refine j_aload_n C 0 rfl dX9_lock_0 ?_
  refine j_aload_n C 0 rfl dX9_lock_1 ?_
  refine j_iload_n C 1 rfl dX9_lock_2 ?_
  obtain ⟨z1, h2, hf⟩ := bnd_some hf
  refine j_callV (q := 100) (As := [.int v1]) (rest := [.ref (ad 100)]) C (k_X9_isItem h2) cw_X9_isItem ml_X9_96 m_100 ce_100 rfl rfl ⟨Nat.le_of_ble_eq_true rfl, Nat.le_of_ble_eq_true rfl⟩ ⟨Nat.le_of_ble_eq_true rfl, Nat.le_of_ble_eq_true rfl⟩ rfl (Nat.le_of_ble_eq_true rfl) dX9_lock_3 ?_
  refine j_if_ne C 13 dX9_lock_6 (by decide) hf (fun y4 hf => ?_) (fun y4 hf => ?_)
  · refine j_iload_n C 1 rfl dX9_lock_13 ?_
    refine j_if_eq C 28 dX9_lock_14 (by decide) hf (fun y5 hf => ?_) (fun y5 hf => ?_)
    · refine j_sub [0, 1, 2] rfl ?_
      exact w_X9_lock_28 C hr hk b v1 v2 hf
    · refine j_iload_n C 2 rfl dX9_lock_17 ?_
      refine j_iconst (v := -1) C (by decide) dX9_lock_18 ?_
      refine j_sipush (v := 9999) C (by decide) dX9_lock_19 ?_
      obtain ⟨z6, h7, hf⟩ := bnd_some hf
      refine j_callS (As := [.int v2, .int (-1), .int 9999]) (rest := [.ref (ad 100)]) C (k_X9_in h7) cw_X9_in ml_X9_69 rfl ⟨Nat.le_of_ble_eq_true rfl, Nat.le_of_ble_eq_true rfl⟩ ⟨Nat.le_of_ble_eq_true rfl, Nat.le_of_ble_eq_true rfl⟩ rfl (Nat.le_of_ble_eq_true rfl) dX9_lock_22 ?_
      refine j_if_ne C 32 dX9_lock_25 (by decide) hf (fun y9 hf => ?_) (fun y9 hf => ?_)
      · refine j_aload_n C 0 rfl dX9_lock_32 ?_
        obtain ⟨z10, h11, hf⟩ := bnd_some hf
        refine j_callV (q := 100) (As := []) (rest := [.ref (ad 100)]) C (k_X9_home h11) cw_X9_home ml_X9_93 m_100 ce_100 rfl rfl ⟨Nat.le_of_ble_eq_true rfl, Nat.le_of_ble_eq_true rfl⟩ ⟨Nat.le_of_ble_eq_true rfl, Nat.le_of_ble_eq_true rfl⟩ rfl (Nat.le_of_ble_eq_true rfl) dX9_lock_33 ?_
        refine j_if_ne C 43 dX9_lock_36 (by decide) hf (fun y13 hf => ?_) (fun y13 hf => ?_)
        · refine j_iconst (v := 0) C (by decide) dX9_lock_43 ?_
          refine j_sub [0, 1, 2] rfl ?_
          exact w_X9_lock_44 C hr hk b v1 v2 0 hf
        · refine j_iconst (v := 3) C (by decide) dX9_lock_39 ?_
          refine j_goto C 44 dX9_lock_40 (by decide) ?_
          refine j_sub [0, 1, 2] rfl ?_
          exact w_X9_lock_44 C hr hk b v1 v2 3 hf
      · refine j_sub [0, 1, 2] rfl ?_
        exact w_X9_lock_28 C hr hk b v1 v2 hf
  · refine j_iconst (v := 1) C (by decide) dX9_lock_9 ?_
    refine j_goto C 44 dX9_lock_10 (by decide) ?_
    refine j_sub [0, 1, 2] rfl ?_
    exact w_X9_lock_44 C hr hk b v1 v2 1 hf
set_option maxRecDepth 100000 in
set_option maxHeartbeats 4000000 in
theorem k_X9_items {l : Launch} {G : GT} {ad : Nat → Nat} {b : MS} {a : KS} {rr : Int32 × MS} (hf : f_X9_items b = some rr) : MT l G yX9_items cX9_items 1 (some .int) (RM 0) [.ref (ad 100)] ad a b (some (.int rr.1)) a rr.2 := by
  refine MT_of (by decide) (Nat.le_of_ble_eq_true rfl) ?_
  intro p e s m args below meth c A C hr hk
  unfold f_X9_items at hf
  refine j_aload_n C 0 rfl dX9_items_0 ?_
  refine j_iconst (v := 0) C (by decide) dX9_items_1 ?_
  refine put_X9_0 C fl_X9_66 rfl rfl dX9_items_2 ?_
  refine j_aload_n C 0 rfl dX9_items_5 ?_
  refine j_get (q := 100) (kf := 1) (T := TX9) (N := 33) (RC := RX9) C m_100 ce_100 rfl in_X9 (by decide) (fun _ h9 => h9) fl_X9_62 rfl dX9_items_6 ?_
  obtain rfl := Option.some.inj hf
  exact j_iret C hr hk ⟨Nat.le_of_ble_eq_true rfl, Nat.le_of_ble_eq_true rfl⟩ rfl dX9_items_9
set_option maxRecDepth 100000 in
set_option maxHeartbeats 4000000 in
theorem w_X9_kind_14 {p : Program} {l : Launch} {e : Env} {s : State} {m : MethodId} {args : Array Value} {below : List Frame} {meth : Method} {c : Code} {G : GT} {A : Nat → Prop} {ad : Nat → Nat} (C : CX G A RX9 cX9_kind 2 p s m args c) (hr : meth.sig.returnType = (some .int)) (hk : meth.locks = false) {a : KS} {rr : Int32 × MS}   (b : MS) (v1 : Int32) (s1 : Int32) (hf : f_X9_kind_14 b v1 s1 = some rr) : J p l e (RM 2) s m args below meth c G A 2 (MQ below (QV (some (.int rr.1)) (PosW G ad a rr.2 A) A) args s 0 0 A) 0 0 ad a b 14 [(0, .ref (ad 100)), (1, .int v1)] [.int s1, .ref (ad 100)] := by
  unfold f_X9_kind_14 at hf
  obtain ⟨z1, h2, hf⟩ := bnd_some hf
  refine j_callV (q := 100) (As := [.int s1]) (rest := []) C (k_X9_holds h2) cw_X9_holds ml_X9_109 m_100 ce_100 rfl rfl ⟨Nat.le_of_ble_eq_true rfl, Nat.le_of_ble_eq_true rfl⟩ ⟨Nat.le_of_ble_eq_true rfl, Nat.le_of_ble_eq_true rfl⟩ rfl (Nat.le_of_ble_eq_true rfl) dX9_kind_14 ?_
  refine j_if_eq C 29 dX9_kind_17 (by decide) hf (fun y4 hf => ?_) (fun y4 hf => ?_)
  · refine j_iconst (v := 0) C (by decide) dX9_kind_29 ?_
    obtain rfl := Option.some.inj hf
    exact j_iret C hr hk ⟨Nat.le_of_ble_eq_true rfl, Nat.le_of_ble_eq_true rfl⟩ rfl dX9_kind_30
  · refine j_aload_n C 0 rfl dX9_kind_20 ?_
    refine j_get (q := 100) (kf := 2) (T := TX9) (N := 33) (RC := RX9) C m_100 ce_100 rfl in_X9 (by decide) (fun _ h9 => h9) fl_X9_7 rfl dX9_kind_21 ?_
    refine j_iload_n C 1 rfl dX9_kind_24 ?_
    refine j_iald (q := 102) C m_102 ce_102 hf dX9_kind_25 (fun hf => ?_)
    refine j_goto C 30 dX9_kind_26 (by decide) ?_
    obtain rfl := Option.some.inj hf
    exact j_iret C hr hk ⟨Nat.le_of_ble_eq_true rfl, Nat.le_of_ble_eq_true rfl⟩ rfl dX9_kind_30
set_option maxRecDepth 100000 in
set_option maxHeartbeats 4000000 in
theorem k_X9_kind {l : Launch} {G : GT} {ad : Nat → Nat} {b : MS} {v1 : Int32} {a : KS} {rr : Int32 × MS} (hf : f_X9_kind b v1 = some rr) : MT l G yX9_kind cX9_kind 2 (some .int) (RM 2) [.ref (ad 100), .int v1] ad a b (some (.int rr.1)) a rr.2 := by
  refine MT_of (by decide) (Nat.le_of_ble_eq_true rfl) ?_
  intro p e s m args below meth c A C hr hk
  unfold f_X9_kind at hf
  refine j_aload_n C 0 rfl dX9_kind_0 ?_
  refine j_aload_n C 0 rfl dX9_kind_1 ?_
  refine j_iload_n C 1 rfl dX9_kind_2 ?_
  obtain ⟨z1, h2, hf⟩ := bnd_some hf
  refine j_callV (q := 100) (As := [.int v1]) (rest := [.ref (ad 100)]) C (k_X9_isItem h2) cw_X9_isItem ml_X9_96 m_100 ce_100 rfl rfl ⟨Nat.le_of_ble_eq_true rfl, Nat.le_of_ble_eq_true rfl⟩ ⟨Nat.le_of_ble_eq_true rfl, Nat.le_of_ble_eq_true rfl⟩ rfl (Nat.le_of_ble_eq_true rfl) dX9_kind_3 ?_
  refine j_if_eq C 13 dX9_kind_6 (by decide) hf (fun y4 hf => ?_) (fun y4 hf => ?_)
  · refine j_iconst (v := 1) C (by decide) dX9_kind_13 ?_
    refine j_sub [0, 1] rfl ?_
    exact w_X9_kind_14 C hr hk b v1 1 hf
  · refine j_iconst (v := 0) C (by decide) dX9_kind_9 ?_
    refine j_goto C 14 dX9_kind_10 (by decide) ?_
    refine j_sub [0, 1] rfl ?_
    exact w_X9_kind_14 C hr hk b v1 0 hf
set_option maxRecDepth 100000 in
set_option maxHeartbeats 4000000 in
theorem w_X9_menuOf_14 {p : Program} {l : Launch} {e : Env} {s : State} {m : MethodId} {args : Array Value} {below : List Frame} {meth : Method} {c : Code} {G : GT} {A : Nat → Prop} {ad : Nat → Nat} (C : CX G A RX9 cX9_menuOf 2 p s m args c) (hr : meth.sig.returnType = (some .int)) (hk : meth.locks = false) {a : KS} {rr : Int32 × MS}   (b : MS) (v1 : Int32) (s1 : Int32) (hf : f_X9_menuOf_14 b v1 s1 = some rr) : J p l e (RM 2) s m args below meth c G A 2 (MQ below (QV (some (.int rr.1)) (PosW G ad a rr.2 A) A) args s 0 0 A) 0 0 ad a b 14 [(0, .ref (ad 100)), (1, .int v1)] [.int s1, .ref (ad 100)] := by
  unfold f_X9_menuOf_14 at hf
  obtain ⟨z1, h2, hf⟩ := bnd_some hf
  refine j_callV (q := 100) (As := [.int s1]) (rest := []) C (k_X9_holds h2) cw_X9_holds ml_X9_109 m_100 ce_100 rfl rfl ⟨Nat.le_of_ble_eq_true rfl, Nat.le_of_ble_eq_true rfl⟩ ⟨Nat.le_of_ble_eq_true rfl, Nat.le_of_ble_eq_true rfl⟩ rfl (Nat.le_of_ble_eq_true rfl) dX9_menuOf_14 ?_
  refine j_if_eq C 29 dX9_menuOf_17 (by decide) hf (fun y4 hf => ?_) (fun y4 hf => ?_)
  · refine j_iconst (v := 0) C (by decide) dX9_menuOf_29 ?_
    obtain rfl := Option.some.inj hf
    exact j_iret C hr hk ⟨Nat.le_of_ble_eq_true rfl, Nat.le_of_ble_eq_true rfl⟩ rfl dX9_menuOf_30
  · refine j_aload_n C 0 rfl dX9_menuOf_20 ?_
    refine j_get (q := 100) (kf := 3) (T := TX9) (N := 33) (RC := RX9) C m_100 ce_100 rfl in_X9 (by decide) (fun _ h9 => h9) fl_X9_13 rfl dX9_menuOf_21 ?_
    refine j_iload_n C 1 rfl dX9_menuOf_24 ?_
    refine j_iald (q := 103) C m_103 ce_103 hf dX9_menuOf_25 (fun hf => ?_)
    refine j_goto C 30 dX9_menuOf_26 (by decide) ?_
    obtain rfl := Option.some.inj hf
    exact j_iret C hr hk ⟨Nat.le_of_ble_eq_true rfl, Nat.le_of_ble_eq_true rfl⟩ rfl dX9_menuOf_30
set_option maxRecDepth 100000 in
set_option maxHeartbeats 4000000 in
theorem k_X9_menuOf {l : Launch} {G : GT} {ad : Nat → Nat} {b : MS} {v1 : Int32} {a : KS} {rr : Int32 × MS} (hf : f_X9_menuOf b v1 = some rr) : MT l G yX9_menuOf cX9_menuOf 2 (some .int) (RM 2) [.ref (ad 100), .int v1] ad a b (some (.int rr.1)) a rr.2 := by
  refine MT_of (by decide) (Nat.le_of_ble_eq_true rfl) ?_
  intro p e s m args below meth c A C hr hk
  unfold f_X9_menuOf at hf
  refine j_aload_n C 0 rfl dX9_menuOf_0 ?_
  refine j_aload_n C 0 rfl dX9_menuOf_1 ?_
  refine j_iload_n C 1 rfl dX9_menuOf_2 ?_
  obtain ⟨z1, h2, hf⟩ := bnd_some hf
  refine j_callV (q := 100) (As := [.int v1]) (rest := [.ref (ad 100)]) C (k_X9_isItem h2) cw_X9_isItem ml_X9_96 m_100 ce_100 rfl rfl ⟨Nat.le_of_ble_eq_true rfl, Nat.le_of_ble_eq_true rfl⟩ ⟨Nat.le_of_ble_eq_true rfl, Nat.le_of_ble_eq_true rfl⟩ rfl (Nat.le_of_ble_eq_true rfl) dX9_menuOf_3 ?_
  refine j_if_eq C 13 dX9_menuOf_6 (by decide) hf (fun y4 hf => ?_) (fun y4 hf => ?_)
  · refine j_iconst (v := 1) C (by decide) dX9_menuOf_13 ?_
    refine j_sub [0, 1] rfl ?_
    exact w_X9_menuOf_14 C hr hk b v1 1 hf
  · refine j_iconst (v := 0) C (by decide) dX9_menuOf_9 ?_
    refine j_goto C 14 dX9_menuOf_10 (by decide) ?_
    refine j_sub [0, 1] rfl ?_
    exact w_X9_menuOf_14 C hr hk b v1 0 hf
set_option maxRecDepth 100000 in
set_option maxHeartbeats 4000000 in
theorem w_X9_value_26 {p : Program} {l : Launch} {e : Env} {s : State} {m : MethodId} {args : Array Value} {below : List Frame} {meth : Method} {c : Code} {G : GT} {A : Nat → Prop} {ad : Nat → Nat} (C : CX G A RX9 cX9_value 2 p s m args c) (hr : meth.sig.returnType = (some .int)) (hk : meth.locks = false) {a : KS} {rr : Int32 × MS}   (b : MS) (v1 : Int32) (s1 : Int32) (hf : f_X9_value_26 b v1 s1 = some rr) : J p l e (RM 2) s m args below meth c G A 2 (MQ below (QV (some (.int rr.1)) (PosW G ad a rr.2 A) A) args s 0 0 A) 0 0 ad a b 26 [(0, .ref (ad 100)), (1, .int v1)] [.int s1, .ref (ad 100)] := by
  unfold f_X9_value_26 at hf
  obtain ⟨z1, h2, hf⟩ := bnd_some hf
  refine j_callV (q := 100) (As := [.int s1]) (rest := []) C (k_X9_holds h2) cw_X9_holds ml_X9_109 m_100 ce_100 rfl rfl ⟨Nat.le_of_ble_eq_true rfl, Nat.le_of_ble_eq_true rfl⟩ ⟨Nat.le_of_ble_eq_true rfl, Nat.le_of_ble_eq_true rfl⟩ rfl (Nat.le_of_ble_eq_true rfl) dX9_value_26 ?_
  refine j_if_eq C 41 dX9_value_29 (by decide) hf (fun y4 hf => ?_) (fun y4 hf => ?_)
  · refine j_iconst (v := 0) C (by decide) dX9_value_41 ?_
    obtain rfl := Option.some.inj hf
    exact j_iret C hr hk ⟨Nat.le_of_ble_eq_true rfl, Nat.le_of_ble_eq_true rfl⟩ rfl dX9_value_42
  · refine j_aload_n C 0 rfl dX9_value_32 ?_
    refine j_get (q := 100) (kf := 7) (T := TX9) (N := 33) (RC := RX9) C m_100 ce_100 rfl in_X9 (by decide) (fun _ h9 => h9) fl_X9_25 rfl dX9_value_33 ?_
    refine j_iload_n C 1 rfl dX9_value_36 ?_
    refine j_iald (q := 107) C m_107 ce_107 hf dX9_value_37 (fun hf => ?_)
    refine j_goto C 42 dX9_value_38 (by decide) ?_
    obtain rfl := Option.some.inj hf
    exact j_iret C hr hk ⟨Nat.le_of_ble_eq_true rfl, Nat.le_of_ble_eq_true rfl⟩ rfl dX9_value_42
set_option maxRecDepth 100000 in
set_option maxHeartbeats 4000000 in
theorem k_X9_value {l : Launch} {G : GT} {ad : Nat → Nat} {b : MS} {v1 : Int32} {a : KS} {rr : Int32 × MS} (hf : f_X9_value b v1 = some rr) : MT l G yX9_value cX9_value 2 (some .int) (RM 2) [.ref (ad 100), .int v1] ad a b (some (.int rr.1)) a rr.2 := by
  refine MT_of (by decide) (Nat.le_of_ble_eq_true rfl) ?_
  intro p e s m args below meth c A C hr hk
  unfold f_X9_value at hf
  refine j_aload_n C 0 rfl dX9_value_0 ?_
  refine j_aload_n C 0 rfl dX9_value_1 ?_
  refine j_iload_n C 1 rfl dX9_value_2 ?_
  obtain ⟨z1, h2, hf⟩ := bnd_some hf
  refine j_callV (q := 100) (As := [.int v1]) (rest := [.ref (ad 100)]) C (k_X9_isItem h2) cw_X9_isItem ml_X9_96 m_100 ce_100 rfl rfl ⟨Nat.le_of_ble_eq_true rfl, Nat.le_of_ble_eq_true rfl⟩ ⟨Nat.le_of_ble_eq_true rfl, Nat.le_of_ble_eq_true rfl⟩ rfl (Nat.le_of_ble_eq_true rfl) dX9_value_3 ?_
  refine j_if_ne C 13 dX9_value_6 (by decide) hf (fun y4 hf => ?_) (fun y4 hf => ?_)
  · refine j_aload_n C 0 rfl dX9_value_13 ?_
    refine j_iload_n C 1 rfl dX9_value_14 ?_
    obtain ⟨z5, h6, hf⟩ := bnd_some hf
    refine j_callV (q := 100) (As := [.int v1]) (rest := [.ref (ad 100)]) C (k_X9_isMenu h6) cw_X9_isMenu ml_X9_100 m_100 ce_100 rfl rfl ⟨Nat.le_of_ble_eq_true rfl, Nat.le_of_ble_eq_true rfl⟩ ⟨Nat.le_of_ble_eq_true rfl, Nat.le_of_ble_eq_true rfl⟩ rfl (Nat.le_of_ble_eq_true rfl) dX9_value_15 ?_
    refine j_if_eq C 25 dX9_value_18 (by decide) hf (fun y8 hf => ?_) (fun y8 hf => ?_)
    · refine j_iconst (v := 0) C (by decide) dX9_value_25 ?_
      refine j_sub [0, 1] rfl ?_
      exact w_X9_value_26 C hr hk b v1 0 hf
    · refine j_iconst (v := 2) C (by decide) dX9_value_21 ?_
      refine j_goto C 26 dX9_value_22 (by decide) ?_
      refine j_sub [0, 1] rfl ?_
      exact w_X9_value_26 C hr hk b v1 2 hf
  · refine j_iconst (v := 1) C (by decide) dX9_value_9 ?_
    refine j_goto C 26 dX9_value_10 (by decide) ?_
    refine j_sub [0, 1] rfl ?_
    exact w_X9_value_26 C hr hk b v1 1 hf
set_option maxRecDepth 100000 in
set_option maxHeartbeats 4000000 in
theorem w_X9_isClosed_14 {p : Program} {l : Launch} {e : Env} {s : State} {m : MethodId} {args : Array Value} {below : List Frame} {meth : Method} {c : Code} {G : GT} {A : Nat → Prop} {ad : Nat → Nat} (C : CX G A RX9 cX9_isClosed 2 p s m args c) (hr : meth.sig.returnType = (some .boolean)) (hk : meth.locks = false) {a : KS} {rr : Int32 × MS}   (b : MS) (v1 : Int32) (s1 : Int32) (hf : f_X9_isClosed_14 b v1 s1 = some rr) : J p l e (RM 2) s m args below meth c G A 2 (MQ below (QV (some (.int rr.1)) (PosW G ad a rr.2 A) A) args s 0 0 A) 0 0 ad a b 14 [(0, .ref (ad 100)), (1, .int v1)] [.int s1, .ref (ad 100)] := by
  unfold f_X9_isClosed_14 at hf
  obtain ⟨z1, h2, hf⟩ := bnd_some hf
  refine j_callV (q := 100) (As := [.int s1]) (rest := []) C (k_X9_holds h2) cw_X9_holds ml_X9_109 m_100 ce_100 rfl rfl ⟨Nat.le_of_ble_eq_true rfl, Nat.le_of_ble_eq_true rfl⟩ ⟨Nat.le_of_ble_eq_true rfl, Nat.le_of_ble_eq_true rfl⟩ rfl (Nat.le_of_ble_eq_true rfl) dX9_isClosed_14 ?_
  refine j_if_eq C 32 dX9_isClosed_17 (by decide) hf (fun y4 hf => ?_) (fun y4 hf => ?_)
  · refine j_iconst (v := 0) C (by decide) dX9_isClosed_32 ?_
    obtain rfl := Option.some.inj hf
    exact j_zret C hr hk (by decide) ⟨Nat.le_of_ble_eq_true rfl, Nat.le_of_ble_eq_true rfl⟩ rfl dX9_isClosed_33
  · refine j_aload_n C 0 rfl dX9_isClosed_20 ?_
    refine j_iload_n C 1 rfl dX9_isClosed_21 ?_
    obtain ⟨z5, h6, hf⟩ := bnd_some hf
    refine j_callV (q := 100) (As := [.int v1]) (rest := []) C (k_X9_isShut h6) cw_X9_isShut ml_X9_116 m_100 ce_100 rfl rfl ⟨Nat.le_of_ble_eq_true rfl, Nat.le_of_ble_eq_true rfl⟩ ⟨Nat.le_of_ble_eq_true rfl, Nat.le_of_ble_eq_true rfl⟩ rfl (Nat.le_of_ble_eq_true rfl) dX9_isClosed_22 ?_
    refine j_if_eq C 32 dX9_isClosed_25 (by decide) hf (fun y8 hf => ?_) (fun y8 hf => ?_)
    · refine j_iconst (v := 0) C (by decide) dX9_isClosed_32 ?_
      obtain rfl := Option.some.inj hf
      exact j_zret C hr hk (by decide) ⟨Nat.le_of_ble_eq_true rfl, Nat.le_of_ble_eq_true rfl⟩ rfl dX9_isClosed_33
    · refine j_iconst (v := 1) C (by decide) dX9_isClosed_28 ?_
      refine j_goto C 33 dX9_isClosed_29 (by decide) ?_
      obtain rfl := Option.some.inj hf
      exact j_zret C hr hk (by decide) ⟨Nat.le_of_ble_eq_true rfl, Nat.le_of_ble_eq_true rfl⟩ rfl dX9_isClosed_33
set_option maxRecDepth 100000 in
set_option maxHeartbeats 4000000 in
theorem k_X9_isClosed {l : Launch} {G : GT} {ad : Nat → Nat} {b : MS} {v1 : Int32} {a : KS} {rr : Int32 × MS} (hf : f_X9_isClosed b v1 = some rr) : MT l G yX9_isClosed cX9_isClosed 2 (some .boolean) (RM 2) [.ref (ad 100), .int v1] ad a b (some (.int rr.1)) a rr.2 := by
  refine MT_of (by decide) (Nat.le_of_ble_eq_true rfl) ?_
  intro p e s m args below meth c A C hr hk
  unfold f_X9_isClosed at hf
  refine j_aload_n C 0 rfl dX9_isClosed_0 ?_
  refine j_aload_n C 0 rfl dX9_isClosed_1 ?_
  refine j_iload_n C 1 rfl dX9_isClosed_2 ?_
  obtain ⟨z1, h2, hf⟩ := bnd_some hf
  refine j_callV (q := 100) (As := [.int v1]) (rest := [.ref (ad 100)]) C (k_X9_isItem h2) cw_X9_isItem ml_X9_96 m_100 ce_100 rfl rfl ⟨Nat.le_of_ble_eq_true rfl, Nat.le_of_ble_eq_true rfl⟩ ⟨Nat.le_of_ble_eq_true rfl, Nat.le_of_ble_eq_true rfl⟩ rfl (Nat.le_of_ble_eq_true rfl) dX9_isClosed_3 ?_
  refine j_if_eq C 13 dX9_isClosed_6 (by decide) hf (fun y4 hf => ?_) (fun y4 hf => ?_)
  · refine j_iconst (v := 1) C (by decide) dX9_isClosed_13 ?_
    refine j_sub [0, 1] rfl ?_
    exact w_X9_isClosed_14 C hr hk b v1 1 hf
  · refine j_iconst (v := 0) C (by decide) dX9_isClosed_9 ?_
    refine j_goto C 14 dX9_isClosed_10 (by decide) ?_
    refine j_sub [0, 1] rfl ?_
    exact w_X9_isClosed_14 C hr hk b v1 0 hf
set_option maxRecDepth 100000 in
set_option maxHeartbeats 4000000 in
theorem k_X9_inRing {l : Launch} {G : GT} {ad : Nat → Nat} {b : MS} {v0 : Int32} {v1 : Int32} {a : KS} {rr : Int32} (hf : f_X9_inRing b v0 v1 = some rr) : MT l G yX9_inRing cX9_inRing 3 (some .int) (RM 0) [.int v0, .int v1] ad a b (some (.int rr)) a b := by
  refine MT_of (by decide) (Nat.le_of_ble_eq_true rfl) ?_
  intro p e s m args below meth c A C hr hk
  unfold f_X9_inRing at hf
  refine j_iload_n C 0 rfl dX9_inRing_0 ?_
  refine j_iload_n C 1 rfl dX9_inRing_1 ?_
  obtain ⟨h1, hf⟩ := gd_some hf
  refine j_irem C (nz_ne h1) dX9_inRing_2 ?_
  refine j_letI hf (fun x2 hf => ?_)
  refine j_istore_n (i := 2) (lv' := [(2, .int x2), (0, .int v0), (1, .int v1)]) C dX9_inRing_3 rfl (by decide) rfl ?_
  refine j_iload_n C 0 rfl dX9_inRing_4 ?_
  refine j_if_ge C 14 dX9_inRing_5 (by decide) hf (fun y3 hf => ?_) (fun y3 hf => ?_)
  · refine j_iload_n C 0 rfl dX9_inRing_14 ?_
    obtain rfl := Option.some.inj hf
    exact j_iret C hr hk ⟨Nat.le_of_ble_eq_true rfl, Nat.le_of_ble_eq_true rfl⟩ rfl dX9_inRing_15
  · refine j_iload_n C 0 rfl dX9_inRing_8 ?_
    refine j_iload_n C 2 rfl dX9_inRing_9 ?_
    refine j_iadd C dX9_inRing_10 ?_
    refine j_goto C 15 dX9_inRing_11 (by decide) ?_
    obtain rfl := Option.some.inj hf
    exact j_iret C hr hk ⟨Nat.le_of_ble_eq_true rfl, Nat.le_of_ble_eq_true rfl⟩ rfl dX9_inRing_15
set_option maxRecDepth 100000 in
set_option maxHeartbeats 4000000 in
theorem k_X9_within {l : Launch} {G : GT} {ad : Nat → Nat} {b : MS} {v0 : Int32} {v1 : Int32} {v2 : Int32} {a : KS} {rr : Int32} (hf : f_X9_within b v0 v1 v2 = some rr) : MT l G yX9_within cX9_within 3 (some .int) (RM 0) [.int v0, .int v1, .int v2] ad a b (some (.int rr)) a b := by
  refine MT_of (by decide) (Nat.le_of_ble_eq_true rfl) ?_
  intro p e s m args below meth c A C hr hk
  unfold f_X9_within at hf
  refine j_iload_n C 0 rfl dX9_within_0 ?_
  refine j_iload_n C 1 rfl dX9_within_1 ?_
  refine j_icmp_ge C 9 dX9_within_2 (by decide) hf (fun y1 hf => ?_) (fun y1 hf => ?_)
  · refine j_iload_n C 0 rfl dX9_within_9 ?_
    refine j_iload_n C 2 rfl dX9_within_10 ?_
    refine j_icmp_le C 18 dX9_within_11 (by decide) hf (fun y2 hf => ?_) (fun y2 hf => ?_)
    · refine j_iload_n C 0 rfl dX9_within_18 ?_
      obtain rfl := Option.some.inj hf
      exact j_iret C hr hk ⟨Nat.le_of_ble_eq_true rfl, Nat.le_of_ble_eq_true rfl⟩ rfl dX9_within_19
    · refine j_iload_n C 2 rfl dX9_within_14 ?_
      refine j_goto C 19 dX9_within_15 (by decide) ?_
      obtain rfl := Option.some.inj hf
      exact j_iret C hr hk ⟨Nat.le_of_ble_eq_true rfl, Nat.le_of_ble_eq_true rfl⟩ rfl dX9_within_19
  · refine j_iload_n C 1 rfl dX9_within_5 ?_
    refine j_goto C 19 dX9_within_6 (by decide) ?_
    obtain rfl := Option.some.inj hf
    exact j_iret C hr hk ⟨Nat.le_of_ble_eq_true rfl, Nat.le_of_ble_eq_true rfl⟩ rfl dX9_within_19
set_option maxRecDepth 100000 in
set_option maxHeartbeats 4000000 in
theorem w_X9_turned_69 {p : Program} {l : Launch} {e : Env} {s : State} {m : MethodId} {args : Array Value} {below : List Frame} {meth : Method} {c : Code} {G : GT} {A : Nat → Prop} {ad : Nat → Nat} (C : CX G A RX9 cX9_turned 4 p s m args c) (hr : meth.sig.returnType = (some .int)) (hk : meth.locks = false) {a : KS} {rr : Int32}   (b : MS) (v1 : Int32) (v2 : Int32) (s0 : Int32) (hf : f_X9_turned_69 b v1 v2 s0 = some rr) : J p l e (RM 2) s m args below meth c G A 4 (MQ below (QV (some (.int rr)) (PosW G ad a b A) A) args s 0 0 A) 0 0 ad a b 69 [(0, .ref (ad 100)), (1, .int v1), (2, .int v2)] [.int s0] := by
  unfold f_X9_turned_69 at hf
  refine j_istore_n (i := 3) (lv' := [(3, .int s0), (0, .ref (ad 100)), (1, .int v1), (2, .int v2)]) C dX9_turned_69 rfl (by decide) rfl ?_
  refine j_aload_n C 1 rfl dX9_turned_70 ?_
  refine j_get (q := 100) (kf := 2) (T := TX9) (N := 33) (RC := RX9) C m_100 ce_100 rfl in_X9 (by decide) (fun _ h9 => h9) fl_X9_7 rfl dX9_turned_71 ?_
  refine j_iload_n C 3 rfl dX9_turned_74 ?_
  refine j_iald (q := 102) C m_102 ce_102 hf dX9_turned_75 (fun hf => ?_)
  refine j_iconst (v := 1) C (by decide) dX9_turned_76 ?_
  refine j_icmp_ne C 111 dX9_turned_77 (by decide) hf (fun y1 hf => ?_) (fun y1 hf => ?_)
  · refine j_aload_n C 1 rfl dX9_turned_111 ?_
    refine j_get (q := 100) (kf := 13) (T := TX9) (N := 33) (RC := RX9) C m_100 ce_100 rfl in_X9 (by decide) (fun _ h9 => h9) fl_X9_128 rfl dX9_turned_112 ?_
    refine j_iload_n C 2 rfl dX9_turned_115 ?_
    refine j_iadd C dX9_turned_116 ?_
    refine j_aload_n C 1 rfl dX9_turned_117 ?_
    refine j_get (q := 100) (kf := 5) (T := TX9) (N := 33) (RC := RX9) C m_100 ce_100 rfl in_X9 (by decide) (fun _ h9 => h9) fl_X9_19 rfl dX9_turned_118 ?_
    refine j_iload_n C 3 rfl dX9_turned_121 ?_
    refine j_iald (q := 105) C m_105 ce_105 hf dX9_turned_122 (fun hf => ?_)
    refine j_iconst (v := 1) C (by decide) dX9_turned_123 ?_
    refine j_iadd C dX9_turned_124 ?_
    obtain ⟨z2, h3, hf⟩ := bnd_some hf
    refine j_callS (As := [.int ((Mhi b 100 13) + v1), .int ((Mhi b 105 (v2.toNatClampNeg)) + 1)]) (rest := []) C (k_X9_inRing h3) cw_X9_inRing ml_X9_122 rfl ⟨Nat.le_of_ble_eq_true rfl, Nat.le_of_ble_eq_true rfl⟩ ⟨Nat.le_of_ble_eq_true rfl, Nat.le_of_ble_eq_true rfl⟩ rfl (Nat.le_of_ble_eq_true rfl) dX9_turned_125 ?_
    obtain rfl := Option.some.inj hf
    exact j_iret C hr hk ⟨Nat.le_of_ble_eq_true rfl, Nat.le_of_ble_eq_true rfl⟩ rfl dX9_turned_128
  · refine j_aload_n C 1 rfl dX9_turned_80 ?_
    refine j_get (q := 100) (kf := 13) (T := TX9) (N := 33) (RC := RX9) C m_100 ce_100 rfl in_X9 (by decide) (fun _ h9 => h9) fl_X9_128 rfl dX9_turned_81 ?_
    refine j_iload_n C 0 rfl dX9_turned_84 ?_
    refine j_aload_n C 1 rfl dX9_turned_85 ?_
    refine j_get (q := 100) (kf := 6) (T := TX9) (N := 33) (RC := RX9) C m_100 ce_100 rfl in_X9 (by decide) (fun _ h9 => h9) fl_X9_22 rfl dX9_turned_86 ?_
    refine j_iload_n C 3 rfl dX9_turned_89 ?_
    refine j_iald (q := 106) C m_106 ce_106 hf dX9_turned_90 (fun hf => ?_)
    refine j_imul C dX9_turned_91 ?_
    refine j_iadd C dX9_turned_92 ?_
    refine j_aload_n C 1 rfl dX9_turned_93 ?_
    refine j_get (q := 100) (kf := 4) (T := TX9) (N := 33) (RC := RX9) C m_100 ce_100 rfl in_X9 (by decide) (fun _ h9 => h9) fl_X9_16 rfl dX9_turned_94 ?_
    refine j_iload_n C 3 rfl dX9_turned_97 ?_
    refine j_iald (q := 104) C m_104 ce_104 hf dX9_turned_98 (fun hf => ?_)
    refine j_aload_n C 1 rfl dX9_turned_99 ?_
    refine j_get (q := 100) (kf := 5) (T := TX9) (N := 33) (RC := RX9) C m_100 ce_100 rfl in_X9 (by decide) (fun _ h9 => h9) fl_X9_19 rfl dX9_turned_100 ?_
    refine j_iload_n C 3 rfl dX9_turned_103 ?_
    refine j_iald (q := 105) C m_105 ce_105 hf dX9_turned_104 (fun hf => ?_)
    obtain ⟨z5, h6, hf⟩ := bnd_some hf
    refine j_callS (As := [.int ((Mhi b 100 13) + (s0 * (Mhi b 106 (v2.toNatClampNeg)))), .int (Mhi b 104 (v2.toNatClampNeg)), .int (Mhi b 105 (v2.toNatClampNeg))]) (rest := []) C (k_X9_within h6) cw_X9_within ml_X9_131 rfl ⟨Nat.le_of_ble_eq_true rfl, Nat.le_of_ble_eq_true rfl⟩ ⟨Nat.le_of_ble_eq_true rfl, Nat.le_of_ble_eq_true rfl⟩ rfl (Nat.le_of_ble_eq_true rfl) dX9_turned_105 ?_
    refine j_goto C 128 dX9_turned_108 (by decide) ?_
    obtain rfl := Option.some.inj hf
    exact j_iret C hr hk ⟨Nat.le_of_ble_eq_true rfl, Nat.le_of_ble_eq_true rfl⟩ rfl dX9_turned_128
set_option maxRecDepth 100000 in
set_option maxHeartbeats 4000000 in
theorem w_X9_turned_68 {p : Program} {l : Launch} {e : Env} {s : State} {m : MethodId} {args : Array Value} {below : List Frame} {meth : Method} {c : Code} {G : GT} {A : Nat → Prop} {ad : Nat → Nat} (C : CX G A RX9 cX9_turned 4 p s m args c) (hr : meth.sig.returnType = (some .int)) (hk : meth.locks = false) {a : KS} {rr : Int32}   (b : MS) (v1 : Int32) (v2 : Int32) (hf : f_X9_turned_68 b v1 v2 = some rr) : J p l e (RM 2) s m args below meth c G A 4 (MQ below (QV (some (.int rr)) (PosW G ad a b A) A) args s 0 0 A) 0 0 ad a b 68 [(0, .ref (ad 100)), (1, .int v1), (2, .int v2)] [] := by
  unfold f_X9_turned_68 at hf
  refine j_iload_n C 1 rfl dX9_turned_68 ?_
  refine j_sub [0, 1, 2] rfl ?_
  exact w_X9_turned_69 C hr hk b v1 v2 v1 hf
set_option maxRecDepth 100000 in
set_option maxHeartbeats 4000000 in
theorem k_X9_turned {l : Launch} {G : GT} {ad : Nat → Nat} {b : MS} {v1 : Int32} {a : KS} {rr : Int32} (hf : f_X9_turned b v1 = some rr) : MT l G yX9_turned cX9_turned 4 (some .int) (RM 2) [.ref (ad 100), .int v1] ad a b (some (.int rr)) a b := by
  refine MT_of (by decide) (Nat.le_of_ble_eq_true rfl) ?_
  intro p e s m args below meth c A C hr hk
  unfold f_X9_turned at hf
  refine j_aload_n C 0 rfl dX9_turned_0 ?_
  refine j_get (q := 100) (kf := 10) (T := TX9) (N := 33) (RC := RX9) C m_100 ce_100 rfl in_X9 (by decide) (fun _ h9 => h9) fl_X9_83 rfl dX9_turned_1 ?_
  refine j_iconst (v := 2) C (by decide) dX9_turned_4 ?_
  refine j_icmp_ne C 25 dX9_turned_5 (by decide) hf (fun y1 hf => ?_) (fun y1 hf => ?_)
  · refine j_aload_n C 0 rfl dX9_turned_25 ?_
    refine j_aload_n C 0 rfl dX9_turned_26 ?_
    refine j_get (q := 100) (kf := 12) (T := TX9) (N := 33) (RC := RX9) C m_100 ce_100 rfl in_X9 (by decide) (fun _ h9 => h9) fl_X9_86 rfl dX9_turned_27 ?_
    obtain ⟨z2, h3, hf⟩ := bnd_some hf
    refine j_callV (q := 100) (As := [.int (Mhi b 100 12)]) (rest := []) C (k_X9_itemAt h3) cw_X9_itemAt ml_X9_125 m_100 ce_100 rfl rfl ⟨Nat.le_of_ble_eq_true rfl, Nat.le_of_ble_eq_true rfl⟩ ⟨Nat.le_of_ble_eq_true rfl, Nat.le_of_ble_eq_true rfl⟩ rfl (Nat.le_of_ble_eq_true rfl) dX9_turned_30 ?_
    refine j_istore_n (i := 2) (lv' := [(2, .int z2), (0, .ref (ad 100)), (1, .int v1)]) C dX9_turned_33 rfl (by decide) rfl ?_
    refine j_aload_n C 1 rfl dX9_turned_34 ?_
    refine j_get (q := 100) (kf := 10) (T := TX9) (N := 33) (RC := RX9) C m_100 ce_100 rfl in_X9 (by decide) (fun _ h9 => h9) fl_X9_83 rfl dX9_turned_35 ?_
    refine j_iconst (v := 1) C (by decide) dX9_turned_38 ?_
    refine j_icmp_ne C 129 dX9_turned_39 (by decide) hf (fun y5 hf => ?_) (fun y5 hf => ?_)
    · refine j_aload_n C 1 rfl dX9_turned_129 ?_
      refine j_aload_n C 1 rfl dX9_turned_130 ?_
      refine j_get (q := 100) (kf := 11) (T := TX9) (N := 33) (RC := RX9) C m_100 ce_100 rfl in_X9 (by decide) (fun _ h9 => h9) fl_X9_77 rfl dX9_turned_131 ?_
      obtain ⟨z6, h7, hf⟩ := bnd_some hf
      refine j_callV (q := 100) (As := [.int (Mhi b 100 11)]) (rest := []) C (k_X9_entries h7) cw_X9_entries ml_X9_135 m_100 ce_100 rfl rfl ⟨Nat.le_of_ble_eq_true rfl, Nat.le_of_ble_eq_true rfl⟩ ⟨Nat.le_of_ble_eq_true rfl, Nat.le_of_ble_eq_true rfl⟩ rfl (Nat.le_of_ble_eq_true rfl) dX9_turned_134 ?_
      refine j_istore_n (i := 3) (lv' := [(3, .int z6), (2, .int z2), (0, .ref (ad 100)), (1, .int v1)]) C dX9_turned_137 rfl (by decide) rfl ?_
      refine j_iload_n C 0 rfl dX9_turned_138 ?_
      refine j_if_ne C 144 dX9_turned_139 (by decide) hf (fun y9 hf => ?_) (fun y9 hf => ?_)
      · refine j_aload_n C 2 rfl dX9_turned_144 ?_
        refine j_get (q := 100) (kf := 19) (T := TX9) (N := 33) (RC := RX9) C m_100 ce_100 rfl in_X9 (by decide) (fun _ h9 => h9) fl_X9_38 rfl dX9_turned_145 ?_
        refine j_iconst (v := 2) C (by decide) dX9_turned_148 ?_
        refine j_iald (q := 119) C m_119 ce_119 hf dX9_turned_149 (fun hf => ?_)
        refine j_iconst (v := 1) C (by decide) dX9_turned_150 ?_
        refine j_icmp_ne C 167 dX9_turned_151 (by decide) hf (fun y10 hf => ?_) (fun y10 hf => ?_)
        · refine j_aload_n C 2 rfl dX9_turned_167 ?_
          refine j_get (q := 100) (kf := 12) (T := TX9) (N := 33) (RC := RX9) C m_100 ce_100 rfl in_X9 (by decide) (fun _ h9 => h9) fl_X9_86 rfl dX9_turned_168 ?_
          refine j_iload_n C 3 rfl dX9_turned_171 ?_
          refine j_iadd C dX9_turned_172 ?_
          refine j_iconst (v := 0) C (by decide) dX9_turned_173 ?_
          refine j_iload_n C 0 rfl dX9_turned_174 ?_
          refine j_iconst (v := 1) C (by decide) dX9_turned_175 ?_
          refine j_isub C dX9_turned_176 ?_
          obtain ⟨z11, h12, hf⟩ := bnd_some hf
          refine j_callS (As := [.int ((Mhi b 100 12) + v1), .int 0, .int (z6 - 1)]) (rest := []) C (k_X9_within h12) cw_X9_within ml_X9_131 rfl ⟨Nat.le_of_ble_eq_true rfl, Nat.le_of_ble_eq_true rfl⟩ ⟨Nat.le_of_ble_eq_true rfl, Nat.le_of_ble_eq_true rfl⟩ rfl (Nat.le_of_ble_eq_true rfl) dX9_turned_177 ?_
          obtain rfl := Option.some.inj hf
          exact j_iret C hr hk ⟨Nat.le_of_ble_eq_true rfl, Nat.le_of_ble_eq_true rfl⟩ rfl dX9_turned_180
        · refine j_aload_n C 2 rfl dX9_turned_154 ?_
          refine j_get (q := 100) (kf := 12) (T := TX9) (N := 33) (RC := RX9) C m_100 ce_100 rfl in_X9 (by decide) (fun _ h9 => h9) fl_X9_86 rfl dX9_turned_155 ?_
          refine j_iload_n C 3 rfl dX9_turned_158 ?_
          refine j_iadd C dX9_turned_159 ?_
          refine j_iload_n C 0 rfl dX9_turned_160 ?_
          obtain ⟨z14, h15, hf⟩ := bnd_some hf
          refine j_callS (As := [.int ((Mhi b 100 12) + v1), .int z6]) (rest := []) C (k_X9_inRing h15) cw_X9_inRing ml_X9_122 rfl ⟨Nat.le_of_ble_eq_true rfl, Nat.le_of_ble_eq_true rfl⟩ ⟨Nat.le_of_ble_eq_true rfl, Nat.le_of_ble_eq_true rfl⟩ rfl (Nat.le_of_ble_eq_true rfl) dX9_turned_161 ?_
          refine j_goto C 180 dX9_turned_164 (by decide) ?_
          obtain rfl := Option.some.inj hf
          exact j_iret C hr hk ⟨Nat.le_of_ble_eq_true rfl, Nat.le_of_ble_eq_true rfl⟩ rfl dX9_turned_180
      · refine j_iconst (v := 0) C (by decide) dX9_turned_142 ?_
        obtain rfl := Option.some.inj hf
        exact j_iret C hr hk ⟨Nat.le_of_ble_eq_true rfl, Nat.le_of_ble_eq_true rfl⟩ rfl dX9_turned_143
    · refine j_aload_n C 1 rfl dX9_turned_42 ?_
      refine j_get (q := 100) (kf := 2) (T := TX9) (N := 33) (RC := RX9) C m_100 ce_100 rfl in_X9 (by decide) (fun _ h9 => h9) fl_X9_7 rfl dX9_turned_43 ?_
      refine j_iload_n C 0 rfl dX9_turned_46 ?_
      refine j_iald (q := 102) C m_102 ce_102 hf dX9_turned_47 (fun hf => ?_)
      refine j_iconst (v := 1) C (by decide) dX9_turned_48 ?_
      refine j_icmp_ne C 68 dX9_turned_49 (by decide) hf (fun y17 hf => ?_) (fun y17 hf => ?_)
      · refine j_sub [1, 2, 0] rfl ?_
        exact w_X9_turned_68 C hr hk b v1 z2 hf
      · refine j_iload_n C 2 rfl dX9_turned_52 ?_
        refine j_bipush (v := -4) C (by decide) dX9_turned_53 ?_
        refine j_iconst (v := 4) C (by decide) dX9_turned_55 ?_
        obtain ⟨z18, h19, hf⟩ := bnd_some hf
        refine j_callS (As := [.int v1, .int (-4), .int 4]) (rest := []) C (k_X9_in h19) cw_X9_in ml_X9_69 rfl ⟨Nat.le_of_ble_eq_true rfl, Nat.le_of_ble_eq_true rfl⟩ ⟨Nat.le_of_ble_eq_true rfl, Nat.le_of_ble_eq_true rfl⟩ rfl (Nat.le_of_ble_eq_true rfl) dX9_turned_56 ?_
        refine j_if_ne C 68 dX9_turned_59 (by decide) hf (fun y21 hf => ?_) (fun y21 hf => ?_)
        · refine j_sub [1, 2, 0] rfl ?_
          exact w_X9_turned_68 C hr hk b v1 z2 hf
        · refine j_iconst (v := 2) C (by decide) dX9_turned_62 ?_
          refine j_iload_n C 2 rfl dX9_turned_63 ?_
          refine j_imul C dX9_turned_64 ?_
          refine j_goto C 69 dX9_turned_65 (by decide) ?_
          refine j_sub [1, 2, 0] rfl ?_
          exact w_X9_turned_69 C hr hk b v1 z2 (2 * v1) hf
  · refine j_aload_n C 0 rfl dX9_turned_8 ?_
    refine j_get (q := 100) (kf := 14) (T := TX9) (N := 33) (RC := RX9) C m_100 ce_100 rfl in_X9 (by decide) (fun _ h9 => h9) fl_X9_35 rfl dX9_turned_9 ?_
    refine j_aload_n C 0 rfl dX9_turned_12 ?_
    refine j_get (q := 100) (kf := 15) (T := TX9) (N := 33) (RC := RX9) C m_100 ce_100 rfl in_X9 (by decide) (fun _ h9 => h9) fl_X9_119 rfl dX9_turned_13 ?_
    refine j_iald (q := 114) C m_114 ce_114 hf dX9_turned_16 (fun hf => ?_)
    refine j_iload_n C 1 rfl dX9_turned_17 ?_
    refine j_iadd C dX9_turned_18 ?_
    refine j_bipush (v := 10) C (by decide) dX9_turned_19 ?_
    obtain ⟨z22, h23, hf⟩ := bnd_some hf
    refine j_callS (As := [.int ((Mhi b 114 ((Mhi b 100 15).toNatClampNeg)) + v1), .int 10]) (rest := []) C (k_X9_inRing h23) cw_X9_inRing ml_X9_122 rfl ⟨Nat.le_of_ble_eq_true rfl, Nat.le_of_ble_eq_true rfl⟩ ⟨Nat.le_of_ble_eq_true rfl, Nat.le_of_ble_eq_true rfl⟩ rfl (Nat.le_of_ble_eq_true rfl) dX9_turned_21 ?_
    obtain rfl := Option.some.inj hf
    exact j_iret C hr hk ⟨Nat.le_of_ble_eq_true rfl, Nat.le_of_ble_eq_true rfl⟩ rfl dX9_turned_24
set_option maxRecDepth 100000 in
set_option maxHeartbeats 4000000 in
theorem w_X9_turns_28 {p : Program} {l : Launch} {e : Env} {s : State} {m : MethodId} {args : Array Value} {below : List Frame} {meth : Method} {c : Code} {G : GT} {A : Nat → Prop} {ad : Nat → Nat} (C : CX G A RX9 cX9_turns 3 p s m args c) (hr : meth.sig.returnType = (some .int)) (hk : meth.locks = false) {a : KS} {rr : Int32 × MS}   (b : MS) (v2 : Int32) (s1 : Int32) (s2 : Int32) (s3 : Int32) (hf : f_X9_turns_28 b v2 s1 s2 s3 = some rr) : J p l e (RM 3) s m args below meth c G A 3 (MQ below (QV (some (.int rr.1)) (PosW G ad a rr.2 A) A) args s 0 0 A) 0 0 ad a b 28 [(0, .ref (ad 100)), (2, .int v2)] [.int s3, .int s2, .int s1, .ref (ad 120)] := by
  unfold f_X9_turns_28 at hf
  refine j_iadd C dX9_turns_28 ?_
  refine ast_120 C hf dX9_turns_29 (fun hf => ?_)
  refine j_aload_n C 0 rfl dX9_turns_30 ?_
  refine j_get (q := 100) (kf := 10) (T := TX9) (N := 33) (RC := RX9) C m_100 ce_100 rfl in_X9 (by decide) (fun _ h9 => h9) fl_X9_83 rfl dX9_turns_31 ?_
  refine j_if_ne C 45 dX9_turns_34 (by decide) hf (fun y1 hf => ?_) (fun y1 hf => ?_)
  · refine j_aload_n C 0 rfl dX9_turns_45 ?_
    refine j_get (q := 100) (kf := 10) (T := TX9) (N := 33) (RC := RX9) C m_100 ce_100 rfl in_X9 (by decide) (fun _ h9 => h9) fl_X9_83 rfl dX9_turns_46 ?_
    refine j_iconst (v := 1) C (by decide) dX9_turns_49 ?_
    refine j_icmp_ne C 61 dX9_turns_50 (by decide) hf (fun y2 hf => ?_) (fun y2 hf => ?_)
    · refine j_aload_n C 0 rfl dX9_turns_61 ?_
      refine j_get (q := 100) (kf := 14) (T := TX9) (N := 33) (RC := RX9) C m_100 ce_100 rfl in_X9 (by decide) (fun _ h9 => h9) fl_X9_35 rfl dX9_turns_62 ?_
      refine j_aload_n C 0 rfl dX9_turns_65 ?_
      refine j_get (q := 100) (kf := 15) (T := TX9) (N := 33) (RC := RX9) C m_100 ce_100 rfl in_X9 (by decide) (fun _ h9 => h9) fl_X9_119 rfl dX9_turns_66 ?_
      refine j_iload_n C 1 rfl dX9_turns_69 ?_
      refine ast_114 C hf dX9_turns_70 (fun hf => ?_)
      refine j_iload_n C 1 rfl dX9_turns_71 ?_
      obtain rfl := Option.some.inj hf
      exact j_iret C hr hk ⟨Nat.le_of_ble_eq_true rfl, Nat.le_of_ble_eq_true rfl⟩ rfl dX9_turns_72
    · refine j_aload_n C 0 rfl dX9_turns_53 ?_
      refine j_iload_n C 1 rfl dX9_turns_54 ?_
      refine put_X9_13 C fl_X9_128 rfl rfl dX9_turns_55 ?_
      refine j_goto C 71 dX9_turns_58 (by decide) ?_
      refine j_iload_n C 1 rfl dX9_turns_71 ?_
      obtain rfl := Option.some.inj hf
      exact j_iret C hr hk ⟨Nat.le_of_ble_eq_true rfl, Nat.le_of_ble_eq_true rfl⟩ rfl dX9_turns_72
  · refine j_aload_n C 0 rfl dX9_turns_37 ?_
    refine j_iload_n C 1 rfl dX9_turns_38 ?_
    refine put_X9_12 C fl_X9_86 rfl rfl dX9_turns_39 ?_
    refine j_goto C 71 dX9_turns_42 (by decide) ?_
    refine j_iload_n C 1 rfl dX9_turns_71 ?_
    obtain rfl := Option.some.inj hf
    exact j_iret C hr hk ⟨Nat.le_of_ble_eq_true rfl, Nat.le_of_ble_eq_true rfl⟩ rfl dX9_turns_72
set_option maxRecDepth 100000 in
set_option maxHeartbeats 4000000 in
theorem k_X9_turns {l : Launch} {G : GT} {ad : Nat → Nat} {b : MS} {v1 : Int32} {a : KS} {rr : Int32 × MS} (hf : f_X9_turns b v1 = some rr) : MT l G yX9_turns cX9_turns 3 (some .int) (RM 3) [.ref (ad 100), .int v1] ad a b (some (.int rr.1)) a rr.2 := by
  refine MT_of (by decide) (Nat.le_of_ble_eq_true rfl) ?_
  intro p e s m args below meth c A C hr hk
  unfold f_X9_turns at hf
  refine j_aload_n C 0 rfl dX9_turns_0 ?_
  refine j_iload_n C 1 rfl dX9_turns_1 ?_
  obtain ⟨z1, h2, hf⟩ := bnd_some hf
  refine j_callV (q := 100) (As := [.int v1]) (rest := []) C (k_X9_turned h2) cw_X9_turned ml_X9_138 m_100 ce_100 rfl rfl ⟨Nat.le_of_ble_eq_true rfl, Nat.le_of_ble_eq_true rfl⟩ ⟨Nat.le_of_ble_eq_true rfl, Nat.le_of_ble_eq_true rfl⟩ rfl (Nat.le_of_ble_eq_true rfl) dX9_turns_2 ?_
  refine j_istore_n (i := 2) (lv' := [(2, .int z1), (0, .ref (ad 100)), (1, .int v1)]) C dX9_turns_5 rfl (by decide) rfl ?_
  refine j_aload_n C 1 rfl dX9_turns_6 ?_
  refine j_iconst (v := 0) C (by decide) dX9_turns_7 ?_
  refine put_X9_16 C fl_X9_141 rfl rfl dX9_turns_8 ?_
  refine j_aload_n C 1 rfl dX9_turns_11 ?_
  refine j_get (q := 100) (kf := 20) (T := TX9) (N := 33) (RC := RX9) C m_100 ce_100 rfl in_X9 (by decide) (fun _ h9 => h9) fl_X9_41 rfl dX9_turns_12 ?_
  refine j_iconst (v := 0) C (by decide) dX9_turns_15 ?_
  refine j_dup2 C rfl rfl dX9_turns_16 ?_
  refine j_iald (q := 120) C m_120 ce_120 hf dX9_turns_17 (fun hf => ?_)
  refine j_iload_n C 2 rfl dX9_turns_18 ?_
  refine j_if_ge C 27 dX9_turns_19 (by decide) hf (fun y4 hf => ?_) (fun y4 hf => ?_)
  · refine j_iload_n C 2 rfl dX9_turns_27 ?_
    refine j_sub [1, 0] rfl ?_
    exact w_X9_turns_28 C hr hk (sMhi b 100 16 0) z1 0 (Mhi (sMhi b 100 16 0) 120 ((0 : Int32).toNatClampNeg)) v1 hf
  · refine j_iload_n C 2 rfl dX9_turns_22 ?_
    refine j_ineg C dX9_turns_23 ?_
    refine j_goto C 28 dX9_turns_24 (by decide) ?_
    refine j_sub [1, 0] rfl ?_
    exact w_X9_turns_28 C hr hk (sMhi b 100 16 0) z1 0 (Mhi (sMhi b 100 16 0) 120 ((0 : Int32).toNatClampNeg)) (-v1) hf
set_option maxRecDepth 100000 in
set_option maxHeartbeats 4000000 in
theorem w_X9_turn_17 {p : Program} {l : Launch} {e : Env} {s : State} {m : MethodId} {args : Array Value} {below : List Frame} {meth : Method} {c : Code} {G : GT} {A : Nat → Prop} {ad : Nat → Nat} (C : CX G A RX9 cX9_turn 2 p s m args c) (hr : meth.sig.returnType = (some .int)) (hk : meth.locks = false) {a : KS} {rr : Int32 × MS}   (b : MS) (v1 : Int32) (s1 : Int32) (hf : f_X9_turn_17 b v1 s1 = some rr) : J p l e (RM 4) s m args below meth c G A 2 (MQ below (QV (some (.int rr.1)) (PosW G ad a rr.2 A) A) args s 0 0 A) 0 0 ad a b 17 [(0, .ref (ad 100)), (1, .int v1)] [.int s1, .ref (ad 100)] := by
  unfold f_X9_turn_17 at hf
  obtain ⟨z1, h2, hf⟩ := bnd_some hf
  refine j_callV (q := 100) (As := [.int s1]) (rest := []) C (k_X9_holds h2) cw_X9_holds ml_X9_109 m_100 ce_100 rfl rfl ⟨Nat.le_of_ble_eq_true rfl, Nat.le_of_ble_eq_true rfl⟩ ⟨Nat.le_of_ble_eq_true rfl, Nat.le_of_ble_eq_true rfl⟩ rfl (Nat.le_of_ble_eq_true rfl) dX9_turn_17 ?_
  refine j_if_eq C 31 dX9_turn_20 (by decide) hf (fun y4 hf => ?_) (fun y4 hf => ?_)
  · refine j_iconst (v := 0) C (by decide) dX9_turn_31 ?_
    obtain rfl := Option.some.inj hf
    exact j_iret C hr hk ⟨Nat.le_of_ble_eq_true rfl, Nat.le_of_ble_eq_true rfl⟩ rfl dX9_turn_32
  · refine j_aload_n C 0 rfl dX9_turn_23 ?_
    refine j_iload_n C 1 rfl dX9_turn_24 ?_
    obtain ⟨z5, h6, hf⟩ := bnd_some hf
    refine j_callV (q := 100) (As := [.int v1]) (rest := []) C (k_X9_turns h6) cw_X9_turns ml_X9_144 m_100 ce_100 rfl rfl ⟨Nat.le_of_ble_eq_true rfl, Nat.le_of_ble_eq_true rfl⟩ ⟨Nat.le_of_ble_eq_true rfl, Nat.le_of_ble_eq_true rfl⟩ rfl (Nat.le_of_ble_eq_true rfl) dX9_turn_25 ?_
    refine j_goto C 32 dX9_turn_28 (by decide) ?_
    obtain rfl := Option.some.inj hf
    exact j_iret C hr hk ⟨Nat.le_of_ble_eq_true rfl, Nat.le_of_ble_eq_true rfl⟩ rfl dX9_turn_32
set_option maxRecDepth 100000 in
set_option maxHeartbeats 4000000 in
theorem k_X9_turn {l : Launch} {G : GT} {ad : Nat → Nat} {b : MS} {v1 : Int32} {a : KS} {rr : Int32 × MS} (hf : f_X9_turn b v1 = some rr) : MT l G yX9_turn cX9_turn 2 (some .int) (RM 4) [.ref (ad 100), .int v1] ad a b (some (.int rr.1)) a rr.2 := by
  refine MT_of (by decide) (Nat.le_of_ble_eq_true rfl) ?_
  intro p e s m args below meth c A C hr hk
  unfold f_X9_turn at hf
  refine j_aload_n C 0 rfl dX9_turn_0 ?_
  refine j_iload_n C 1 rfl dX9_turn_1 ?_
  refine j_bipush (v := -50) C (by decide) dX9_turn_2 ?_
  refine j_bipush (v := 50) C (by decide) dX9_turn_4 ?_
  obtain ⟨z1, h2, hf⟩ := bnd_some hf
  refine j_callS (As := [.int v1, .int (-50), .int 50]) (rest := [.ref (ad 100)]) C (k_X9_in h2) cw_X9_in ml_X9_69 rfl ⟨Nat.le_of_ble_eq_true rfl, Nat.le_of_ble_eq_true rfl⟩ ⟨Nat.le_of_ble_eq_true rfl, Nat.le_of_ble_eq_true rfl⟩ rfl (Nat.le_of_ble_eq_true rfl) dX9_turn_6 ?_
  refine j_if_eq C 16 dX9_turn_9 (by decide) hf (fun y4 hf => ?_) (fun y4 hf => ?_)
  · refine j_iconst (v := 1) C (by decide) dX9_turn_16 ?_
    refine j_sub [0, 1] rfl ?_
    exact w_X9_turn_17 C hr hk b v1 1 hf
  · refine j_iconst (v := 0) C (by decide) dX9_turn_12 ?_
    refine j_goto C 17 dX9_turn_13 (by decide) ?_
    refine j_sub [0, 1] rfl ?_
    exact w_X9_turn_17 C hr hk b v1 0 hf
set_option maxRecDepth 100000 in
set_option maxHeartbeats 4000000 in
theorem w_X9_logs_70 {p : Program} {l : Launch} {e : Env} {s : State} {m : MethodId} {args : Array Value} {below : List Frame} {meth : Method} {c : Code} {G : GT} {A : Nat → Prop} {ad : Nat → Nat} (C : CX G A RX9 cX9_logs 4 p s m args c) (hr : meth.sig.returnType = none) (hk : meth.locks = false) {a : KS} {rr : MS}   (b : MS) (v1 : Int32) (v2 : Int32) (s1 : Int32) (s2 : Int32) (hf : f_X9_logs_70 b v1 v2 s1 s2 = some rr) : J p l e (RM 0) s m args below meth c G A 4 (MQ below (QV (none) (PosW G ad a rr A) A) args s 0 0 A) 0 0 ad a b 70 [(0, .ref (ad 100)), (1, .int v1), (2, .int v2)] [.int s2, .int s1, .ref (ad 100)] := by
  unfold f_X9_logs_70 at hf
  refine j_isub C dX9_logs_70 ?_
  refine put_X9_23 C fl_X9_147 rfl rfl dX9_logs_71 ?_
  refine j_aload_n C 0 rfl dX9_logs_74 ?_
  refine j_get (q := 100) (kf := 21) (T := TX9) (N := 33) (RC := RX9) C m_100 ce_100 rfl in_X9 (by decide) (fun _ h9 => h9) fl_X9_44 rfl dX9_logs_75 ?_
  refine j_aload_n C 0 rfl dX9_logs_78 ?_
  refine j_get (q := 100) (kf := 23) (T := TX9) (N := 33) (RC := RX9) C m_100 ce_100 rfl in_X9 (by decide) (fun _ h9 => h9) fl_X9_147 rfl dX9_logs_79 ?_
  refine j_iload_n C 1 rfl dX9_logs_82 ?_
  refine ast_121 C hf dX9_logs_83 (fun hf => ?_)
  refine j_aload_n C 0 rfl dX9_logs_84 ?_
  refine j_get (q := 100) (kf := 22) (T := TX9) (N := 33) (RC := RX9) C m_100 ce_100 rfl in_X9 (by decide) (fun _ h9 => h9) fl_X9_47 rfl dX9_logs_85 ?_
  refine j_aload_n C 0 rfl dX9_logs_88 ?_
  refine j_get (q := 100) (kf := 23) (T := TX9) (N := 33) (RC := RX9) C m_100 ce_100 rfl in_X9 (by decide) (fun _ h9 => h9) fl_X9_147 rfl dX9_logs_89 ?_
  refine j_iload_n C 2 rfl dX9_logs_92 ?_
  refine ast_122 C hf dX9_logs_93 (fun hf => ?_)
  refine j_aload_n C 0 rfl dX9_logs_94 ?_
  refine j_dup C rfl dX9_logs_95 ?_
  refine j_get (q := 100) (kf := 23) (T := TX9) (N := 33) (RC := RX9) C m_100 ce_100 rfl in_X9 (by decide) (fun _ h9 => h9) fl_X9_147 rfl dX9_logs_96 ?_
  refine j_iconst (v := 1) C (by decide) dX9_logs_99 ?_
  refine j_iadd C dX9_logs_100 ?_
  refine put_X9_23 C fl_X9_147 rfl rfl dX9_logs_101 ?_
  obtain rfl := Option.some.inj hf
  exact j_vret C hr hk ⟨Nat.le_of_ble_eq_true rfl, Nat.le_of_ble_eq_true rfl⟩ rfl dX9_logs_104
set_option maxRecDepth 100000 in
set_option maxHeartbeats 4000000 in
theorem w_X9_logs_51 {p : Program} {l : Launch} {e : Env} {s : State} {m : MethodId} {args : Array Value} {below : List Frame} {meth : Method} {c : Code} {G : GT} {A : Nat → Prop} {ad : Nat → Nat} (C : CX G A RX9 cX9_logs 4 p s m args c) (hr : meth.sig.returnType = none) (hk : meth.locks = false) {a : KS} {rr : MS}   (b : MS) (v1 : Int32) (v2 : Int32) (hf : f_X9_logs_51 b v1 v2 = some rr) : J p l e (RM 0) s m args below meth c G A 4 (MQ below (QV (none) (PosW G ad a rr A) A) args s 0 0 A) 0 0 ad a b 51 [(0, .ref (ad 100)), (1, .int v1), (2, .int v2)] [] := by
  unfold f_X9_logs_51 at hf
  refine j_aload_n C 0 rfl dX9_logs_51 ?_
  refine j_dup C rfl dX9_logs_52 ?_
  refine j_get (q := 100) (kf := 23) (T := TX9) (N := 33) (RC := RX9) C m_100 ce_100 rfl in_X9 (by decide) (fun _ h9 => h9) fl_X9_147 rfl dX9_logs_53 ?_
  refine j_aload_n C 0 rfl dX9_logs_56 ?_
  refine j_get (q := 100) (kf := 23) (T := TX9) (N := 33) (RC := RX9) C m_100 ce_100 rfl in_X9 (by decide) (fun _ h9 => h9) fl_X9_147 rfl dX9_logs_57 ?_
  refine j_bipush (v := 8) C (by decide) dX9_logs_60 ?_
  refine j_icmp_ne C 69 dX9_logs_62 (by decide) hf (fun y1 hf => ?_) (fun y1 hf => ?_)
  · refine j_iconst (v := 0) C (by decide) dX9_logs_69 ?_
    refine j_sub [0, 1, 2] rfl ?_
    exact w_X9_logs_70 C hr hk b v1 v2 (Mhi b 100 23) 0 hf
  · refine j_iconst (v := 1) C (by decide) dX9_logs_65 ?_
    refine j_goto C 70 dX9_logs_66 (by decide) ?_
    refine j_sub [0, 1, 2] rfl ?_
    exact w_X9_logs_70 C hr hk b v1 v2 (Mhi b 100 23) 1 hf
set_option maxRecDepth 100000 in
set_option maxHeartbeats 4000000 in
theorem w_X9_logs_2 {p : Program} {l : Launch} {e : Env} {s : State} {m : MethodId} {args : Array Value} {below : List Frame} {meth : Method} {c : Code} {G : GT} {A : Nat → Prop} {ad : Nat → Nat} (C : CX G A RX9 cX9_logs 4 p s m args c) (hr : meth.sig.returnType = none) (hk : meth.locks = false) {a : KS} {rr : MS} (c2 : MS → Int32 → Int32 → Int32 → Option MS) (K2 : ∀ (b : MS) (v1 : Int32) (v2 : Int32) (v3 : Int32), c2 b v1 v2 v3 = some rr → J p l e (RM 0) s m args below meth c G A 4 (MQ below (QV (none) (PosW G ad a rr A) A) args s 0 0 A) 0 0 ad a b 2 [(0, .ref (ad 100)), (1, .int v1), (2, .int v2), (3, .int v3)] []) (b : MS) (v1 : Int32) (v2 : Int32) (v3 : Int32) (hf : f_X9_logs_2 c2 b v1 v2 v3 = some rr) : J p l e (RM 0) s m args below meth c G A 4 (MQ below (QV (none) (PosW G ad a rr A) A) args s 0 0 A) 0 0 ad a b 2 [(0, .ref (ad 100)), (1, .int v1), (2, .int v2), (3, .int v3)] [] := by
  unfold f_X9_logs_2 at hf
  refine j_iload_n C 3 rfl dX9_logs_2 ?_
  refine j_bipush (v := 8) C (by decide) dX9_logs_3 ?_
  refine j_icmp_ge C 51 dX9_logs_5 (by decide) hf (fun y1 hf => ?_) (fun y1 hf => ?_)
  · refine j_sub [0, 1, 2] rfl ?_
    exact w_X9_logs_51 C hr hk b v1 v2 hf
  · refine j_aload_n C 0 rfl dX9_logs_8 ?_
    refine j_get (q := 100) (kf := 23) (T := TX9) (N := 33) (RC := RX9) C m_100 ce_100 rfl in_X9 (by decide) (fun _ h9 => h9) fl_X9_147 rfl dX9_logs_9 ?_
    refine j_bipush (v := 8) C (by decide) dX9_logs_12 ?_
    refine j_icmp_ne C 51 dX9_logs_14 (by decide) hf (fun y2 hf => ?_) (fun y2 hf => ?_)
    · refine j_sub [0, 1, 2] rfl ?_
      exact w_X9_logs_51 C hr hk b v1 v2 hf
    · refine j_aload_n C 0 rfl dX9_logs_17 ?_
      refine j_get (q := 100) (kf := 21) (T := TX9) (N := 33) (RC := RX9) C m_100 ce_100 rfl in_X9 (by decide) (fun _ h9 => h9) fl_X9_44 rfl dX9_logs_18 ?_
      refine j_iload_n C 3 rfl dX9_logs_21 ?_
      refine j_iconst (v := 1) C (by decide) dX9_logs_22 ?_
      refine j_isub C dX9_logs_23 ?_
      refine j_aload_n C 0 rfl dX9_logs_24 ?_
      refine j_get (q := 100) (kf := 21) (T := TX9) (N := 33) (RC := RX9) C m_100 ce_100 rfl in_X9 (by decide) (fun _ h9 => h9) fl_X9_44 rfl dX9_logs_25 ?_
      refine j_iload_n C 3 rfl dX9_logs_28 ?_
      refine j_iald (q := 121) C m_121 ce_121 hf dX9_logs_29 (fun hf => ?_)
      refine ast_121 C hf dX9_logs_30 (fun hf => ?_)
      refine j_aload_n C 0 rfl dX9_logs_31 ?_
      refine j_get (q := 100) (kf := 22) (T := TX9) (N := 33) (RC := RX9) C m_100 ce_100 rfl in_X9 (by decide) (fun _ h9 => h9) fl_X9_47 rfl dX9_logs_32 ?_
      refine j_iload_n C 3 rfl dX9_logs_35 ?_
      refine j_iconst (v := 1) C (by decide) dX9_logs_36 ?_
      refine j_isub C dX9_logs_37 ?_
      refine j_aload_n C 0 rfl dX9_logs_38 ?_
      refine j_get (q := 100) (kf := 22) (T := TX9) (N := 33) (RC := RX9) C m_100 ce_100 rfl in_X9 (by decide) (fun _ h9 => h9) fl_X9_47 rfl dX9_logs_39 ?_
      refine j_iload_n C 3 rfl dX9_logs_42 ?_
      refine j_iald (q := 122) C m_122 ce_122 hf dX9_logs_43 (fun hf => ?_)
      refine ast_122 C hf dX9_logs_44 (fun hf => ?_)
      refine j_iinc (v := v3 + 1) (lv' := [(3, .int (v3 + 1)), (0, .ref (ad 100)), (1, .int v1), (2, .int v2)]) C 3 rfl rfl (by decide) rfl dX9_logs_45 ?_
      refine j_goto C 2 dX9_logs_48 (by decide) ?_
      refine j_sub [1, 2, 3, 0] rfl ?_
      exact K2 (sMhi (sMhi b 121 ((v3 - 1).toNatClampNeg) (Mhi b 121 (v3.toNatClampNeg))) 122 ((v3 - 1).toNatClampNeg) (Mhi (sMhi b 121 ((v3 - 1).toNatClampNeg) (Mhi b 121 (v3.toNatClampNeg))) 122 (v3.toNatClampNeg))) v1 v2 (v3 + 1) hf
theorem wl_X9_logs_2 {p : Program} {l : Launch} {e : Env} {s : State} {m : MethodId} {args : Array Value} {below : List Frame} {meth : Method} {c : Code} {G : GT} {A : Nat → Prop} {ad : Nat → Nat} (C : CX G A RX9 cX9_logs 4 p s m args c) (hr : meth.sig.returnType = none) (hk : meth.locks = false) {a : KS} {rr : MS} (fuel : Nat)   : ∀ (b : MS) (v1 : Int32) (v2 : Int32) (v3 : Int32), l_X9_logs_2 fuel  b v1 v2 v3 = some rr → J p l e (RM 0) s m args below meth c G A 4 (MQ below (QV (none) (PosW G ad a rr A) A) args s 0 0 A) 0 0 ad a b 2 [(0, .ref (ad 100)), (1, .int v1), (2, .int v2), (3, .int v3)] [] := by
  induction fuel with
  | zero => intro b v1 v2 v3 hf; cases hf
  | succ n ih =>
    intro b v1 v2 v3 hf
    have hf : f_X9_logs_2 (l_X9_logs_2 n ) b v1 v2 v3 = some rr := hf
    exact w_X9_logs_2 C hr hk (l_X9_logs_2 n ) ih b v1 v2 v3 hf
set_option maxRecDepth 100000 in
set_option maxHeartbeats 4000000 in
theorem k_X9_logs {l : Launch} {G : GT} {ad : Nat → Nat} {b : MS} {v1 : Int32} {v2 : Int32} {a : KS} {rr : MS} (hf : f_X9_logs b v1 v2 = some rr) : MT l G yX9_logs cX9_logs 4 none (RM 0) [.ref (ad 100), .int v1, .int v2] ad a b (none) a rr := by
  refine MT_of (by decide) (Nat.le_of_ble_eq_true rfl) ?_
  intro p e s m args below meth c A C hr hk
  unfold f_X9_logs at hf
  refine j_iconst (v := 1) C (by decide) dX9_logs_0 ?_
  refine j_istore_n (i := 3) (lv' := [(3, .int 1), (0, .ref (ad 100)), (1, .int v1), (2, .int v2)]) C dX9_logs_1 rfl (by decide) rfl ?_
  refine j_sub [1, 2, 3, 0] rfl ?_
  exact wl_X9_logs_2 C hr hk FU b v1 v2 1 hf
set_option maxRecDepth 100000 in
set_option maxHeartbeats 4000000 in
theorem w_X9_goesOn_84 {p : Program} {l : Launch} {e : Env} {s : State} {m : MethodId} {args : Array Value} {below : List Frame} {meth : Method} {c : Code} {G : GT} {A : Nat → Prop} {ad : Nat → Nat} (C : CX G A RX9 cX9_goesOn 3 p s m args c) (hr : meth.sig.returnType = (some .int)) (hk : meth.locks = false) {a : KS} {rr : Int32 × MS} (c84 : MS → Int32 → Option (Int32 × MS)) (K84 : ∀ (b : MS) (v2 : Int32), c84 b v2 = some rr → J p l e (RM 2) s m args below meth c G A 3 (MQ below (QV (some (.int rr.1)) (PosW G ad a rr.2 A) A) args s 0 0 A) 0 0 ad a b 84 [(0, .ref (ad 100)), (2, .int v2)] []) (b : MS) (v2 : Int32) (hf : f_X9_goesOn_84 c84 b v2 = some rr) : J p l e (RM 2) s m args below meth c G A 3 (MQ below (QV (some (.int rr.1)) (PosW G ad a rr.2 A) A) args s 0 0 A) 0 0 ad a b 84 [(0, .ref (ad 100)), (2, .int v2)] [] := by
  unfold f_X9_goesOn_84 at hf
  refine j_iload_n C 1 rfl dX9_goesOn_84 ?_
  refine j_iconst (v := 4) C (by decide) dX9_goesOn_85 ?_
  refine j_icmp_ge C 102 dX9_goesOn_86 (by decide) hf (fun y1 hf => ?_) (fun y1 hf => ?_)
  · refine j_iconst (v := 5) C (by decide) dX9_goesOn_102 ?_
    obtain rfl := Option.some.inj hf
    exact j_iret C hr hk ⟨Nat.le_of_ble_eq_true rfl, Nat.le_of_ble_eq_true rfl⟩ rfl dX9_goesOn_103
  · refine j_aload_n C 0 rfl dX9_goesOn_89 ?_
    refine j_get (q := 100) (kf := 14) (T := TX9) (N := 33) (RC := RX9) C m_100 ce_100 rfl in_X9 (by decide) (fun _ h9 => h9) fl_X9_35 rfl dX9_goesOn_90 ?_
    refine j_iload_n C 1 rfl dX9_goesOn_93 ?_
    refine j_iconst (v := 0) C (by decide) dX9_goesOn_94 ?_
    refine ast_114 C hf dX9_goesOn_95 (fun hf => ?_)
    refine j_iinc (v := v2 + 1) (lv' := [(2, .int (v2 + 1)), (0, .ref (ad 100))]) C 1 rfl rfl (by decide) rfl dX9_goesOn_96 ?_
    refine j_goto C 84 dX9_goesOn_99 (by decide) ?_
    refine j_sub [1, 0] rfl ?_
    exact K84 (sMhi b 114 (v2.toNatClampNeg) 0) (v2 + 1) hf
theorem wl_X9_goesOn_84 {p : Program} {l : Launch} {e : Env} {s : State} {m : MethodId} {args : Array Value} {below : List Frame} {meth : Method} {c : Code} {G : GT} {A : Nat → Prop} {ad : Nat → Nat} (C : CX G A RX9 cX9_goesOn 3 p s m args c) (hr : meth.sig.returnType = (some .int)) (hk : meth.locks = false) {a : KS} {rr : Int32 × MS} (fuel : Nat)   : ∀ (b : MS) (v2 : Int32), l_X9_goesOn_84 fuel  b v2 = some rr → J p l e (RM 2) s m args below meth c G A 3 (MQ below (QV (some (.int rr.1)) (PosW G ad a rr.2 A) A) args s 0 0 A) 0 0 ad a b 84 [(0, .ref (ad 100)), (2, .int v2)] [] := by
  induction fuel with
  | zero => intro b v2 hf; cases hf
  | succ n ih =>
    intro b v2 hf
    have hf : f_X9_goesOn_84 (l_X9_goesOn_84 n ) b v2 = some rr := hf
    exact w_X9_goesOn_84 C hr hk (l_X9_goesOn_84 n ) ih b v2 hf
set_option maxRecDepth 100000 in
set_option maxHeartbeats 4000000 in
theorem k_X9_goesOn {l : Launch} {G : GT} {ad : Nat → Nat} {b : MS} {a : KS} {rr : Int32 × MS} (hf : f_X9_goesOn b = some rr) : MT l G yX9_goesOn cX9_goesOn 3 (some .int) (RM 2) [.ref (ad 100)] ad a b (some (.int rr.1)) a rr.2 := by
  refine MT_of (by decide) (Nat.le_of_ble_eq_true rfl) ?_
  intro p e s m args below meth c A C hr hk
  unfold f_X9_goesOn at hf
  refine j_aload_n C 0 rfl dX9_goesOn_0 ?_
  refine j_aload_n C 0 rfl dX9_goesOn_1 ?_
  refine j_get (q := 100) (kf := 12) (T := TX9) (N := 33) (RC := RX9) C m_100 ce_100 rfl in_X9 (by decide) (fun _ h9 => h9) fl_X9_86 rfl dX9_goesOn_2 ?_
  obtain ⟨z1, h2, hf⟩ := bnd_some hf
  refine j_callV (q := 100) (As := [.int (Mhi b 100 12)]) (rest := []) C (k_X9_itemAt h2) cw_X9_itemAt ml_X9_125 m_100 ce_100 rfl rfl ⟨Nat.le_of_ble_eq_true rfl, Nat.le_of_ble_eq_true rfl⟩ ⟨Nat.le_of_ble_eq_true rfl, Nat.le_of_ble_eq_true rfl⟩ rfl (Nat.le_of_ble_eq_true rfl) dX9_goesOn_5 ?_
  refine j_istore_n (i := 1) (lv' := [(1, .int z1), (0, .ref (ad 100))]) C dX9_goesOn_8 rfl (by decide) rfl ?_
  refine j_iload_n C 0 rfl dX9_goesOn_9 ?_
  refine j_iconst (v := -1) C (by decide) dX9_goesOn_10 ?_
  refine j_icmp_ne C 54 dX9_goesOn_11 (by decide) hf (fun y4 hf => ?_) (fun y4 hf => ?_)
  · refine j_aload_n C 1 rfl dX9_goesOn_54 ?_
    refine j_iload_n C 0 rfl dX9_goesOn_55 ?_
    obtain ⟨z5, h6, hf⟩ := bnd_some hf
    refine j_callV (q := 100) (As := [.int z1]) (rest := []) C (k_X9_isShut h6) cw_X9_isShut ml_X9_116 m_100 ce_100 rfl rfl ⟨Nat.le_of_ble_eq_true rfl, Nat.le_of_ble_eq_true rfl⟩ ⟨Nat.le_of_ble_eq_true rfl, Nat.le_of_ble_eq_true rfl⟩ rfl (Nat.le_of_ble_eq_true rfl) dX9_goesOn_56 ?_
    refine j_if_eq C 104 dX9_goesOn_59 (by decide) hf (fun y8 hf => ?_) (fun y8 hf => ?_)
    · refine j_aload_n C 1 rfl dX9_goesOn_104 ?_
      refine j_iload_n C 0 rfl dX9_goesOn_105 ?_
      obtain ⟨z9, h10, hf⟩ := bnd_some hf
      refine j_callV (q := 100) (As := [.int z1]) (rest := []) C (k_X9_isMenu h10) cw_X9_isMenu ml_X9_100 m_100 ce_100 rfl rfl ⟨Nat.le_of_ble_eq_true rfl, Nat.le_of_ble_eq_true rfl⟩ ⟨Nat.le_of_ble_eq_true rfl, Nat.le_of_ble_eq_true rfl⟩ rfl (Nat.le_of_ble_eq_true rfl) dX9_goesOn_106 ?_
      refine j_if_eq C 124 dX9_goesOn_109 (by decide) hf (fun y12 hf => ?_) (fun y12 hf => ?_)
      · refine j_aload_n C 1 rfl dX9_goesOn_124 ?_
        refine j_iconst (v := 1) C (by decide) dX9_goesOn_125 ?_
        refine put_X9_10 C fl_X9_83 rfl rfl dX9_goesOn_126 ?_
        refine j_aload_n C 1 rfl dX9_goesOn_129 ?_
        refine j_aload_n C 1 rfl dX9_goesOn_130 ?_
        refine j_get (q := 100) (kf := 7) (T := TX9) (N := 33) (RC := RX9) C m_100 ce_100 rfl in_X9 (by decide) (fun _ h9 => h9) fl_X9_25 rfl dX9_goesOn_131 ?_
        refine j_iload_n C 0 rfl dX9_goesOn_134 ?_
        refine j_iald (q := 107) C m_107 ce_107 hf dX9_goesOn_135 (fun hf => ?_)
        refine put_X9_13 C fl_X9_128 rfl rfl dX9_goesOn_136 ?_
        refine j_iconst (v := 3) C (by decide) dX9_goesOn_139 ?_
        obtain rfl := Option.some.inj hf
        exact j_iret C hr hk ⟨Nat.le_of_ble_eq_true rfl, Nat.le_of_ble_eq_true rfl⟩ rfl dX9_goesOn_140
      · refine j_aload_n C 1 rfl dX9_goesOn_112 ?_
        refine j_iload_n C 0 rfl dX9_goesOn_113 ?_
        refine put_X9_11 C fl_X9_77 rfl rfl dX9_goesOn_114 ?_
        refine j_aload_n C 1 rfl dX9_goesOn_117 ?_
        refine j_iconst (v := 0) C (by decide) dX9_goesOn_118 ?_
        refine put_X9_12 C fl_X9_86 rfl rfl dX9_goesOn_119 ?_
        refine j_iconst (v := 2) C (by decide) dX9_goesOn_122 ?_
        obtain rfl := Option.some.inj hf
        exact j_iret C hr hk ⟨Nat.le_of_ble_eq_true rfl, Nat.le_of_ble_eq_true rfl⟩ rfl dX9_goesOn_123
    · refine j_aload_n C 1 rfl dX9_goesOn_62 ?_
      refine j_get (q := 100) (kf := 17) (T := TX9) (N := 33) (RC := RX9) C m_100 ce_100 rfl in_X9 (by decide) (fun _ h9 => h9) fl_X9_150 rfl dX9_goesOn_63 ?_
      refine j_if_le C 72 dX9_goesOn_66 (by decide) hf (fun y13 hf => ?_) (fun y13 hf => ?_)
      · refine j_aload_n C 1 rfl dX9_goesOn_72 ?_
        refine j_iconst (v := 2) C (by decide) dX9_goesOn_73 ?_
        refine put_X9_10 C fl_X9_83 rfl rfl dX9_goesOn_74 ?_
        refine j_aload_n C 1 rfl dX9_goesOn_77 ?_
        refine j_iconst (v := 0) C (by decide) dX9_goesOn_78 ?_
        refine put_X9_15 C fl_X9_119 rfl rfl dX9_goesOn_79 ?_
        refine j_iconst (v := 0) C (by decide) dX9_goesOn_82 ?_
        refine j_istore_n (i := 2) (lv' := [(2, .int 0), (1, .int z1), (0, .ref (ad 100))]) C dX9_goesOn_83 rfl (by decide) rfl ?_
        refine j_sub [2, 0] rfl ?_
        exact wl_X9_goesOn_84 C hr hk FU (sMhi (sMhi b 100 10 2) 100 15 0) 0 hf
      · refine j_bipush (v := 9) C (by decide) dX9_goesOn_69 ?_
        obtain rfl := Option.some.inj hf
        exact j_iret C hr hk ⟨Nat.le_of_ble_eq_true rfl, Nat.le_of_ble_eq_true rfl⟩ rfl dX9_goesOn_71
  · refine j_aload_n C 1 rfl dX9_goesOn_14 ?_
    refine j_aload_n C 1 rfl dX9_goesOn_15 ?_
    refine j_get (q := 100) (kf := 11) (T := TX9) (N := 33) (RC := RX9) C m_100 ce_100 rfl in_X9 (by decide) (fun _ h9 => h9) fl_X9_77 rfl dX9_goesOn_16 ?_
    obtain ⟨z14, h15, hf⟩ := bnd_some hf
    refine j_callV (q := 100) (As := [.int (Mhi b 100 11)]) (rest := []) C (k_X9_entries h15) cw_X9_entries ml_X9_135 m_100 ce_100 rfl rfl ⟨Nat.le_of_ble_eq_true rfl, Nat.le_of_ble_eq_true rfl⟩ ⟨Nat.le_of_ble_eq_true rfl, Nat.le_of_ble_eq_true rfl⟩ rfl (Nat.le_of_ble_eq_true rfl) dX9_goesOn_19 ?_
    refine j_if_ne C 27 dX9_goesOn_22 (by decide) hf (fun y17 hf => ?_) (fun y17 hf => ?_)
    · refine j_aload_n C 1 rfl dX9_goesOn_27 ?_
      refine j_aload_n C 1 rfl dX9_goesOn_28 ?_
      refine j_aload_n C 1 rfl dX9_goesOn_29 ?_
      refine j_get (q := 100) (kf := 11) (T := TX9) (N := 33) (RC := RX9) C m_100 ce_100 rfl in_X9 (by decide) (fun _ h9 => h9) fl_X9_77 rfl dX9_goesOn_30 ?_
      obtain ⟨z18, h19, hf⟩ := bnd_some hf
      refine j_callV (q := 100) (As := [.int (Mhi b 100 11)]) (rest := [.ref (ad 100)]) C (k_X9_indexOf h19) cw_X9_indexOf ml_X9_80 m_100 ce_100 rfl rfl ⟨Nat.le_of_ble_eq_true rfl, Nat.le_of_ble_eq_true rfl⟩ ⟨Nat.le_of_ble_eq_true rfl, Nat.le_of_ble_eq_true rfl⟩ rfl (Nat.le_of_ble_eq_true rfl) dX9_goesOn_33 ?_
      refine put_X9_12 C fl_X9_86 rfl rfl dX9_goesOn_36 ?_
      refine j_aload_n C 1 rfl dX9_goesOn_39 ?_
      refine j_aload_n C 1 rfl dX9_goesOn_40 ?_
      refine j_get (q := 100) (kf := 3) (T := TX9) (N := 33) (RC := RX9) C m_100 ce_100 rfl in_X9 (by decide) (fun _ h9 => h9) fl_X9_13 rfl dX9_goesOn_41 ?_
      refine j_aload_n C 1 rfl dX9_goesOn_44 ?_
      refine j_get (q := 100) (kf := 11) (T := TX9) (N := 33) (RC := RX9) C m_100 ce_100 rfl in_X9 (by decide) (fun _ h9 => h9) fl_X9_77 rfl dX9_goesOn_45 ?_
      refine j_iald (q := 103) C m_103 ce_103 hf dX9_goesOn_48 (fun hf => ?_)
      refine put_X9_11 C fl_X9_77 rfl rfl dX9_goesOn_49 ?_
      refine j_iconst (v := 1) C (by decide) dX9_goesOn_52 ?_
      obtain rfl := Option.some.inj hf
      exact j_iret C hr hk ⟨Nat.le_of_ble_eq_true rfl, Nat.le_of_ble_eq_true rfl⟩ rfl dX9_goesOn_53
    · refine j_iconst (v := 0) C (by decide) dX9_goesOn_25 ?_
      obtain rfl := Option.some.inj hf
      exact j_iret C hr hk ⟨Nat.le_of_ble_eq_true rfl, Nat.le_of_ble_eq_true rfl⟩ rfl dX9_goesOn_26
set_option maxRecDepth 100000 in
set_option maxHeartbeats 4000000 in
theorem k_X9_codeDone {l : Launch} {G : GT} {ad : Nat → Nat} {b : MS} {a : KS} {rr : Int32 × MS} (hf : f_X9_codeDone b = some rr) : MT l G yX9_codeDone cX9_codeDone 2 (some .int) (RM 2) [.ref (ad 100)] ad a b (some (.int rr.1)) a rr.2 := by
  refine MT_of (by decide) (Nat.le_of_ble_eq_true rfl) ?_
  intro p e s m args below meth c A C hr hk
  unfold f_X9_codeDone at hf
  refine j_aload_n C 0 rfl dX9_codeDone_0 ?_
  refine j_get (q := 100) (kf := 15) (T := TX9) (N := 33) (RC := RX9) C m_100 ce_100 rfl in_X9 (by decide) (fun _ h9 => h9) fl_X9_119 rfl dX9_codeDone_1 ?_
  refine j_iconst (v := 3) C (by decide) dX9_codeDone_4 ?_
  refine j_icmp_ge C 21 dX9_codeDone_5 (by decide) hf (fun y1 hf => ?_) (fun y1 hf => ?_)
  · refine j_aload_n C 0 rfl dX9_codeDone_21 ?_
    refine j_aload_n C 0 rfl dX9_codeDone_22 ?_
    refine j_get (q := 100) (kf := 12) (T := TX9) (N := 33) (RC := RX9) C m_100 ce_100 rfl in_X9 (by decide) (fun _ h9 => h9) fl_X9_86 rfl dX9_codeDone_23 ?_
    obtain ⟨z2, h3, hf⟩ := bnd_some hf
    refine j_callV (q := 100) (As := [.int (Mhi b 100 12)]) (rest := []) C (k_X9_itemAt h3) cw_X9_itemAt ml_X9_125 m_100 ce_100 rfl rfl ⟨Nat.le_of_ble_eq_true rfl, Nat.le_of_ble_eq_true rfl⟩ ⟨Nat.le_of_ble_eq_true rfl, Nat.le_of_ble_eq_true rfl⟩ rfl (Nat.le_of_ble_eq_true rfl) dX9_codeDone_26 ?_
    refine j_istore_n (i := 1) (lv' := [(1, .int z2), (0, .ref (ad 100))]) C dX9_codeDone_29 rfl (by decide) rfl ?_
    refine j_aload_n C 1 rfl dX9_codeDone_30 ?_
    refine j_iconst (v := 0) C (by decide) dX9_codeDone_31 ?_
    refine put_X9_10 C fl_X9_83 rfl rfl dX9_codeDone_32 ?_
    refine j_aload_n C 1 rfl dX9_codeDone_35 ?_
    refine j_get (q := 100) (kf := 8) (T := TX9) (N := 33) (RC := RX9) C m_100 ce_100 rfl in_X9 (by decide) (fun _ h9 => h9) fl_X9_28 rfl dX9_codeDone_36 ?_
    refine j_iload_n C 0 rfl dX9_codeDone_39 ?_
    refine j_iald (q := 108) C m_108 ce_108 hf dX9_codeDone_40 (fun hf => ?_)
    refine j_sipush (v := 1000) C (by decide) dX9_codeDone_41 ?_
    refine j_aload_n C 1 rfl dX9_codeDone_44 ?_
    refine j_get (q := 100) (kf := 14) (T := TX9) (N := 33) (RC := RX9) C m_100 ce_100 rfl in_X9 (by decide) (fun _ h9 => h9) fl_X9_35 rfl dX9_codeDone_45 ?_
    refine j_iconst (v := 0) C (by decide) dX9_codeDone_48 ?_
    refine j_iald (q := 114) C m_114 ce_114 hf dX9_codeDone_49 (fun hf => ?_)
    refine j_imul C dX9_codeDone_50 ?_
    refine j_bipush (v := 100) C (by decide) dX9_codeDone_51 ?_
    refine j_aload_n C 1 rfl dX9_codeDone_53 ?_
    refine j_get (q := 100) (kf := 14) (T := TX9) (N := 33) (RC := RX9) C m_100 ce_100 rfl in_X9 (by decide) (fun _ h9 => h9) fl_X9_35 rfl dX9_codeDone_54 ?_
    refine j_iconst (v := 1) C (by decide) dX9_codeDone_57 ?_
    refine j_iald (q := 114) C m_114 ce_114 hf dX9_codeDone_58 (fun hf => ?_)
    refine j_imul C dX9_codeDone_59 ?_
    refine j_iadd C dX9_codeDone_60 ?_
    refine j_bipush (v := 10) C (by decide) dX9_codeDone_61 ?_
    refine j_aload_n C 1 rfl dX9_codeDone_63 ?_
    refine j_get (q := 100) (kf := 14) (T := TX9) (N := 33) (RC := RX9) C m_100 ce_100 rfl in_X9 (by decide) (fun _ h9 => h9) fl_X9_35 rfl dX9_codeDone_64 ?_
    refine j_iconst (v := 2) C (by decide) dX9_codeDone_67 ?_
    refine j_iald (q := 114) C m_114 ce_114 hf dX9_codeDone_68 (fun hf => ?_)
    refine j_imul C dX9_codeDone_69 ?_
    refine j_iadd C dX9_codeDone_70 ?_
    refine j_aload_n C 1 rfl dX9_codeDone_71 ?_
    refine j_get (q := 100) (kf := 14) (T := TX9) (N := 33) (RC := RX9) C m_100 ce_100 rfl in_X9 (by decide) (fun _ h9 => h9) fl_X9_35 rfl dX9_codeDone_72 ?_
    refine j_iconst (v := 3) C (by decide) dX9_codeDone_75 ?_
    refine j_iald (q := 114) C m_114 ce_114 hf dX9_codeDone_76 (fun hf => ?_)
    refine j_iadd C dX9_codeDone_77 ?_
    refine j_icmp_ne C 96 dX9_codeDone_78 (by decide) hf (fun y5 hf => ?_) (fun y5 hf => ?_)
    · refine j_aload_n C 1 rfl dX9_codeDone_96 ?_
      refine j_get (q := 100) (kf := 20) (T := TX9) (N := 33) (RC := RX9) C m_100 ce_100 rfl in_X9 (by decide) (fun _ h9 => h9) fl_X9_41 rfl dX9_codeDone_97 ?_
      refine j_iconst (v := 4) C (by decide) dX9_codeDone_100 ?_
      refine j_dup2 C rfl rfl dX9_codeDone_101 ?_
      refine j_iald (q := 120) C m_120 ce_120 hf dX9_codeDone_102 (fun hf => ?_)
      refine j_iconst (v := 1) C (by decide) dX9_codeDone_103 ?_
      refine j_iadd C dX9_codeDone_104 ?_
      refine ast_120 C hf dX9_codeDone_105 (fun hf => ?_)
      refine j_aload_n C 1 rfl dX9_codeDone_106 ?_
      refine j_dup C rfl dX9_codeDone_107 ?_
      refine j_get (q := 100) (kf := 18) (T := TX9) (N := 33) (RC := RX9) C m_100 ce_100 rfl in_X9 (by decide) (fun _ h9 => h9) fl_X9_153 rfl dX9_codeDone_108 ?_
      refine j_iconst (v := 1) C (by decide) dX9_codeDone_111 ?_
      refine j_iadd C dX9_codeDone_112 ?_
      refine put_X9_18 C fl_X9_153 rfl rfl dX9_codeDone_113 ?_
      refine j_aload_n C 1 rfl dX9_codeDone_116 ?_
      refine j_get (q := 100) (kf := 18) (T := TX9) (N := 33) (RC := RX9) C m_100 ce_100 rfl in_X9 (by decide) (fun _ h9 => h9) fl_X9_153 rfl dX9_codeDone_117 ?_
      refine j_iconst (v := 3) C (by decide) dX9_codeDone_120 ?_
      refine j_icmp_ne C 145 dX9_codeDone_121 (by decide) hf (fun y6 hf => ?_) (fun y6 hf => ?_)
      · refine j_bipush (v := 8) C (by decide) dX9_codeDone_145 ?_
        obtain rfl := Option.some.inj hf
        exact j_iret C hr hk ⟨Nat.le_of_ble_eq_true rfl, Nat.le_of_ble_eq_true rfl⟩ rfl dX9_codeDone_147
      · refine j_aload_n C 1 rfl dX9_codeDone_124 ?_
        refine j_iconst (v := 0) C (by decide) dX9_codeDone_125 ?_
        refine put_X9_18 C fl_X9_153 rfl rfl dX9_codeDone_126 ?_
        refine j_aload_n C 1 rfl dX9_codeDone_129 ?_
        refine j_bipush (v := 30) C (by decide) dX9_codeDone_130 ?_
        refine put_X9_17 C fl_X9_150 rfl rfl dX9_codeDone_132 ?_
        refine j_aload_n C 1 rfl dX9_codeDone_135 ?_
        refine j_get (q := 100) (kf := 20) (T := TX9) (N := 33) (RC := RX9) C m_100 ce_100 rfl in_X9 (by decide) (fun _ h9 => h9) fl_X9_41 rfl dX9_codeDone_136 ?_
        refine j_iconst (v := 5) C (by decide) dX9_codeDone_139 ?_
        refine j_dup2 C rfl rfl dX9_codeDone_140 ?_
        refine j_iald (q := 120) C m_120 ce_120 hf dX9_codeDone_141 (fun hf => ?_)
        refine j_iconst (v := 1) C (by decide) dX9_codeDone_142 ?_
        refine j_iadd C dX9_codeDone_143 ?_
        refine ast_120 C hf dX9_codeDone_144 (fun hf => ?_)
        refine j_bipush (v := 8) C (by decide) dX9_codeDone_145 ?_
        obtain rfl := Option.some.inj hf
        exact j_iret C hr hk ⟨Nat.le_of_ble_eq_true rfl, Nat.le_of_ble_eq_true rfl⟩ rfl dX9_codeDone_147
    · refine j_aload_n C 1 rfl dX9_codeDone_81 ?_
      refine j_get (q := 100) (kf := 9) (T := TX9) (N := 33) (RC := RX9) C m_100 ce_100 rfl in_X9 (by decide) (fun _ h9 => h9) fl_X9_31 rfl dX9_codeDone_82 ?_
      refine j_iload_n C 0 rfl dX9_codeDone_85 ?_
      refine j_iconst (v := 1) C (by decide) dX9_codeDone_86 ?_
      refine ast_109 C hf dX9_codeDone_87 (fun hf => ?_)
      refine j_aload_n C 1 rfl dX9_codeDone_88 ?_
      refine j_iconst (v := 0) C (by decide) dX9_codeDone_89 ?_
      refine put_X9_18 C fl_X9_153 rfl rfl dX9_codeDone_90 ?_
      refine j_bipush (v := 7) C (by decide) dX9_codeDone_93 ?_
      obtain rfl := Option.some.inj hf
      exact j_iret C hr hk ⟨Nat.le_of_ble_eq_true rfl, Nat.le_of_ble_eq_true rfl⟩ rfl dX9_codeDone_95
  · refine j_aload_n C 0 rfl dX9_codeDone_8 ?_
    refine j_dup C rfl dX9_codeDone_9 ?_
    refine j_get (q := 100) (kf := 15) (T := TX9) (N := 33) (RC := RX9) C m_100 ce_100 rfl in_X9 (by decide) (fun _ h9 => h9) fl_X9_119 rfl dX9_codeDone_10 ?_
    refine j_iconst (v := 1) C (by decide) dX9_codeDone_13 ?_
    refine j_iadd C dX9_codeDone_14 ?_
    refine put_X9_15 C fl_X9_119 rfl rfl dX9_codeDone_15 ?_
    refine j_bipush (v := 6) C (by decide) dX9_codeDone_18 ?_
    obtain rfl := Option.some.inj hf
    exact j_iret C hr hk ⟨Nat.le_of_ble_eq_true rfl, Nat.le_of_ble_eq_true rfl⟩ rfl dX9_codeDone_20
set_option maxRecDepth 100000 in
set_option maxHeartbeats 4000000 in
theorem k_X9_presses {l : Launch} {G : GT} {ad : Nat → Nat} {b : MS} {a : KS} {rr : Int32 × MS} (hf : f_X9_presses b = some rr) : MT l G yX9_presses cX9_presses 2 (some .int) (RM 3) [.ref (ad 100)] ad a b (some (.int rr.1)) a rr.2 := by
  refine MT_of (by decide) (Nat.le_of_ble_eq_true rfl) ?_
  intro p e s m args below meth c A C hr hk
  unfold f_X9_presses at hf
  refine j_aload_n C 0 rfl dX9_presses_0 ?_
  refine j_iconst (v := 0) C (by decide) dX9_presses_1 ?_
  refine put_X9_16 C fl_X9_141 rfl rfl dX9_presses_2 ?_
  refine j_aload_n C 0 rfl dX9_presses_5 ?_
  refine j_get (q := 100) (kf := 20) (T := TX9) (N := 33) (RC := RX9) C m_100 ce_100 rfl in_X9 (by decide) (fun _ h9 => h9) fl_X9_41 rfl dX9_presses_6 ?_
  refine j_iconst (v := 1) C (by decide) dX9_presses_9 ?_
  refine j_dup2 C rfl rfl dX9_presses_10 ?_
  refine j_iald (q := 120) C m_120 ce_120 hf dX9_presses_11 (fun hf => ?_)
  refine j_iconst (v := 1) C (by decide) dX9_presses_12 ?_
  refine j_iadd C dX9_presses_13 ?_
  refine ast_120 C hf dX9_presses_14 (fun hf => ?_)
  refine j_aload_n C 0 rfl dX9_presses_15 ?_
  refine j_get (q := 100) (kf := 10) (T := TX9) (N := 33) (RC := RX9) C m_100 ce_100 rfl in_X9 (by decide) (fun _ h9 => h9) fl_X9_83 rfl dX9_presses_16 ?_
  refine j_if_ne C 27 dX9_presses_19 (by decide) hf (fun y1 hf => ?_) (fun y1 hf => ?_)
  · refine j_aload_n C 0 rfl dX9_presses_27 ?_
    refine j_get (q := 100) (kf := 10) (T := TX9) (N := 33) (RC := RX9) C m_100 ce_100 rfl in_X9 (by decide) (fun _ h9 => h9) fl_X9_83 rfl dX9_presses_28 ?_
    refine j_iconst (v := 2) C (by decide) dX9_presses_31 ?_
    refine j_icmp_ne C 40 dX9_presses_32 (by decide) hf (fun y2 hf => ?_) (fun y2 hf => ?_)
    · refine j_aload_n C 0 rfl dX9_presses_40 ?_
      refine j_aload_n C 0 rfl dX9_presses_41 ?_
      refine j_get (q := 100) (kf := 12) (T := TX9) (N := 33) (RC := RX9) C m_100 ce_100 rfl in_X9 (by decide) (fun _ h9 => h9) fl_X9_86 rfl dX9_presses_42 ?_
      obtain ⟨z3, h4, hf⟩ := bnd_some hf
      refine j_callV (q := 100) (As := [.int (Mhi (sMhi (sMhi b 100 16 0) 120 ((1 : Int32).toNatClampNeg) ((Mhi (sMhi b 100 16 0) 120 ((1 : Int32).toNatClampNeg)) + 1)) 100 12)]) (rest := []) C (k_X9_itemAt h4) cw_X9_itemAt ml_X9_125 m_100 ce_100 rfl rfl ⟨Nat.le_of_ble_eq_true rfl, Nat.le_of_ble_eq_true rfl⟩ ⟨Nat.le_of_ble_eq_true rfl, Nat.le_of_ble_eq_true rfl⟩ rfl (Nat.le_of_ble_eq_true rfl) dX9_presses_45 ?_
      refine j_istore_n (i := 1) (lv' := [(1, .int z3), (0, .ref (ad 100))]) C dX9_presses_48 rfl (by decide) rfl ?_
      refine j_aload_n C 1 rfl dX9_presses_49 ?_
      refine j_iconst (v := 0) C (by decide) dX9_presses_50 ?_
      refine put_X9_10 C fl_X9_83 rfl rfl dX9_presses_51 ?_
      refine j_aload_n C 1 rfl dX9_presses_54 ?_
      refine j_get (q := 100) (kf := 7) (T := TX9) (N := 33) (RC := RX9) C m_100 ce_100 rfl in_X9 (by decide) (fun _ h9 => h9) fl_X9_25 rfl dX9_presses_55 ?_
      refine j_iload_n C 0 rfl dX9_presses_58 ?_
      refine j_iald (q := 107) C m_107 ce_107 hf dX9_presses_59 (fun hf => ?_)
      refine j_aload_n C 1 rfl dX9_presses_60 ?_
      refine j_get (q := 100) (kf := 13) (T := TX9) (N := 33) (RC := RX9) C m_100 ce_100 rfl in_X9 (by decide) (fun _ h9 => h9) fl_X9_128 rfl dX9_presses_61 ?_
      refine j_icmp_eq C 98 dX9_presses_64 (by decide) hf (fun y6 hf => ?_) (fun y6 hf => ?_)
      · refine j_iconst (v := 4) C (by decide) dX9_presses_98 ?_
        obtain rfl := Option.some.inj hf
        exact j_iret C hr hk ⟨Nat.le_of_ble_eq_true rfl, Nat.le_of_ble_eq_true rfl⟩ rfl dX9_presses_99
      · refine j_aload_n C 1 rfl dX9_presses_67 ?_
        refine j_iload_n C 0 rfl dX9_presses_68 ?_
        refine j_aload_n C 1 rfl dX9_presses_69 ?_
        refine j_get (q := 100) (kf := 7) (T := TX9) (N := 33) (RC := RX9) C m_100 ce_100 rfl in_X9 (by decide) (fun _ h9 => h9) fl_X9_25 rfl dX9_presses_70 ?_
        refine j_iload_n C 0 rfl dX9_presses_73 ?_
        refine j_iald (q := 107) C m_107 ce_107 hf dX9_presses_74 (fun hf => ?_)
        obtain ⟨z7, h8, hf⟩ := bnd_some hf
        refine j_callV (q := 100) (As := [.int z3, .int (Mhi (sMhi (sMhi (sMhi b 100 16 0) 120 ((1 : Int32).toNatClampNeg) ((Mhi (sMhi b 100 16 0) 120 ((1 : Int32).toNatClampNeg)) + 1)) 100 10 0) 107 (z3.toNatClampNeg))]) (rest := []) C (k_X9_logs h8) cw_X9_logs ml_X9_163 m_100 ce_100 rfl rfl ⟨Nat.le_of_ble_eq_true rfl, Nat.le_of_ble_eq_true rfl⟩ ⟨Nat.le_of_ble_eq_true rfl, Nat.le_of_ble_eq_true rfl⟩ rfl (Nat.le_of_ble_eq_true rfl) dX9_presses_75 ?_
        refine j_aload_n C 1 rfl dX9_presses_78 ?_
        refine j_get (q := 100) (kf := 7) (T := TX9) (N := 33) (RC := RX9) C m_100 ce_100 rfl in_X9 (by decide) (fun _ h9 => h9) fl_X9_25 rfl dX9_presses_79 ?_
        refine j_iload_n C 0 rfl dX9_presses_82 ?_
        refine j_aload_n C 1 rfl dX9_presses_83 ?_
        refine j_get (q := 100) (kf := 13) (T := TX9) (N := 33) (RC := RX9) C m_100 ce_100 rfl in_X9 (by decide) (fun _ h9 => h9) fl_X9_128 rfl dX9_presses_84 ?_
        refine ast_107 C hf dX9_presses_87 (fun hf => ?_)
        refine j_aload_n C 1 rfl dX9_presses_88 ?_
        refine j_get (q := 100) (kf := 20) (T := TX9) (N := 33) (RC := RX9) C m_100 ce_100 rfl in_X9 (by decide) (fun _ h9 => h9) fl_X9_41 rfl dX9_presses_89 ?_
        refine j_iconst (v := 2) C (by decide) dX9_presses_92 ?_
        refine j_dup2 C rfl rfl dX9_presses_93 ?_
        refine j_iald (q := 120) C m_120 ce_120 hf dX9_presses_94 (fun hf => ?_)
        refine j_iconst (v := 1) C (by decide) dX9_presses_95 ?_
        refine j_iadd C dX9_presses_96 ?_
        refine ast_120 C hf dX9_presses_97 (fun hf => ?_)
        refine j_iconst (v := 4) C (by decide) dX9_presses_98 ?_
        obtain rfl := Option.some.inj hf
        exact j_iret C hr hk ⟨Nat.le_of_ble_eq_true rfl, Nat.le_of_ble_eq_true rfl⟩ rfl dX9_presses_99
    · refine j_aload_n C 0 rfl dX9_presses_35 ?_
      obtain ⟨z10, h11, hf⟩ := bnd_some hf
      refine j_callV (q := 100) (As := []) (rest := []) C (k_X9_codeDone h11) cw_X9_codeDone ml_X9_160 m_100 ce_100 rfl rfl ⟨Nat.le_of_ble_eq_true rfl, Nat.le_of_ble_eq_true rfl⟩ ⟨Nat.le_of_ble_eq_true rfl, Nat.le_of_ble_eq_true rfl⟩ rfl (Nat.le_of_ble_eq_true rfl) dX9_presses_36 ?_
      obtain rfl := Option.some.inj hf
      exact j_iret C hr hk ⟨Nat.le_of_ble_eq_true rfl, Nat.le_of_ble_eq_true rfl⟩ rfl dX9_presses_39
  · refine j_aload_n C 0 rfl dX9_presses_22 ?_
    obtain ⟨z13, h14, hf⟩ := bnd_some hf
    refine j_callV (q := 100) (As := []) (rest := []) C (k_X9_goesOn h14) cw_X9_goesOn ml_X9_156 m_100 ce_100 rfl rfl ⟨Nat.le_of_ble_eq_true rfl, Nat.le_of_ble_eq_true rfl⟩ ⟨Nat.le_of_ble_eq_true rfl, Nat.le_of_ble_eq_true rfl⟩ rfl (Nat.le_of_ble_eq_true rfl) dX9_presses_23 ?_
    obtain rfl := Option.some.inj hf
    exact j_iret C hr hk ⟨Nat.le_of_ble_eq_true rfl, Nat.le_of_ble_eq_true rfl⟩ rfl dX9_presses_26
set_option maxRecDepth 100000 in
set_option maxHeartbeats 4000000 in
theorem k_X9_press {l : Launch} {G : GT} {ad : Nat → Nat} {b : MS} {a : KS} {rr : Int32 × MS} (hf : f_X9_press b = some rr) : MT l G yX9_press cX9_press 1 (some .int) (RM 4) [.ref (ad 100)] ad a b (some (.int rr.1)) a rr.2 := by
  refine MT_of (by decide) (Nat.le_of_ble_eq_true rfl) ?_
  intro p e s m args below meth c A C hr hk
  unfold f_X9_press at hf
  refine j_aload_n C 0 rfl dX9_press_0 ?_
  refine j_iconst (v := 0) C (by decide) dX9_press_1 ?_
  refine put_X9_0 C fl_X9_66 rfl rfl dX9_press_2 ?_
  refine j_aload_n C 0 rfl dX9_press_5 ?_
  obtain ⟨z1, h2, hf⟩ := bnd_some hf
  refine j_callV (q := 100) (As := []) (rest := []) C (k_X9_presses h2) cw_X9_presses ml_X9_167 m_100 ce_100 rfl rfl ⟨Nat.le_of_ble_eq_true rfl, Nat.le_of_ble_eq_true rfl⟩ ⟨Nat.le_of_ble_eq_true rfl, Nat.le_of_ble_eq_true rfl⟩ rfl (Nat.le_of_ble_eq_true rfl) dX9_press_6 ?_
  obtain rfl := Option.some.inj hf
  exact j_iret C hr hk ⟨Nat.le_of_ble_eq_true rfl, Nat.le_of_ble_eq_true rfl⟩ rfl dX9_press_9
set_option maxRecDepth 100000 in
set_option maxHeartbeats 4000000 in
theorem w_X9_held_21 {p : Program} {l : Launch} {e : Env} {s : State} {m : MethodId} {args : Array Value} {below : List Frame} {meth : Method} {c : Code} {G : GT} {A : Nat → Prop} {ad : Nat → Nat} (C : CX G A RX9 cX9_held 2 p s m args c) (hr : meth.sig.returnType = (some .int)) (hk : meth.locks = false) {a : KS} {rr : Int32 × MS}   (b : MS) (v1 : Int32) (hf : f_X9_held_21 b v1 = some rr) : J p l e (RM 1) s m args below meth c G A 2 (MQ below (QV (some (.int rr.1)) (PosW G ad a rr.2 A) A) args s 0 0 A) 0 0 ad a b 21 [(0, .ref (ad 100)), (1, .int v1)] [] := by
  unfold f_X9_held_21 at hf
  refine j_aload_n C 0 rfl dX9_held_21 ?_
  refine j_iconst (v := 0) C (by decide) dX9_held_22 ?_
  refine put_X9_10 C fl_X9_83 rfl rfl dX9_held_23 ?_
  refine j_iload_n C 1 rfl dX9_held_26 ?_
  obtain rfl := Option.some.inj hf
  exact j_iret C hr hk ⟨Nat.le_of_ble_eq_true rfl, Nat.le_of_ble_eq_true rfl⟩ rfl dX9_held_27
set_option maxRecDepth 100000 in
set_option maxHeartbeats 4000000 in
theorem k_X9_held {l : Launch} {G : GT} {ad : Nat → Nat} {b : MS} {a : KS} {rr : Int32 × MS} (hf : f_X9_held b = some rr) : MT l G yX9_held cX9_held 2 (some .int) (RM 1) [.ref (ad 100)] ad a b (some (.int rr.1)) a rr.2 := by
  refine MT_of (by decide) (Nat.le_of_ble_eq_true rfl) ?_
  intro p e s m args below meth c A C hr hk
  unfold f_X9_held at hf
  refine j_aload_n C 0 rfl dX9_held_0 ?_
  refine j_get (q := 100) (kf := 10) (T := TX9) (N := 33) (RC := RX9) C m_100 ce_100 rfl in_X9 (by decide) (fun _ h9 => h9) fl_X9_83 rfl dX9_held_1 ?_
  refine j_istore_n (i := 1) (lv' := [(1, .int (Mhi b 100 10)), (0, .ref (ad 100))]) C dX9_held_4 rfl (by decide) rfl ?_
  refine j_aload_n C 1 rfl dX9_held_5 ?_
  refine j_iconst (v := 0) C (by decide) dX9_held_6 ?_
  refine put_X9_16 C fl_X9_141 rfl rfl dX9_held_7 ?_
  refine j_aload_n C 1 rfl dX9_held_10 ?_
  refine j_get (q := 100) (kf := 10) (T := TX9) (N := 33) (RC := RX9) C m_100 ce_100 rfl in_X9 (by decide) (fun _ h9 => h9) fl_X9_83 rfl dX9_held_11 ?_
  refine j_if_ne C 21 dX9_held_14 (by decide) hf (fun y1 hf => ?_) (fun y1 hf => ?_)
  · refine j_sub [1, 0] rfl ?_
    exact w_X9_held_21 C hr hk (sMhi b 100 16 0) (Mhi b 100 10) hf
  · refine j_aload_n C 1 rfl dX9_held_17 ?_
    obtain ⟨z2, h3, hf⟩ := bnd_some hf
    refine j_callV (q := 100) (As := []) (rest := []) C (k_X9_goHome h3) cw_X9_goHome ml_X9_170 m_100 ce_100 rfl rfl ⟨Nat.le_of_ble_eq_true rfl, Nat.le_of_ble_eq_true rfl⟩ ⟨Nat.le_of_ble_eq_true rfl, Nat.le_of_ble_eq_true rfl⟩ rfl (Nat.le_of_ble_eq_true rfl) dX9_held_18 ?_
    refine j_sub [1, 0] rfl ?_
    exact w_X9_held_21 C hr hk z2 (Mhi b 100 10) hf
set_option maxRecDepth 100000 in
set_option maxHeartbeats 4000000 in
theorem k_X9_hold {l : Launch} {G : GT} {ad : Nat → Nat} {b : MS} {a : KS} {rr : Int32 × MS} (hf : f_X9_hold b = some rr) : MT l G yX9_hold cX9_hold 1 (some .int) (RM 2) [.ref (ad 100)] ad a b (some (.int rr.1)) a rr.2 := by
  refine MT_of (by decide) (Nat.le_of_ble_eq_true rfl) ?_
  intro p e s m args below meth c A C hr hk
  unfold f_X9_hold at hf
  refine j_aload_n C 0 rfl dX9_hold_0 ?_
  refine j_iconst (v := 0) C (by decide) dX9_hold_1 ?_
  refine put_X9_0 C fl_X9_66 rfl rfl dX9_hold_2 ?_
  refine j_aload_n C 0 rfl dX9_hold_5 ?_
  obtain ⟨z1, h2, hf⟩ := bnd_some hf
  refine j_callV (q := 100) (As := []) (rest := []) C (k_X9_held h2) cw_X9_held ml_X9_173 m_100 ce_100 rfl rfl ⟨Nat.le_of_ble_eq_true rfl, Nat.le_of_ble_eq_true rfl⟩ ⟨Nat.le_of_ble_eq_true rfl, Nat.le_of_ble_eq_true rfl⟩ rfl (Nat.le_of_ble_eq_true rfl) dX9_hold_6 ?_
  obtain rfl := Option.some.inj hf
  exact j_iret C hr hk ⟨Nat.le_of_ble_eq_true rfl, Nat.le_of_ble_eq_true rfl⟩ rfl dX9_hold_9
set_option maxRecDepth 100000 in
set_option maxHeartbeats 4000000 in
theorem w_X9_ticksPass_106 {p : Program} {l : Launch} {e : Env} {s : State} {m : MethodId} {args : Array Value} {below : List Frame} {meth : Method} {c : Code} {G : GT} {A : Nat → Prop} {ad : Nat → Nat} (C : CX G A RX9 cX9_ticksPass 4 p s m args c) (hr : meth.sig.returnType = (some .int)) (hk : meth.locks = false) {a : KS} {rr : Int32 × MS} (c4 : MS → Int32 → Int32 → Int32 → Option (Int32 × MS)) (K4 : ∀ (b : MS) (v1 : Int32) (v2 : Int32) (v3 : Int32), c4 b v1 v2 v3 = some rr → J p l e (RM 2) s m args below meth c G A 4 (MQ below (QV (some (.int rr.1)) (PosW G ad a rr.2 A) A) args s 0 0 A) 0 0 ad a b 4 [(0, .ref (ad 100)), (1, .int v1), (2, .int v2), (3, .int v3)] []) (b : MS) (v1 : Int32) (v2 : Int32) (v3 : Int32) (hf : f_X9_ticksPass_106 c4 b v1 v2 v3 = some rr) : J p l e (RM 2) s m args below meth c G A 4 (MQ below (QV (some (.int rr.1)) (PosW G ad a rr.2 A) A) args s 0 0 A) 0 0 ad a b 106 [(0, .ref (ad 100)), (1, .int v1), (2, .int v2), (3, .int v3)] [] := by
  unfold f_X9_ticksPass_106 at hf
  refine j_iinc (v := v3 + 1) (lv' := [(3, .int (v3 + 1)), (0, .ref (ad 100)), (1, .int v1), (2, .int v2)]) C 3 rfl rfl (by decide) rfl dX9_ticksPass_106 ?_
  refine j_goto C 4 dX9_ticksPass_109 (by decide) ?_
  refine j_sub [1, 2, 3, 0] rfl ?_
  exact K4 b v1 v2 (v3 + 1) hf
set_option maxRecDepth 100000 in
set_option maxHeartbeats 4000000 in
theorem w_X9_ticksPass_79 {p : Program} {l : Launch} {e : Env} {s : State} {m : MethodId} {args : Array Value} {below : List Frame} {meth : Method} {c : Code} {G : GT} {A : Nat → Prop} {ad : Nat → Nat} (C : CX G A RX9 cX9_ticksPass 4 p s m args c) (hr : meth.sig.returnType = (some .int)) (hk : meth.locks = false) {a : KS} {rr : Int32 × MS} (c4 : MS → Int32 → Int32 → Int32 → Option (Int32 × MS)) (K4 : ∀ (b : MS) (v1 : Int32) (v2 : Int32) (v3 : Int32), c4 b v1 v2 v3 = some rr → J p l e (RM 2) s m args below meth c G A 4 (MQ below (QV (some (.int rr.1)) (PosW G ad a rr.2 A) A) args s 0 0 A) 0 0 ad a b 4 [(0, .ref (ad 100)), (1, .int v1), (2, .int v2), (3, .int v3)] []) (b : MS) (v1 : Int32) (v2 : Int32) (v3 : Int32) (hf : f_X9_ticksPass_79 c4 b v1 v2 v3 = some rr) : J p l e (RM 2) s m args below meth c G A 4 (MQ below (QV (some (.int rr.1)) (PosW G ad a rr.2 A) A) args s 0 0 A) 0 0 ad a b 79 [(0, .ref (ad 100)), (1, .int v1), (2, .int v2), (3, .int v3)] [] := by
  unfold f_X9_ticksPass_79 at hf
  refine j_aload_n C 0 rfl dX9_ticksPass_79 ?_
  refine j_get (q := 100) (kf := 16) (T := TX9) (N := 33) (RC := RX9) C m_100 ce_100 rfl in_X9 (by decide) (fun _ h9 => h9) fl_X9_141 rfl dX9_ticksPass_80 ?_
  refine j_aload_n C 0 rfl dX9_ticksPass_83 ?_
  refine j_get (q := 100) (kf := 19) (T := TX9) (N := 33) (RC := RX9) C m_100 ce_100 rfl in_X9 (by decide) (fun _ h9 => h9) fl_X9_38 rfl dX9_ticksPass_84 ?_
  refine j_iconst (v := 1) C (by decide) dX9_ticksPass_87 ?_
  refine j_iald (q := 119) C m_119 ce_119 hf dX9_ticksPass_88 (fun hf => ?_)
  refine j_icmp_ne C 106 dX9_ticksPass_89 (by decide) hf (fun y1 hf => ?_) (fun y1 hf => ?_)
  · refine j_sub [0, 1, 2, 3] rfl ?_
    exact w_X9_ticksPass_106 C hr hk c4 K4 b v1 v2 v3 hf
  · refine j_aload_n C 0 rfl dX9_ticksPass_92 ?_
    obtain ⟨z2, h3, hf⟩ := bnd_some hf
    refine j_callV (q := 100) (As := []) (rest := []) C (k_X9_home h3) cw_X9_home ml_X9_93 m_100 ce_100 rfl rfl ⟨Nat.le_of_ble_eq_true rfl, Nat.le_of_ble_eq_true rfl⟩ ⟨Nat.le_of_ble_eq_true rfl, Nat.le_of_ble_eq_true rfl⟩ rfl (Nat.le_of_ble_eq_true rfl) dX9_ticksPass_93 ?_
    refine j_if_ne C 106 dX9_ticksPass_96 (by decide) hf (fun y5 hf => ?_) (fun y5 hf => ?_)
    · refine j_sub [0, 1, 2, 3] rfl ?_
      exact w_X9_ticksPass_106 C hr hk c4 K4 b v1 v2 v3 hf
    · refine j_aload_n C 0 rfl dX9_ticksPass_99 ?_
      obtain ⟨z6, h7, hf⟩ := bnd_some hf
      refine j_callV (q := 100) (As := []) (rest := []) C (k_X9_goHome h7) cw_X9_goHome ml_X9_170 m_100 ce_100 rfl rfl ⟨Nat.le_of_ble_eq_true rfl, Nat.le_of_ble_eq_true rfl⟩ ⟨Nat.le_of_ble_eq_true rfl, Nat.le_of_ble_eq_true rfl⟩ rfl (Nat.le_of_ble_eq_true rfl) dX9_ticksPass_100 ?_
      refine j_iinc (v := v2 + 1) (lv' := [(2, .int (v2 + 1)), (0, .ref (ad 100)), (1, .int v1), (3, .int v3)]) C 2 rfl rfl (by decide) rfl dX9_ticksPass_103 ?_
      refine j_sub [1, 2, 0, 3] rfl ?_
      exact w_X9_ticksPass_106 C hr hk c4 K4 z6 v1 (v2 + 1) v3 hf
set_option maxRecDepth 100000 in
set_option maxHeartbeats 4000000 in
theorem w_X9_ticksPass_47 {p : Program} {l : Launch} {e : Env} {s : State} {m : MethodId} {args : Array Value} {below : List Frame} {meth : Method} {c : Code} {G : GT} {A : Nat → Prop} {ad : Nat → Nat} (C : CX G A RX9 cX9_ticksPass 4 p s m args c) (hr : meth.sig.returnType = (some .int)) (hk : meth.locks = false) {a : KS} {rr : Int32 × MS} (c4 : MS → Int32 → Int32 → Int32 → Option (Int32 × MS)) (K4 : ∀ (b : MS) (v1 : Int32) (v2 : Int32) (v3 : Int32), c4 b v1 v2 v3 = some rr → J p l e (RM 2) s m args below meth c G A 4 (MQ below (QV (some (.int rr.1)) (PosW G ad a rr.2 A) A) args s 0 0 A) 0 0 ad a b 4 [(0, .ref (ad 100)), (1, .int v1), (2, .int v2), (3, .int v3)] []) (b : MS) (v1 : Int32) (v2 : Int32) (v3 : Int32) (s1 : Int32) (s2 : Int32) (hf : f_X9_ticksPass_47 c4 b v1 v2 v3 s1 s2 = some rr) : J p l e (RM 2) s m args below meth c G A 4 (MQ below (QV (some (.int rr.1)) (PosW G ad a rr.2 A) A) args s 0 0 A) 0 0 ad a b 47 [(0, .ref (ad 100)), (1, .int v1), (2, .int v2), (3, .int v3)] [.int s2, .int s1, .ref (ad 100)] := by
  unfold f_X9_ticksPass_47 at hf
  refine j_isub C dX9_ticksPass_47 ?_
  refine put_X9_17 C fl_X9_150 rfl rfl dX9_ticksPass_48 ?_
  refine j_aload_n C 0 rfl dX9_ticksPass_51 ?_
  refine j_get (q := 100) (kf := 16) (T := TX9) (N := 33) (RC := RX9) C m_100 ce_100 rfl in_X9 (by decide) (fun _ h9 => h9) fl_X9_141 rfl dX9_ticksPass_52 ?_
  refine j_aload_n C 0 rfl dX9_ticksPass_55 ?_
  refine j_get (q := 100) (kf := 19) (T := TX9) (N := 33) (RC := RX9) C m_100 ce_100 rfl in_X9 (by decide) (fun _ h9 => h9) fl_X9_38 rfl dX9_ticksPass_56 ?_
  refine j_iconst (v := 0) C (by decide) dX9_ticksPass_59 ?_
  refine j_iald (q := 119) C m_119 ce_119 hf dX9_ticksPass_60 (fun hf => ?_)
  refine j_icmp_ne C 79 dX9_ticksPass_61 (by decide) hf (fun y1 hf => ?_) (fun y1 hf => ?_)
  · refine j_sub [0, 1, 2, 3] rfl ?_
    exact w_X9_ticksPass_79 C hr hk c4 K4 (sMhi b 100 17 (s1 - s2)) v1 v2 v3 hf
  · refine j_aload_n C 0 rfl dX9_ticksPass_64 ?_
    refine j_get (q := 100) (kf := 10) (T := TX9) (N := 33) (RC := RX9) C m_100 ce_100 rfl in_X9 (by decide) (fun _ h9 => h9) fl_X9_83 rfl dX9_ticksPass_65 ?_
    refine j_if_eq C 79 dX9_ticksPass_68 (by decide) hf (fun y2 hf => ?_) (fun y2 hf => ?_)
    · refine j_sub [0, 1, 2, 3] rfl ?_
      exact w_X9_ticksPass_79 C hr hk c4 K4 (sMhi b 100 17 (s1 - s2)) v1 v2 v3 hf
    · refine j_aload_n C 0 rfl dX9_ticksPass_71 ?_
      refine j_iconst (v := 0) C (by decide) dX9_ticksPass_72 ?_
      refine put_X9_10 C fl_X9_83 rfl rfl dX9_ticksPass_73 ?_
      refine j_iinc (v := v2 + 1) (lv' := [(2, .int (v2 + 1)), (0, .ref (ad 100)), (1, .int v1), (3, .int v3)]) C 2 rfl rfl (by decide) rfl dX9_ticksPass_76 ?_
      refine j_sub [1, 2, 0, 3] rfl ?_
      exact w_X9_ticksPass_79 C hr hk c4 K4 (sMhi (sMhi b 100 17 (s1 - s2)) 100 10 0) v1 (v2 + 1) v3 hf
set_option maxRecDepth 100000 in
set_option maxHeartbeats 4000000 in
theorem w_X9_ticksPass_4 {p : Program} {l : Launch} {e : Env} {s : State} {m : MethodId} {args : Array Value} {below : List Frame} {meth : Method} {c : Code} {G : GT} {A : Nat → Prop} {ad : Nat → Nat} (C : CX G A RX9 cX9_ticksPass 4 p s m args c) (hr : meth.sig.returnType = (some .int)) (hk : meth.locks = false) {a : KS} {rr : Int32 × MS} (c4 : MS → Int32 → Int32 → Int32 → Option (Int32 × MS)) (K4 : ∀ (b : MS) (v1 : Int32) (v2 : Int32) (v3 : Int32), c4 b v1 v2 v3 = some rr → J p l e (RM 2) s m args below meth c G A 4 (MQ below (QV (some (.int rr.1)) (PosW G ad a rr.2 A) A) args s 0 0 A) 0 0 ad a b 4 [(0, .ref (ad 100)), (1, .int v1), (2, .int v2), (3, .int v3)] []) (b : MS) (v1 : Int32) (v2 : Int32) (v3 : Int32) (hf : f_X9_ticksPass_4 c4 b v1 v2 v3 = some rr) : J p l e (RM 2) s m args below meth c G A 4 (MQ below (QV (some (.int rr.1)) (PosW G ad a rr.2 A) A) args s 0 0 A) 0 0 ad a b 4 [(0, .ref (ad 100)), (1, .int v1), (2, .int v2), (3, .int v3)] [] := by
  unfold f_X9_ticksPass_4 at hf
  refine j_iload_n C 3 rfl dX9_ticksPass_4 ?_
  refine j_iload_n C 1 rfl dX9_ticksPass_5 ?_
  refine j_icmp_ge C 112 dX9_ticksPass_6 (by decide) hf (fun y1 hf => ?_) (fun y1 hf => ?_)
  · refine j_aload_n C 0 rfl dX9_ticksPass_112 ?_
    refine j_get (q := 100) (kf := 20) (T := TX9) (N := 33) (RC := RX9) C m_100 ce_100 rfl in_X9 (by decide) (fun _ h9 => h9) fl_X9_41 rfl dX9_ticksPass_113 ?_
    refine j_bipush (v := 6) C (by decide) dX9_ticksPass_116 ?_
    refine j_dup2 C rfl rfl dX9_ticksPass_118 ?_
    refine j_iald (q := 120) C m_120 ce_120 hf dX9_ticksPass_119 (fun hf => ?_)
    refine j_iload_n C 2 rfl dX9_ticksPass_120 ?_
    refine j_iadd C dX9_ticksPass_121 ?_
    refine ast_120 C hf dX9_ticksPass_122 (fun hf => ?_)
    refine j_iload_n C 2 rfl dX9_ticksPass_123 ?_
    obtain rfl := Option.some.inj hf
    exact j_iret C hr hk ⟨Nat.le_of_ble_eq_true rfl, Nat.le_of_ble_eq_true rfl⟩ rfl dX9_ticksPass_124
  · refine j_aload_n C 0 rfl dX9_ticksPass_9 ?_
    refine j_dup C rfl dX9_ticksPass_10 ?_
    refine j_get (q := 100) (kf := 16) (T := TX9) (N := 33) (RC := RX9) C m_100 ce_100 rfl in_X9 (by decide) (fun _ h9 => h9) fl_X9_141 rfl dX9_ticksPass_11 ?_
    refine j_iconst (v := 1) C (by decide) dX9_ticksPass_14 ?_
    refine j_iadd C dX9_ticksPass_15 ?_
    refine put_X9_16 C fl_X9_141 rfl rfl dX9_ticksPass_16 ?_
    refine j_aload_n C 0 rfl dX9_ticksPass_19 ?_
    refine j_get (q := 100) (kf := 20) (T := TX9) (N := 33) (RC := RX9) C m_100 ce_100 rfl in_X9 (by decide) (fun _ h9 => h9) fl_X9_41 rfl dX9_ticksPass_20 ?_
    refine j_bipush (v := 7) C (by decide) dX9_ticksPass_23 ?_
    refine j_dup2 C rfl rfl dX9_ticksPass_25 ?_
    refine j_iald (q := 120) C m_120 ce_120 hf dX9_ticksPass_26 (fun hf => ?_)
    refine j_iconst (v := 1) C (by decide) dX9_ticksPass_27 ?_
    refine j_iadd C dX9_ticksPass_28 ?_
    refine ast_120 C hf dX9_ticksPass_29 (fun hf => ?_)
    refine j_aload_n C 0 rfl dX9_ticksPass_30 ?_
    refine j_dup C rfl dX9_ticksPass_31 ?_
    refine j_get (q := 100) (kf := 17) (T := TX9) (N := 33) (RC := RX9) C m_100 ce_100 rfl in_X9 (by decide) (fun _ h9 => h9) fl_X9_150 rfl dX9_ticksPass_32 ?_
    refine j_aload_n C 0 rfl dX9_ticksPass_35 ?_
    refine j_get (q := 100) (kf := 17) (T := TX9) (N := 33) (RC := RX9) C m_100 ce_100 rfl in_X9 (by decide) (fun _ h9 => h9) fl_X9_150 rfl dX9_ticksPass_36 ?_
    refine j_if_le C 46 dX9_ticksPass_39 (by decide) hf (fun y2 hf => ?_) (fun y2 hf => ?_)
    · refine j_iconst (v := 0) C (by decide) dX9_ticksPass_46 ?_
      refine j_sub [0, 1, 2, 3] rfl ?_
      exact w_X9_ticksPass_47 C hr hk c4 K4 (sMhi (sMhi b 100 16 ((Mhi b 100 16) + 1)) 120 ((7 : Int32).toNatClampNeg) ((Mhi (sMhi b 100 16 ((Mhi b 100 16) + 1)) 120 ((7 : Int32).toNatClampNeg)) + 1)) v1 v2 v3 (Mhi (sMhi (sMhi b 100 16 ((Mhi b 100 16) + 1)) 120 ((7 : Int32).toNatClampNeg) ((Mhi (sMhi b 100 16 ((Mhi b 100 16) + 1)) 120 ((7 : Int32).toNatClampNeg)) + 1)) 100 17) 0 hf
    · refine j_iconst (v := 1) C (by decide) dX9_ticksPass_42 ?_
      refine j_goto C 47 dX9_ticksPass_43 (by decide) ?_
      refine j_sub [0, 1, 2, 3] rfl ?_
      exact w_X9_ticksPass_47 C hr hk c4 K4 (sMhi (sMhi b 100 16 ((Mhi b 100 16) + 1)) 120 ((7 : Int32).toNatClampNeg) ((Mhi (sMhi b 100 16 ((Mhi b 100 16) + 1)) 120 ((7 : Int32).toNatClampNeg)) + 1)) v1 v2 v3 (Mhi (sMhi (sMhi b 100 16 ((Mhi b 100 16) + 1)) 120 ((7 : Int32).toNatClampNeg) ((Mhi (sMhi b 100 16 ((Mhi b 100 16) + 1)) 120 ((7 : Int32).toNatClampNeg)) + 1)) 100 17) 1 hf
theorem wl_X9_ticksPass_4 {p : Program} {l : Launch} {e : Env} {s : State} {m : MethodId} {args : Array Value} {below : List Frame} {meth : Method} {c : Code} {G : GT} {A : Nat → Prop} {ad : Nat → Nat} (C : CX G A RX9 cX9_ticksPass 4 p s m args c) (hr : meth.sig.returnType = (some .int)) (hk : meth.locks = false) {a : KS} {rr : Int32 × MS} (fuel : Nat)   : ∀ (b : MS) (v1 : Int32) (v2 : Int32) (v3 : Int32), l_X9_ticksPass_4 fuel  b v1 v2 v3 = some rr → J p l e (RM 2) s m args below meth c G A 4 (MQ below (QV (some (.int rr.1)) (PosW G ad a rr.2 A) A) args s 0 0 A) 0 0 ad a b 4 [(0, .ref (ad 100)), (1, .int v1), (2, .int v2), (3, .int v3)] [] := by
  induction fuel with
  | zero => intro b v1 v2 v3 hf; cases hf
  | succ n ih =>
    intro b v1 v2 v3 hf
    have hf : f_X9_ticksPass_4 (l_X9_ticksPass_4 n ) b v1 v2 v3 = some rr := hf
    exact w_X9_ticksPass_4 C hr hk (l_X9_ticksPass_4 n ) ih b v1 v2 v3 hf
set_option maxRecDepth 100000 in
set_option maxHeartbeats 4000000 in
theorem k_X9_ticksPass {l : Launch} {G : GT} {ad : Nat → Nat} {b : MS} {v1 : Int32} {a : KS} {rr : Int32 × MS} (hf : f_X9_ticksPass b v1 = some rr) : MT l G yX9_ticksPass cX9_ticksPass 4 (some .int) (RM 2) [.ref (ad 100), .int v1] ad a b (some (.int rr.1)) a rr.2 := by
  refine MT_of (by decide) (Nat.le_of_ble_eq_true rfl) ?_
  intro p e s m args below meth c A C hr hk
  unfold f_X9_ticksPass at hf
  refine j_iconst (v := 0) C (by decide) dX9_ticksPass_0 ?_
  refine j_istore_n (i := 2) (lv' := [(2, .int 0), (0, .ref (ad 100)), (1, .int v1)]) C dX9_ticksPass_1 rfl (by decide) rfl ?_
  refine j_iconst (v := 0) C (by decide) dX9_ticksPass_2 ?_
  refine j_istore_n (i := 3) (lv' := [(3, .int 0), (2, .int 0), (0, .ref (ad 100)), (1, .int v1)]) C dX9_ticksPass_3 rfl (by decide) rfl ?_
  refine j_sub [2, 3, 1, 0] rfl ?_
  exact wl_X9_ticksPass_4 C hr hk FU b v1 0 0 hf
set_option maxRecDepth 100000 in
set_option maxHeartbeats 4000000 in
theorem w_X9_tick_16 {p : Program} {l : Launch} {e : Env} {s : State} {m : MethodId} {args : Array Value} {below : List Frame} {meth : Method} {c : Code} {G : GT} {A : Nat → Prop} {ad : Nat → Nat} (C : CX G A RX9 cX9_tick 2 p s m args c) (hr : meth.sig.returnType = (some .int)) (hk : meth.locks = false) {a : KS} {rr : Int32 × MS}   (b : MS) (v1 : Int32) (s1 : Int32) (hf : f_X9_tick_16 b v1 s1 = some rr) : J p l e (RM 3) s m args below meth c G A 2 (MQ below (QV (some (.int rr.1)) (PosW G ad a rr.2 A) A) args s 0 0 A) 0 0 ad a b 16 [(0, .ref (ad 100)), (1, .int v1)] [.int s1, .ref (ad 100)] := by
  unfold f_X9_tick_16 at hf
  obtain ⟨z1, h2, hf⟩ := bnd_some hf
  refine j_callV (q := 100) (As := [.int s1]) (rest := []) C (k_X9_holds h2) cw_X9_holds ml_X9_109 m_100 ce_100 rfl rfl ⟨Nat.le_of_ble_eq_true rfl, Nat.le_of_ble_eq_true rfl⟩ ⟨Nat.le_of_ble_eq_true rfl, Nat.le_of_ble_eq_true rfl⟩ rfl (Nat.le_of_ble_eq_true rfl) dX9_tick_16 ?_
  refine j_if_eq C 30 dX9_tick_19 (by decide) hf (fun y4 hf => ?_) (fun y4 hf => ?_)
  · refine j_iconst (v := 0) C (by decide) dX9_tick_30 ?_
    obtain rfl := Option.some.inj hf
    exact j_iret C hr hk ⟨Nat.le_of_ble_eq_true rfl, Nat.le_of_ble_eq_true rfl⟩ rfl dX9_tick_31
  · refine j_aload_n C 0 rfl dX9_tick_22 ?_
    refine j_iload_n C 1 rfl dX9_tick_23 ?_
    obtain ⟨z5, h6, hf⟩ := bnd_some hf
    refine j_callV (q := 100) (As := [.int v1]) (rest := []) C (k_X9_ticksPass h6) cw_X9_ticksPass ml_X9_176 m_100 ce_100 rfl rfl ⟨Nat.le_of_ble_eq_true rfl, Nat.le_of_ble_eq_true rfl⟩ ⟨Nat.le_of_ble_eq_true rfl, Nat.le_of_ble_eq_true rfl⟩ rfl (Nat.le_of_ble_eq_true rfl) dX9_tick_24 ?_
    refine j_goto C 31 dX9_tick_27 (by decide) ?_
    obtain rfl := Option.some.inj hf
    exact j_iret C hr hk ⟨Nat.le_of_ble_eq_true rfl, Nat.le_of_ble_eq_true rfl⟩ rfl dX9_tick_31
set_option maxRecDepth 100000 in
set_option maxHeartbeats 4000000 in
theorem k_X9_tick {l : Launch} {G : GT} {ad : Nat → Nat} {b : MS} {v1 : Int32} {a : KS} {rr : Int32 × MS} (hf : f_X9_tick b v1 = some rr) : MT l G yX9_tick cX9_tick 2 (some .int) (RM 3) [.ref (ad 100), .int v1] ad a b (some (.int rr.1)) a rr.2 := by
  refine MT_of (by decide) (Nat.le_of_ble_eq_true rfl) ?_
  intro p e s m args below meth c A C hr hk
  unfold f_X9_tick at hf
  refine j_aload_n C 0 rfl dX9_tick_0 ?_
  refine j_iload_n C 1 rfl dX9_tick_1 ?_
  refine j_iconst (v := 1) C (by decide) dX9_tick_2 ?_
  refine j_bipush (v := 99) C (by decide) dX9_tick_3 ?_
  obtain ⟨z1, h2, hf⟩ := bnd_some hf
  refine j_callS (As := [.int v1, .int 1, .int 99]) (rest := [.ref (ad 100)]) C (k_X9_in h2) cw_X9_in ml_X9_69 rfl ⟨Nat.le_of_ble_eq_true rfl, Nat.le_of_ble_eq_true rfl⟩ ⟨Nat.le_of_ble_eq_true rfl, Nat.le_of_ble_eq_true rfl⟩ rfl (Nat.le_of_ble_eq_true rfl) dX9_tick_5 ?_
  refine j_if_eq C 15 dX9_tick_8 (by decide) hf (fun y4 hf => ?_) (fun y4 hf => ?_)
  · refine j_iconst (v := 1) C (by decide) dX9_tick_15 ?_
    refine j_sub [0, 1] rfl ?_
    exact w_X9_tick_16 C hr hk b v1 1 hf
  · refine j_iconst (v := 0) C (by decide) dX9_tick_11 ?_
    refine j_goto C 16 dX9_tick_12 (by decide) ?_
    refine j_sub [0, 1] rfl ?_
    exact w_X9_tick_16 C hr hk b v1 0 hf
set_option maxRecDepth 100000 in
set_option maxHeartbeats 4000000 in
theorem w_X9_set_58 {p : Program} {l : Launch} {e : Env} {s : State} {m : MethodId} {args : Array Value} {below : List Frame} {meth : Method} {c : Code} {G : GT} {A : Nat → Prop} {ad : Nat → Nat} (C : CX G A RX9 cX9_set 5 p s m args c) (hr : meth.sig.returnType = (some .int)) (hk : meth.locks = false) {a : KS} {rr : Int32 × MS}   (b : MS) (v1 : Int32) (v2 : Int32) (s1 : Int32) (hf : f_X9_set_58 b v1 v2 s1 = some rr) : J p l e (RM 1) s m args below meth c G A 5 (MQ below (QV (some (.int rr.1)) (PosW G ad a rr.2 A) A) args s 0 0 A) 0 0 ad a b 58 [(0, .ref (ad 100)), (1, .int v1), (2, .int v2)] [.int s1, .ref (ad 100)] := by
  unfold f_X9_set_58 at hf
  obtain ⟨z1, h2, hf⟩ := bnd_some hf
  refine j_callV (q := 100) (As := [.int s1]) (rest := []) C (k_X9_holds h2) cw_X9_holds ml_X9_109 m_100 ce_100 rfl rfl ⟨Nat.le_of_ble_eq_true rfl, Nat.le_of_ble_eq_true rfl⟩ ⟨Nat.le_of_ble_eq_true rfl, Nat.le_of_ble_eq_true rfl⟩ rfl (Nat.le_of_ble_eq_true rfl) dX9_set_58 ?_
  refine j_if_ne C 66 dX9_set_61 (by decide) hf (fun y4 hf => ?_) (fun y4 hf => ?_)
  · refine j_aload_n C 0 rfl dX9_set_66 ?_
    refine j_get (q := 100) (kf := 19) (T := TX9) (N := 33) (RC := RX9) C m_100 ce_100 rfl in_X9 (by decide) (fun _ h9 => h9) fl_X9_38 rfl dX9_set_67 ?_
    refine j_iload_n C 1 rfl dX9_set_70 ?_
    refine j_iald (q := 119) C m_119 ce_119 hf dX9_set_71 (fun hf => ?_)
    refine j_letI hf (fun x5 hf => ?_)
    refine j_istore (lv' := [(4, .int x5), (0, .ref (ad 100)), (1, .int v1), (2, .int v2)]) C dX9_set_72 (by decide) rfl ?_
    refine j_aload_n C 1 rfl dX9_set_74 ?_
    refine j_get (q := 100) (kf := 19) (T := TX9) (N := 33) (RC := RX9) C m_100 ce_100 rfl in_X9 (by decide) (fun _ h9 => h9) fl_X9_38 rfl dX9_set_75 ?_
    refine j_iload_n C 2 rfl dX9_set_78 ?_
    refine j_iload_n C 3 rfl dX9_set_79 ?_
    refine ast_119 C hf dX9_set_80 (fun hf => ?_)
    refine j_iload C 0 rfl dX9_set_81 ?_
    obtain rfl := Option.some.inj hf
    exact j_iret C hr hk ⟨Nat.le_of_ble_eq_true rfl, Nat.le_of_ble_eq_true rfl⟩ rfl dX9_set_83
  · refine j_iconst (v := 0) C (by decide) dX9_set_64 ?_
    obtain rfl := Option.some.inj hf
    exact j_iret C hr hk ⟨Nat.le_of_ble_eq_true rfl, Nat.le_of_ble_eq_true rfl⟩ rfl dX9_set_65
set_option maxRecDepth 100000 in
set_option maxHeartbeats 4000000 in
theorem w_X9_set_47 {p : Program} {l : Launch} {e : Env} {s : State} {m : MethodId} {args : Array Value} {below : List Frame} {meth : Method} {c : Code} {G : GT} {A : Nat → Prop} {ad : Nat → Nat} (C : CX G A RX9 cX9_set 5 p s m args c) (hr : meth.sig.returnType = (some .int)) (hk : meth.locks = false) {a : KS} {rr : Int32 × MS}   (b : MS) (v1 : Int32) (v2 : Int32) (s1 : Int32) (s2 : Int32) (s3 : Int32) (hf : f_X9_set_47 b v1 v2 s1 s2 s3 = some rr) : J p l e (RM 1) s m args below meth c G A 5 (MQ below (QV (some (.int rr.1)) (PosW G ad a rr.2 A) A) args s 0 0 A) 0 0 ad a b 47 [(0, .ref (ad 100)), (1, .int v1), (2, .int v2)] [.int s3, .int s2, .int s1, .ref (ad 100)] := by
  unfold f_X9_set_47 at hf
  obtain ⟨z1, h2, hf⟩ := bnd_some hf
  refine j_callS (As := [.int s1, .int s2, .int s3]) (rest := [.ref (ad 100)]) C (k_X9_in h2) cw_X9_in ml_X9_69 rfl ⟨Nat.le_of_ble_eq_true rfl, Nat.le_of_ble_eq_true rfl⟩ ⟨Nat.le_of_ble_eq_true rfl, Nat.le_of_ble_eq_true rfl⟩ rfl (Nat.le_of_ble_eq_true rfl) dX9_set_47 ?_
  refine j_if_ne C 57 dX9_set_50 (by decide) hf (fun y4 hf => ?_) (fun y4 hf => ?_)
  · refine j_iconst (v := 0) C (by decide) dX9_set_57 ?_
    refine j_sub [0, 1, 2] rfl ?_
    exact w_X9_set_58 C hr hk b v1 v2 0 hf
  · refine j_iconst (v := 2) C (by decide) dX9_set_53 ?_
    refine j_goto C 58 dX9_set_54 (by decide) ?_
    refine j_sub [0, 1, 2] rfl ?_
    exact w_X9_set_58 C hr hk b v1 v2 2 hf
set_option maxRecDepth 100000 in
set_option maxHeartbeats 4000000 in
theorem w_X9_set_27 {p : Program} {l : Launch} {e : Env} {s : State} {m : MethodId} {args : Array Value} {below : List Frame} {meth : Method} {c : Code} {G : GT} {A : Nat → Prop} {ad : Nat → Nat} (C : CX G A RX9 cX9_set 5 p s m args c) (hr : meth.sig.returnType = (some .int)) (hk : meth.locks = false) {a : KS} {rr : Int32 × MS}   (b : MS) (v1 : Int32) (v2 : Int32) (s1 : Int32) (s2 : Int32) (hf : f_X9_set_27 b v1 v2 s1 s2 = some rr) : J p l e (RM 1) s m args below meth c G A 5 (MQ below (QV (some (.int rr.1)) (PosW G ad a rr.2 A) A) args s 0 0 A) 0 0 ad a b 27 [(0, .ref (ad 100)), (1, .int v1), (2, .int v2)] [.int s2, .int s1, .ref (ad 100)] := by
  unfold f_X9_set_27 at hf
  refine j_iload_n C 1 rfl dX9_set_27 ?_
  refine j_if_ne C 36 dX9_set_28 (by decide) hf (fun y1 hf => ?_) (fun y1 hf => ?_)
  · refine j_iload_n C 1 rfl dX9_set_36 ?_
    refine j_iconst (v := 1) C (by decide) dX9_set_37 ?_
    refine j_icmp_ne C 46 dX9_set_38 (by decide) hf (fun y2 hf => ?_) (fun y2 hf => ?_)
    · refine j_iconst (v := 1) C (by decide) dX9_set_46 ?_
      refine j_sub [0, 1, 2] rfl ?_
      exact w_X9_set_47 C hr hk b v1 v2 s1 s2 1 hf
    · refine j_bipush (v := 99) C (by decide) dX9_set_41 ?_
      refine j_goto C 47 dX9_set_43 (by decide) ?_
      refine j_sub [0, 1, 2] rfl ?_
      exact w_X9_set_47 C hr hk b v1 v2 s1 s2 99 hf
  · refine j_bipush (v := 60) C (by decide) dX9_set_31 ?_
    refine j_goto C 47 dX9_set_33 (by decide) ?_
    refine j_sub [0, 1, 2] rfl ?_
    exact w_X9_set_47 C hr hk b v1 v2 s1 s2 60 hf
set_option maxRecDepth 100000 in
set_option maxHeartbeats 4000000 in
theorem k_X9_set {l : Launch} {G : GT} {ad : Nat → Nat} {b : MS} {v1 : Int32} {v2 : Int32} {a : KS} {rr : Int32 × MS} (hf : f_X9_set b v1 v2 = some rr) : MT l G yX9_set cX9_set 5 (some .int) (RM 1) [.ref (ad 100), .int v1, .int v2] ad a b (some (.int rr.1)) a rr.2 := by
  refine MT_of (by decide) (Nat.le_of_ble_eq_true rfl) ?_
  intro p e s m args below meth c A C hr hk
  unfold f_X9_set at hf
  refine j_iload_n C 1 rfl dX9_set_0 ?_
  refine j_iconst (v := 0) C (by decide) dX9_set_1 ?_
  refine j_iconst (v := 2) C (by decide) dX9_set_2 ?_
  obtain ⟨z1, h2, hf⟩ := bnd_some hf
  refine j_callS (As := [.int v1, .int 0, .int 2]) (rest := []) C (k_X9_in h2) cw_X9_in ml_X9_69 rfl ⟨Nat.le_of_ble_eq_true rfl, Nat.le_of_ble_eq_true rfl⟩ ⟨Nat.le_of_ble_eq_true rfl, Nat.le_of_ble_eq_true rfl⟩ rfl (Nat.le_of_ble_eq_true rfl) dX9_set_3 ?_
  refine j_istore_n (i := 3) (lv' := [(3, .int z1), (0, .ref (ad 100)), (1, .int v1), (2, .int v2)]) C dX9_set_6 rfl (by decide) rfl ?_
  refine j_aload_n C 1 rfl dX9_set_7 ?_
  refine j_iload_n C 0 rfl dX9_set_8 ?_
  refine j_if_ne C 16 dX9_set_9 (by decide) hf (fun y4 hf => ?_) (fun y4 hf => ?_)
  · refine j_iload_n C 3 rfl dX9_set_16 ?_
    refine j_iload_n C 2 rfl dX9_set_17 ?_
    refine j_iconst (v := 2) C (by decide) dX9_set_18 ?_
    refine j_icmp_ne C 26 dX9_set_19 (by decide) hf (fun y5 hf => ?_) (fun y5 hf => ?_)
    · refine j_iconst (v := 1) C (by decide) dX9_set_26 ?_
      refine j_sub [1, 2, 3] rfl ?_
      exact w_X9_set_27 C hr hk b v1 v2 v2 1 hf
    · refine j_iconst (v := 0) C (by decide) dX9_set_22 ?_
      refine j_goto C 27 dX9_set_23 (by decide) ?_
      refine j_sub [1, 2, 3] rfl ?_
      exact w_X9_set_27 C hr hk b v1 v2 v2 0 hf
  · refine j_iconst (v := 1) C (by decide) dX9_set_12 ?_
    refine j_goto C 58 dX9_set_13 (by decide) ?_
    refine j_sub [1, 2, 3] rfl ?_
    exact w_X9_set_58 C hr hk b v1 v2 1 hf
set_option maxRecDepth 100000 in
set_option maxHeartbeats 4000000 in
theorem w_X9_takeBack_13 {p : Program} {l : Launch} {e : Env} {s : State} {m : MethodId} {args : Array Value} {below : List Frame} {meth : Method} {c : Code} {G : GT} {A : Nat → Prop} {ad : Nat → Nat} (C : CX G A RX9 cX9_takeBack 1 p s m args c) (hr : meth.sig.returnType = (some .int)) (hk : meth.locks = false) {a : KS} {rr : Int32 × MS}   (b : MS) (s1 : Int32) (hf : f_X9_takeBack_13 b s1 = some rr) : J p l e (RM 1) s m args below meth c G A 1 (MQ below (QV (some (.int rr.1)) (PosW G ad a rr.2 A) A) args s 0 0 A) 0 0 ad a b 13 [(0, .ref (ad 100))] [.int s1, .ref (ad 100)] := by
  unfold f_X9_takeBack_13 at hf
  obtain ⟨z1, h2, hf⟩ := bnd_some hf
  refine j_callV (q := 100) (As := [.int s1]) (rest := []) C (k_X9_holds h2) cw_X9_holds ml_X9_109 m_100 ce_100 rfl rfl ⟨Nat.le_of_ble_eq_true rfl, Nat.le_of_ble_eq_true rfl⟩ ⟨Nat.le_of_ble_eq_true rfl, Nat.le_of_ble_eq_true rfl⟩ rfl (Nat.le_of_ble_eq_true rfl) dX9_takeBack_13 ?_
  refine j_if_ne C 21 dX9_takeBack_16 (by decide) hf (fun y4 hf => ?_) (fun y4 hf => ?_)
  · refine j_aload_n C 0 rfl dX9_takeBack_21 ?_
    refine j_dup C rfl dX9_takeBack_22 ?_
    refine j_get (q := 100) (kf := 23) (T := TX9) (N := 33) (RC := RX9) C m_100 ce_100 rfl in_X9 (by decide) (fun _ h9 => h9) fl_X9_147 rfl dX9_takeBack_23 ?_
    refine j_iconst (v := 1) C (by decide) dX9_takeBack_26 ?_
    refine j_isub C dX9_takeBack_27 ?_
    refine put_X9_23 C fl_X9_147 rfl rfl dX9_takeBack_28 ?_
    refine j_aload_n C 0 rfl dX9_takeBack_31 ?_
    refine j_get (q := 100) (kf := 20) (T := TX9) (N := 33) (RC := RX9) C m_100 ce_100 rfl in_X9 (by decide) (fun _ h9 => h9) fl_X9_41 rfl dX9_takeBack_32 ?_
    refine j_iconst (v := 3) C (by decide) dX9_takeBack_35 ?_
    refine j_dup2 C rfl rfl dX9_takeBack_36 ?_
    refine j_iald (q := 120) C m_120 ce_120 hf dX9_takeBack_37 (fun hf => ?_)
    refine j_iconst (v := 1) C (by decide) dX9_takeBack_38 ?_
    refine j_iadd C dX9_takeBack_39 ?_
    refine ast_120 C hf dX9_takeBack_40 (fun hf => ?_)
    refine j_aload_n C 0 rfl dX9_takeBack_41 ?_
    refine j_get (q := 100) (kf := 7) (T := TX9) (N := 33) (RC := RX9) C m_100 ce_100 rfl in_X9 (by decide) (fun _ h9 => h9) fl_X9_25 rfl dX9_takeBack_42 ?_
    refine j_aload_n C 0 rfl dX9_takeBack_45 ?_
    refine j_get (q := 100) (kf := 21) (T := TX9) (N := 33) (RC := RX9) C m_100 ce_100 rfl in_X9 (by decide) (fun _ h9 => h9) fl_X9_44 rfl dX9_takeBack_46 ?_
    refine j_aload_n C 0 rfl dX9_takeBack_49 ?_
    refine j_get (q := 100) (kf := 23) (T := TX9) (N := 33) (RC := RX9) C m_100 ce_100 rfl in_X9 (by decide) (fun _ h9 => h9) fl_X9_147 rfl dX9_takeBack_50 ?_
    refine j_iald (q := 121) C m_121 ce_121 hf dX9_takeBack_53 (fun hf => ?_)
    refine j_aload_n C 0 rfl dX9_takeBack_54 ?_
    refine j_get (q := 100) (kf := 22) (T := TX9) (N := 33) (RC := RX9) C m_100 ce_100 rfl in_X9 (by decide) (fun _ h9 => h9) fl_X9_47 rfl dX9_takeBack_55 ?_
    refine j_aload_n C 0 rfl dX9_takeBack_58 ?_
    refine j_get (q := 100) (kf := 23) (T := TX9) (N := 33) (RC := RX9) C m_100 ce_100 rfl in_X9 (by decide) (fun _ h9 => h9) fl_X9_147 rfl dX9_takeBack_59 ?_
    refine j_iald (q := 122) C m_122 ce_122 hf dX9_takeBack_62 (fun hf => ?_)
    refine ast_107 C hf dX9_takeBack_63 (fun hf => ?_)
    refine j_aload_n C 0 rfl dX9_takeBack_64 ?_
    refine j_get (q := 100) (kf := 21) (T := TX9) (N := 33) (RC := RX9) C m_100 ce_100 rfl in_X9 (by decide) (fun _ h9 => h9) fl_X9_44 rfl dX9_takeBack_65 ?_
    refine j_aload_n C 0 rfl dX9_takeBack_68 ?_
    refine j_get (q := 100) (kf := 23) (T := TX9) (N := 33) (RC := RX9) C m_100 ce_100 rfl in_X9 (by decide) (fun _ h9 => h9) fl_X9_147 rfl dX9_takeBack_69 ?_
    refine j_iald (q := 121) C m_121 ce_121 hf dX9_takeBack_72 (fun hf => ?_)
    obtain rfl := Option.some.inj hf
    exact j_iret C hr hk ⟨Nat.le_of_ble_eq_true rfl, Nat.le_of_ble_eq_true rfl⟩ rfl dX9_takeBack_73
  · refine j_iconst (v := 0) C (by decide) dX9_takeBack_19 ?_
    obtain rfl := Option.some.inj hf
    exact j_iret C hr hk ⟨Nat.le_of_ble_eq_true rfl, Nat.le_of_ble_eq_true rfl⟩ rfl dX9_takeBack_20
set_option maxRecDepth 100000 in
set_option maxHeartbeats 4000000 in
theorem k_X9_takeBack {l : Launch} {G : GT} {ad : Nat → Nat} {b : MS} {a : KS} {rr : Int32 × MS} (hf : f_X9_takeBack b = some rr) : MT l G yX9_takeBack cX9_takeBack 1 (some .int) (RM 1) [.ref (ad 100)] ad a b (some (.int rr.1)) a rr.2 := by
  refine MT_of (by decide) (Nat.le_of_ble_eq_true rfl) ?_
  intro p e s m args below meth c A C hr hk
  unfold f_X9_takeBack at hf
  refine j_aload_n C 0 rfl dX9_takeBack_0 ?_
  refine j_aload_n C 0 rfl dX9_takeBack_1 ?_
  refine j_get (q := 100) (kf := 23) (T := TX9) (N := 33) (RC := RX9) C m_100 ce_100 rfl in_X9 (by decide) (fun _ h9 => h9) fl_X9_147 rfl dX9_takeBack_2 ?_
  refine j_if_le C 12 dX9_takeBack_5 (by decide) hf (fun y1 hf => ?_) (fun y1 hf => ?_)
  · refine j_iconst (v := 1) C (by decide) dX9_takeBack_12 ?_
    refine j_sub [0] rfl ?_
    exact w_X9_takeBack_13 C hr hk b 1 hf
  · refine j_iconst (v := 0) C (by decide) dX9_takeBack_8 ?_
    refine j_goto C 13 dX9_takeBack_9 (by decide) ?_
    refine j_sub [0] rfl ?_
    exact w_X9_takeBack_13 C hr hk b 0 hf
set_option maxRecDepth 100000 in
set_option maxHeartbeats 4000000 in
theorem w_X9_savePreset_66 {p : Program} {l : Launch} {e : Env} {s : State} {m : MethodId} {args : Array Value} {below : List Frame} {meth : Method} {c : Code} {G : GT} {A : Nat → Prop} {ad : Nat → Nat} (C : CX G A RX9 cX9_savePreset 4 p s m args c) (hr : meth.sig.returnType = (some .int)) (hk : meth.locks = false) {a : KS} {rr : Int32 × MS} (c27 : MS → Int32 → Int32 → Int32 → Option (Int32 × MS)) (K27 : ∀ (b : MS) (v1 : Int32) (v2 : Int32) (v3 : Int32), c27 b v1 v2 v3 = some rr → J p l e (RM 1) s m args below meth c G A 4 (MQ below (QV (some (.int rr.1)) (PosW G ad a rr.2 A) A) args s 0 0 A) 0 0 ad a b 27 [(0, .ref (ad 100)), (1, .int v1), (2, .int v2), (3, .int v3)] []) (b : MS) (v1 : Int32) (v3 : Int32) (s0 : Int32) (s1 : Int32) (hf : f_X9_savePreset_66 c27 b v1 v3 s0 s1 = some rr) : J p l e (RM 1) s m args below meth c G A 4 (MQ below (QV (some (.int rr.1)) (PosW G ad a rr.2 A) A) args s 0 0 A) 0 0 ad a b 66 [(0, .ref (ad 100)), (1, .int v1), (3, .int v3)] [.int s1, .int s0] := by
  unfold f_X9_savePreset_66 at hf
  refine j_iadd C dX9_savePreset_66 ?_
  refine j_letI hf (fun x1 hf => ?_)
  refine j_istore_n (i := 2) (lv' := [(2, .int x1), (0, .ref (ad 100)), (1, .int v1), (3, .int v3)]) C dX9_savePreset_67 rfl (by decide) rfl ?_
  refine j_iinc (v := v3 + 1) (lv' := [(3, .int (v3 + 1)), (2, .int x1), (0, .ref (ad 100)), (1, .int v1)]) C 3 rfl rfl (by decide) rfl dX9_savePreset_68 ?_
  refine j_goto C 27 dX9_savePreset_71 (by decide) ?_
  refine j_sub [2, 3, 1, 0] rfl ?_
  exact K27 b v1 x1 (v3 + 1) hf
set_option maxRecDepth 100000 in
set_option maxHeartbeats 4000000 in
theorem w_X9_savePreset_27 {p : Program} {l : Launch} {e : Env} {s : State} {m : MethodId} {args : Array Value} {below : List Frame} {meth : Method} {c : Code} {G : GT} {A : Nat → Prop} {ad : Nat → Nat} (C : CX G A RX9 cX9_savePreset 4 p s m args c) (hr : meth.sig.returnType = (some .int)) (hk : meth.locks = false) {a : KS} {rr : Int32 × MS} (c27 : MS → Int32 → Int32 → Int32 → Option (Int32 × MS)) (K27 : ∀ (b : MS) (v1 : Int32) (v2 : Int32) (v3 : Int32), c27 b v1 v2 v3 = some rr → J p l e (RM 1) s m args below meth c G A 4 (MQ below (QV (some (.int rr.1)) (PosW G ad a rr.2 A) A) args s 0 0 A) 0 0 ad a b 27 [(0, .ref (ad 100)), (1, .int v1), (2, .int v2), (3, .int v3)] []) (b : MS) (v1 : Int32) (v2 : Int32) (v3 : Int32) (hf : f_X9_savePreset_27 c27 b v1 v2 v3 = some rr) : J p l e (RM 1) s m args below meth c G A 4 (MQ below (QV (some (.int rr.1)) (PosW G ad a rr.2 A) A) args s 0 0 A) 0 0 ad a b 27 [(0, .ref (ad 100)), (1, .int v1), (2, .int v2), (3, .int v3)] [] := by
  unfold f_X9_savePreset_27 at hf
  refine j_iload_n C 3 rfl dX9_savePreset_27 ?_
  refine j_aload_n C 0 rfl dX9_savePreset_28 ?_
  refine j_get (q := 100) (kf := 1) (T := TX9) (N := 33) (RC := RX9) C m_100 ce_100 rfl in_X9 (by decide) (fun _ h9 => h9) fl_X9_62 rfl dX9_savePreset_29 ?_
  refine j_icmp_ge C 74 dX9_savePreset_32 (by decide) hf (fun y1 hf => ?_) (fun y1 hf => ?_)
  · refine j_aload_n C 0 rfl dX9_savePreset_74 ?_
    refine j_get (q := 100) (kf := 25) (T := TX9) (N := 33) (RC := RX9) C m_100 ce_100 rfl in_X9 (by decide) (fun _ h9 => h9) fl_X9_53 rfl dX9_savePreset_75 ?_
    refine j_iload_n C 1 rfl dX9_savePreset_78 ?_
    refine j_aload_n C 0 rfl dX9_savePreset_79 ?_
    refine j_get (q := 100) (kf := 1) (T := TX9) (N := 33) (RC := RX9) C m_100 ce_100 rfl in_X9 (by decide) (fun _ h9 => h9) fl_X9_62 rfl dX9_savePreset_80 ?_
    refine ast_125 C hf dX9_savePreset_83 (fun hf => ?_)
    refine j_iload_n C 2 rfl dX9_savePreset_84 ?_
    obtain rfl := Option.some.inj hf
    exact j_iret C hr hk ⟨Nat.le_of_ble_eq_true rfl, Nat.le_of_ble_eq_true rfl⟩ rfl dX9_savePreset_85
  · refine j_aload_n C 0 rfl dX9_savePreset_35 ?_
    refine j_get (q := 100) (kf := 24) (T := TX9) (N := 33) (RC := RX9) C m_100 ce_100 rfl in_X9 (by decide) (fun _ h9 => h9) fl_X9_50 rfl dX9_savePreset_36 ?_
    refine j_bipush (v := 24) C (by decide) dX9_savePreset_39 ?_
    refine j_iload_n C 1 rfl dX9_savePreset_41 ?_
    refine j_imul C dX9_savePreset_42 ?_
    refine j_iload_n C 3 rfl dX9_savePreset_43 ?_
    refine j_iadd C dX9_savePreset_44 ?_
    refine j_aload_n C 0 rfl dX9_savePreset_45 ?_
    refine j_get (q := 100) (kf := 7) (T := TX9) (N := 33) (RC := RX9) C m_100 ce_100 rfl in_X9 (by decide) (fun _ h9 => h9) fl_X9_25 rfl dX9_savePreset_46 ?_
    refine j_iload_n C 3 rfl dX9_savePreset_49 ?_
    refine j_iald (q := 107) C m_107 ce_107 hf dX9_savePreset_50 (fun hf => ?_)
    refine ast_124 C hf dX9_savePreset_51 (fun hf => ?_)
    refine j_iload_n C 2 rfl dX9_savePreset_52 ?_
    refine j_aload_n C 0 rfl dX9_savePreset_53 ?_
    refine j_iload_n C 3 rfl dX9_savePreset_54 ?_
    obtain ⟨z2, h3, hf⟩ := bnd_some hf
    refine j_callV (q := 100) (As := [.int v3]) (rest := [.int v2]) C (k_X9_isMenu h3) cw_X9_isMenu ml_X9_100 m_100 ce_100 rfl rfl ⟨Nat.le_of_ble_eq_true rfl, Nat.le_of_ble_eq_true rfl⟩ ⟨Nat.le_of_ble_eq_true rfl, Nat.le_of_ble_eq_true rfl⟩ rfl (Nat.le_of_ble_eq_true rfl) dX9_savePreset_55 ?_
    refine j_if_eq C 65 dX9_savePreset_58 (by decide) hf (fun y5 hf => ?_) (fun y5 hf => ?_)
    · refine j_iconst (v := 1) C (by decide) dX9_savePreset_65 ?_
      refine j_sub [0, 1, 3] rfl ?_
      exact w_X9_savePreset_66 C hr hk c27 K27 (sMhi b 124 (((24 * v1) + v3).toNatClampNeg) (Mhi b 107 (v3.toNatClampNeg))) v1 v3 v2 1 hf
    · refine j_iconst (v := 0) C (by decide) dX9_savePreset_61 ?_
      refine j_goto C 66 dX9_savePreset_62 (by decide) ?_
      refine j_sub [0, 1, 3] rfl ?_
      exact w_X9_savePreset_66 C hr hk c27 K27 (sMhi b 124 (((24 * v1) + v3).toNatClampNeg) (Mhi b 107 (v3.toNatClampNeg))) v1 v3 v2 0 hf
theorem wl_X9_savePreset_27 {p : Program} {l : Launch} {e : Env} {s : State} {m : MethodId} {args : Array Value} {below : List Frame} {meth : Method} {c : Code} {G : GT} {A : Nat → Prop} {ad : Nat → Nat} (C : CX G A RX9 cX9_savePreset 4 p s m args c) (hr : meth.sig.returnType = (some .int)) (hk : meth.locks = false) {a : KS} {rr : Int32 × MS} (fuel : Nat)   : ∀ (b : MS) (v1 : Int32) (v2 : Int32) (v3 : Int32), l_X9_savePreset_27 fuel  b v1 v2 v3 = some rr → J p l e (RM 1) s m args below meth c G A 4 (MQ below (QV (some (.int rr.1)) (PosW G ad a rr.2 A) A) args s 0 0 A) 0 0 ad a b 27 [(0, .ref (ad 100)), (1, .int v1), (2, .int v2), (3, .int v3)] [] := by
  induction fuel with
  | zero => intro b v1 v2 v3 hf; cases hf
  | succ n ih =>
    intro b v1 v2 v3 hf
    have hf : f_X9_savePreset_27 (l_X9_savePreset_27 n ) b v1 v2 v3 = some rr := hf
    exact w_X9_savePreset_27 C hr hk (l_X9_savePreset_27 n ) ih b v1 v2 v3 hf
set_option maxRecDepth 100000 in
set_option maxHeartbeats 4000000 in
theorem w_X9_savePreset_15 {p : Program} {l : Launch} {e : Env} {s : State} {m : MethodId} {args : Array Value} {below : List Frame} {meth : Method} {c : Code} {G : GT} {A : Nat → Prop} {ad : Nat → Nat} (C : CX G A RX9 cX9_savePreset 4 p s m args c) (hr : meth.sig.returnType = (some .int)) (hk : meth.locks = false) {a : KS} {rr : Int32 × MS}   (b : MS) (v1 : Int32) (s1 : Int32) (hf : f_X9_savePreset_15 b v1 s1 = some rr) : J p l e (RM 1) s m args below meth c G A 4 (MQ below (QV (some (.int rr.1)) (PosW G ad a rr.2 A) A) args s 0 0 A) 0 0 ad a b 15 [(0, .ref (ad 100)), (1, .int v1)] [.int s1, .ref (ad 100)] := by
  unfold f_X9_savePreset_15 at hf
  obtain ⟨z1, h2, hf⟩ := bnd_some hf
  refine j_callV (q := 100) (As := [.int s1]) (rest := []) C (k_X9_holds h2) cw_X9_holds ml_X9_109 m_100 ce_100 rfl rfl ⟨Nat.le_of_ble_eq_true rfl, Nat.le_of_ble_eq_true rfl⟩ ⟨Nat.le_of_ble_eq_true rfl, Nat.le_of_ble_eq_true rfl⟩ rfl (Nat.le_of_ble_eq_true rfl) dX9_savePreset_15 ?_
  refine j_if_ne C 23 dX9_savePreset_18 (by decide) hf (fun y4 hf => ?_) (fun y4 hf => ?_)
  · refine j_iconst (v := 0) C (by decide) dX9_savePreset_23 ?_
    refine j_istore_n (i := 2) (lv' := [(2, .int 0), (0, .ref (ad 100)), (1, .int v1)]) C dX9_savePreset_24 rfl (by decide) rfl ?_
    refine j_iconst (v := 0) C (by decide) dX9_savePreset_25 ?_
    refine j_istore_n (i := 3) (lv' := [(3, .int 0), (2, .int 0), (0, .ref (ad 100)), (1, .int v1)]) C dX9_savePreset_26 rfl (by decide) rfl ?_
    refine j_sub [2, 3, 1, 0] rfl ?_
    exact wl_X9_savePreset_27 C hr hk FU z1.2 v1 0 0 hf
  · refine j_iconst (v := 0) C (by decide) dX9_savePreset_21 ?_
    obtain rfl := Option.some.inj hf
    exact j_iret C hr hk ⟨Nat.le_of_ble_eq_true rfl, Nat.le_of_ble_eq_true rfl⟩ rfl dX9_savePreset_22
set_option maxRecDepth 100000 in
set_option maxHeartbeats 4000000 in
theorem k_X9_savePreset {l : Launch} {G : GT} {ad : Nat → Nat} {b : MS} {v1 : Int32} {a : KS} {rr : Int32 × MS} (hf : f_X9_savePreset b v1 = some rr) : MT l G yX9_savePreset cX9_savePreset 4 (some .int) (RM 1) [.ref (ad 100), .int v1] ad a b (some (.int rr.1)) a rr.2 := by
  refine MT_of (by decide) (Nat.le_of_ble_eq_true rfl) ?_
  intro p e s m args below meth c A C hr hk
  unfold f_X9_savePreset at hf
  refine j_aload_n C 0 rfl dX9_savePreset_0 ?_
  refine j_iload_n C 1 rfl dX9_savePreset_1 ?_
  refine j_iconst (v := 0) C (by decide) dX9_savePreset_2 ?_
  refine j_iconst (v := 1) C (by decide) dX9_savePreset_3 ?_
  obtain ⟨z1, h2, hf⟩ := bnd_some hf
  refine j_callS (As := [.int v1, .int 0, .int 1]) (rest := [.ref (ad 100)]) C (k_X9_in h2) cw_X9_in ml_X9_69 rfl ⟨Nat.le_of_ble_eq_true rfl, Nat.le_of_ble_eq_true rfl⟩ ⟨Nat.le_of_ble_eq_true rfl, Nat.le_of_ble_eq_true rfl⟩ rfl (Nat.le_of_ble_eq_true rfl) dX9_savePreset_4 ?_
  refine j_if_eq C 14 dX9_savePreset_7 (by decide) hf (fun y4 hf => ?_) (fun y4 hf => ?_)
  · refine j_iconst (v := 1) C (by decide) dX9_savePreset_14 ?_
    refine j_sub [0, 1] rfl ?_
    exact w_X9_savePreset_15 C hr hk b v1 1 hf
  · refine j_iconst (v := 0) C (by decide) dX9_savePreset_10 ?_
    refine j_goto C 15 dX9_savePreset_11 (by decide) ?_
    refine j_sub [0, 1] rfl ?_
    exact w_X9_savePreset_15 C hr hk b v1 0 hf
set_option maxRecDepth 100000 in
set_option maxHeartbeats 4000000 in
theorem w_X9_loadPreset_82 {p : Program} {l : Launch} {e : Env} {s : State} {m : MethodId} {args : Array Value} {below : List Frame} {meth : Method} {c : Code} {G : GT} {A : Nat → Prop} {ad : Nat → Nat} (C : CX G A RX9 cX9_loadPreset 5 p s m args c) (hr : meth.sig.returnType = (some .int)) (hk : meth.locks = false) {a : KS} {rr : Int32 × MS} (c43 : MS → Int32 → Int32 → Int32 → Option (Int32 × MS)) (K43 : ∀ (b : MS) (v1 : Int32) (v3 : Int32) (v4 : Int32), c43 b v1 v3 v4 = some rr → J p l e (RM 1) s m args below meth c G A 5 (MQ below (QV (some (.int rr.1)) (PosW G ad a rr.2 A) A) args s 0 0 A) 0 0 ad a b 43 [(0, .ref (ad 100)), (1, .int v1), (3, .int v3), (4, .int v4)] []) (b : MS) (v1 : Int32) (v4 : Int32) (s0 : Int32) (s1 : Int32) (hf : f_X9_loadPreset_82 c43 b v1 v4 s0 s1 = some rr) : J p l e (RM 1) s m args below meth c G A 5 (MQ below (QV (some (.int rr.1)) (PosW G ad a rr.2 A) A) args s 0 0 A) 0 0 ad a b 82 [(0, .ref (ad 100)), (1, .int v1), (4, .int v4)] [.int s1, .int s0] := by
  unfold f_X9_loadPreset_82 at hf
  refine j_iadd C dX9_loadPreset_82 ?_
  refine j_letI hf (fun x1 hf => ?_)
  refine j_istore_n (i := 3) (lv' := [(3, .int x1), (0, .ref (ad 100)), (1, .int v1), (4, .int v4)]) C dX9_loadPreset_83 rfl (by decide) rfl ?_
  refine j_aload_n C 1 rfl dX9_loadPreset_84 ?_
  refine j_get (q := 100) (kf := 7) (T := TX9) (N := 33) (RC := RX9) C m_100 ce_100 rfl in_X9 (by decide) (fun _ h9 => h9) fl_X9_25 rfl dX9_loadPreset_85 ?_
  refine j_iload C 3 rfl dX9_loadPreset_88 ?_
  refine j_aload_n C 1 rfl dX9_loadPreset_90 ?_
  refine j_get (q := 100) (kf := 24) (T := TX9) (N := 33) (RC := RX9) C m_100 ce_100 rfl in_X9 (by decide) (fun _ h9 => h9) fl_X9_50 rfl dX9_loadPreset_91 ?_
  refine j_bipush (v := 24) C (by decide) dX9_loadPreset_94 ?_
  refine j_iload_n C 2 rfl dX9_loadPreset_96 ?_
  refine j_imul C dX9_loadPreset_97 ?_
  refine j_iload C 3 rfl dX9_loadPreset_98 ?_
  refine j_iadd C dX9_loadPreset_100 ?_
  refine j_iald (q := 124) C m_124 ce_124 hf dX9_loadPreset_101 (fun hf => ?_)
  refine ast_107 C hf dX9_loadPreset_102 (fun hf => ?_)
  refine j_iinc (v := v4 + 1) (lv' := [(4, .int (v4 + 1)), (3, .int x1), (0, .ref (ad 100)), (1, .int v1)]) C 3 rfl rfl (by decide) rfl dX9_loadPreset_103 ?_
  refine j_goto C 43 dX9_loadPreset_106 (by decide) ?_
  refine j_sub [2, 3, 1, 0] rfl ?_
  exact K43 (sMhi b 107 (v4.toNatClampNeg) (Mhi b 124 (((24 * v1) + v4).toNatClampNeg))) v1 x1 (v4 + 1) hf
set_option maxRecDepth 100000 in
set_option maxHeartbeats 4000000 in
theorem w_X9_loadPreset_43 {p : Program} {l : Launch} {e : Env} {s : State} {m : MethodId} {args : Array Value} {below : List Frame} {meth : Method} {c : Code} {G : GT} {A : Nat → Prop} {ad : Nat → Nat} (C : CX G A RX9 cX9_loadPreset 5 p s m args c) (hr : meth.sig.returnType = (some .int)) (hk : meth.locks = false) {a : KS} {rr : Int32 × MS} (c43 : MS → Int32 → Int32 → Int32 → Option (Int32 × MS)) (K43 : ∀ (b : MS) (v1 : Int32) (v3 : Int32) (v4 : Int32), c43 b v1 v3 v4 = some rr → J p l e (RM 1) s m args below meth c G A 5 (MQ below (QV (some (.int rr.1)) (PosW G ad a rr.2 A) A) args s 0 0 A) 0 0 ad a b 43 [(0, .ref (ad 100)), (1, .int v1), (3, .int v3), (4, .int v4)] []) (b : MS) (v1 : Int32) (v3 : Int32) (v4 : Int32) (hf : f_X9_loadPreset_43 c43 b v1 v3 v4 = some rr) : J p l e (RM 1) s m args below meth c G A 5 (MQ below (QV (some (.int rr.1)) (PosW G ad a rr.2 A) A) args s 0 0 A) 0 0 ad a b 43 [(0, .ref (ad 100)), (1, .int v1), (3, .int v3), (4, .int v4)] [] := by
  unfold f_X9_loadPreset_43 at hf
  refine j_iload C 3 rfl dX9_loadPreset_43 ?_
  refine j_aload_n C 0 rfl dX9_loadPreset_45 ?_
  refine j_get (q := 100) (kf := 25) (T := TX9) (N := 33) (RC := RX9) C m_100 ce_100 rfl in_X9 (by decide) (fun _ h9 => h9) fl_X9_53 rfl dX9_loadPreset_46 ?_
  refine j_iload_n C 1 rfl dX9_loadPreset_49 ?_
  refine j_iald (q := 125) C m_125 ce_125 hf dX9_loadPreset_50 (fun hf => ?_)
  refine j_icmp_ge C 109 dX9_loadPreset_51 (by decide) hf (fun y1 hf => ?_) (fun y1 hf => ?_)
  · refine j_aload_n C 0 rfl dX9_loadPreset_109 ?_
    refine j_iconst (v := 0) C (by decide) dX9_loadPreset_110 ?_
    refine put_X9_23 C fl_X9_147 rfl rfl dX9_loadPreset_111 ?_
    refine j_iload_n C 2 rfl dX9_loadPreset_114 ?_
    obtain rfl := Option.some.inj hf
    exact j_iret C hr hk ⟨Nat.le_of_ble_eq_true rfl, Nat.le_of_ble_eq_true rfl⟩ rfl dX9_loadPreset_115
  · refine j_iload_n C 2 rfl dX9_loadPreset_54 ?_
    refine j_aload_n C 0 rfl dX9_loadPreset_55 ?_
    refine j_get (q := 100) (kf := 7) (T := TX9) (N := 33) (RC := RX9) C m_100 ce_100 rfl in_X9 (by decide) (fun _ h9 => h9) fl_X9_25 rfl dX9_loadPreset_56 ?_
    refine j_iload C 3 rfl dX9_loadPreset_59 ?_
    refine j_iald (q := 107) C m_107 ce_107 hf dX9_loadPreset_61 (fun hf => ?_)
    refine j_aload_n C 0 rfl dX9_loadPreset_62 ?_
    refine j_get (q := 100) (kf := 24) (T := TX9) (N := 33) (RC := RX9) C m_100 ce_100 rfl in_X9 (by decide) (fun _ h9 => h9) fl_X9_50 rfl dX9_loadPreset_63 ?_
    refine j_bipush (v := 24) C (by decide) dX9_loadPreset_66 ?_
    refine j_iload_n C 1 rfl dX9_loadPreset_68 ?_
    refine j_imul C dX9_loadPreset_69 ?_
    refine j_iload C 3 rfl dX9_loadPreset_70 ?_
    refine j_iadd C dX9_loadPreset_72 ?_
    refine j_iald (q := 124) C m_124 ce_124 hf dX9_loadPreset_73 (fun hf => ?_)
    refine j_icmp_eq C 81 dX9_loadPreset_74 (by decide) hf (fun y2 hf => ?_) (fun y2 hf => ?_)
    · refine j_iconst (v := 0) C (by decide) dX9_loadPreset_81 ?_
      refine j_sub [0, 1, 3] rfl ?_
      exact w_X9_loadPreset_82 C hr hk c43 K43 b v1 v4 v3 0 hf
    · refine j_iconst (v := 1) C (by decide) dX9_loadPreset_77 ?_
      refine j_goto C 82 dX9_loadPreset_78 (by decide) ?_
      refine j_sub [0, 1, 3] rfl ?_
      exact w_X9_loadPreset_82 C hr hk c43 K43 b v1 v4 v3 1 hf
theorem wl_X9_loadPreset_43 {p : Program} {l : Launch} {e : Env} {s : State} {m : MethodId} {args : Array Value} {below : List Frame} {meth : Method} {c : Code} {G : GT} {A : Nat → Prop} {ad : Nat → Nat} (C : CX G A RX9 cX9_loadPreset 5 p s m args c) (hr : meth.sig.returnType = (some .int)) (hk : meth.locks = false) {a : KS} {rr : Int32 × MS} (fuel : Nat)   : ∀ (b : MS) (v1 : Int32) (v3 : Int32) (v4 : Int32), l_X9_loadPreset_43 fuel  b v1 v3 v4 = some rr → J p l e (RM 1) s m args below meth c G A 5 (MQ below (QV (some (.int rr.1)) (PosW G ad a rr.2 A) A) args s 0 0 A) 0 0 ad a b 43 [(0, .ref (ad 100)), (1, .int v1), (3, .int v3), (4, .int v4)] [] := by
  induction fuel with
  | zero => intro b v1 v3 v4 hf; cases hf
  | succ n ih =>
    intro b v1 v3 v4 hf
    have hf : f_X9_loadPreset_43 (l_X9_loadPreset_43 n ) b v1 v3 v4 = some rr := hf
    exact w_X9_loadPreset_43 C hr hk (l_X9_loadPreset_43 n ) ih b v1 v3 v4 hf
set_option maxRecDepth 100000 in
set_option maxHeartbeats 4000000 in
theorem w_X9_loadPreset_30 {p : Program} {l : Launch} {e : Env} {s : State} {m : MethodId} {args : Array Value} {below : List Frame} {meth : Method} {c : Code} {G : GT} {A : Nat → Prop} {ad : Nat → Nat} (C : CX G A RX9 cX9_loadPreset 5 p s m args c) (hr : meth.sig.returnType = (some .int)) (hk : meth.locks = false) {a : KS} {rr : Int32 × MS}   (b : MS) (v1 : Int32) (s1 : Int32) (hf : f_X9_loadPreset_30 b v1 s1 = some rr) : J p l e (RM 1) s m args below meth c G A 5 (MQ below (QV (some (.int rr.1)) (PosW G ad a rr.2 A) A) args s 0 0 A) 0 0 ad a b 30 [(0, .ref (ad 100)), (1, .int v1)] [.int s1, .ref (ad 100)] := by
  unfold f_X9_loadPreset_30 at hf
  obtain ⟨z1, h2, hf⟩ := bnd_some hf
  refine j_callV (q := 100) (As := [.int s1]) (rest := []) C (k_X9_holds h2) cw_X9_holds ml_X9_109 m_100 ce_100 rfl rfl ⟨Nat.le_of_ble_eq_true rfl, Nat.le_of_ble_eq_true rfl⟩ ⟨Nat.le_of_ble_eq_true rfl, Nat.le_of_ble_eq_true rfl⟩ rfl (Nat.le_of_ble_eq_true rfl) dX9_loadPreset_30 ?_
  refine j_if_ne C 38 dX9_loadPreset_33 (by decide) hf (fun y4 hf => ?_) (fun y4 hf => ?_)
  · refine j_iconst (v := 0) C (by decide) dX9_loadPreset_38 ?_
    refine j_istore_n (i := 3) (lv' := [(3, .int 0), (0, .ref (ad 100)), (1, .int v1)]) C dX9_loadPreset_39 rfl (by decide) rfl ?_
    refine j_iconst (v := 0) C (by decide) dX9_loadPreset_40 ?_
    refine j_istore (lv' := [(4, .int 0), (3, .int 0), (0, .ref (ad 100)), (1, .int v1)]) C dX9_loadPreset_41 (by decide) rfl ?_
    refine j_sub [2, 3, 1, 0] rfl ?_
    exact wl_X9_loadPreset_43 C hr hk FU z1.2 v1 0 0 hf
  · refine j_iconst (v := 0) C (by decide) dX9_loadPreset_36 ?_
    obtain rfl := Option.some.inj hf
    exact j_iret C hr hk ⟨Nat.le_of_ble_eq_true rfl, Nat.le_of_ble_eq_true rfl⟩ rfl dX9_loadPreset_37
set_option maxRecDepth 100000 in
set_option maxHeartbeats 4000000 in
theorem k_X9_loadPreset {l : Launch} {G : GT} {ad : Nat → Nat} {b : MS} {v1 : Int32} {a : KS} {rr : Int32 × MS} (hf : f_X9_loadPreset b v1 = some rr) : MT l G yX9_loadPreset cX9_loadPreset 5 (some .int) (RM 1) [.ref (ad 100), .int v1] ad a b (some (.int rr.1)) a rr.2 := by
  refine MT_of (by decide) (Nat.le_of_ble_eq_true rfl) ?_
  intro p e s m args below meth c A C hr hk
  unfold f_X9_loadPreset at hf
  refine j_iload_n C 1 rfl dX9_loadPreset_0 ?_
  refine j_iconst (v := 0) C (by decide) dX9_loadPreset_1 ?_
  refine j_iconst (v := 1) C (by decide) dX9_loadPreset_2 ?_
  obtain ⟨z1, h2, hf⟩ := bnd_some hf
  refine j_callS (As := [.int v1, .int 0, .int 1]) (rest := []) C (k_X9_in h2) cw_X9_in ml_X9_69 rfl ⟨Nat.le_of_ble_eq_true rfl, Nat.le_of_ble_eq_true rfl⟩ ⟨Nat.le_of_ble_eq_true rfl, Nat.le_of_ble_eq_true rfl⟩ rfl (Nat.le_of_ble_eq_true rfl) dX9_loadPreset_3 ?_
  refine j_istore_n (i := 2) (lv' := [(2, .int z1), (0, .ref (ad 100)), (1, .int v1)]) C dX9_loadPreset_6 rfl (by decide) rfl ?_
  refine j_aload_n C 1 rfl dX9_loadPreset_7 ?_
  refine j_iload_n C 0 rfl dX9_loadPreset_8 ?_
  refine j_if_ne C 16 dX9_loadPreset_9 (by decide) hf (fun y4 hf => ?_) (fun y4 hf => ?_)
  · refine j_aload_n C 1 rfl dX9_loadPreset_16 ?_
    refine j_get (q := 100) (kf := 25) (T := TX9) (N := 33) (RC := RX9) C m_100 ce_100 rfl in_X9 (by decide) (fun _ h9 => h9) fl_X9_53 rfl dX9_loadPreset_17 ?_
    refine j_iload_n C 2 rfl dX9_loadPreset_20 ?_
    refine j_iald (q := 125) C m_125 ce_125 hf dX9_loadPreset_21 (fun hf => ?_)
    refine j_if_ne C 29 dX9_loadPreset_22 (by decide) hf (fun y5 hf => ?_) (fun y5 hf => ?_)
    · refine j_iconst (v := 0) C (by decide) dX9_loadPreset_29 ?_
      refine j_sub [1, 2] rfl ?_
      exact w_X9_loadPreset_30 C hr hk b v1 0 hf
    · refine j_iconst (v := 2) C (by decide) dX9_loadPreset_25 ?_
      refine j_goto C 30 dX9_loadPreset_26 (by decide) ?_
      refine j_sub [1, 2] rfl ?_
      exact w_X9_loadPreset_30 C hr hk b v1 2 hf
  · refine j_iconst (v := 1) C (by decide) dX9_loadPreset_12 ?_
    refine j_goto C 30 dX9_loadPreset_13 (by decide) ?_
    refine j_sub [1, 2] rfl ?_
    exact w_X9_loadPreset_30 C hr hk b v1 1 hf
set_option maxRecDepth 100000 in
set_option maxHeartbeats 4000000 in
theorem k_X9_mode {l : Launch} {G : GT} {ad : Nat → Nat} {b : MS} {a : KS} {rr : Int32 × MS} (hf : f_X9_mode b = some rr) : MT l G yX9_mode cX9_mode 1 (some .int) (RM 0) [.ref (ad 100)] ad a b (some (.int rr.1)) a rr.2 := by
  refine MT_of (by decide) (Nat.le_of_ble_eq_true rfl) ?_
  intro p e s m args below meth c A C hr hk
  unfold f_X9_mode at hf
  refine j_aload_n C 0 rfl dX9_mode_0 ?_
  refine j_iconst (v := 0) C (by decide) dX9_mode_1 ?_
  refine put_X9_0 C fl_X9_66 rfl rfl dX9_mode_2 ?_
  refine j_aload_n C 0 rfl dX9_mode_5 ?_
  refine j_get (q := 100) (kf := 10) (T := TX9) (N := 33) (RC := RX9) C m_100 ce_100 rfl in_X9 (by decide) (fun _ h9 => h9) fl_X9_83 rfl dX9_mode_6 ?_
  obtain rfl := Option.some.inj hf
  exact j_iret C hr hk ⟨Nat.le_of_ble_eq_true rfl, Nat.le_of_ble_eq_true rfl⟩ rfl dX9_mode_9
set_option maxRecDepth 100000 in
set_option maxHeartbeats 4000000 in
theorem k_X9_shown {l : Launch} {G : GT} {ad : Nat → Nat} {b : MS} {a : KS} {rr : Int32 × MS} (hf : f_X9_shown b = some rr) : MT l G yX9_shown cX9_shown 1 (some .int) (RM 0) [.ref (ad 100)] ad a b (some (.int rr.1)) a rr.2 := by
  refine MT_of (by decide) (Nat.le_of_ble_eq_true rfl) ?_
  intro p e s m args below meth c A C hr hk
  unfold f_X9_shown at hf
  refine j_aload_n C 0 rfl dX9_shown_0 ?_
  refine j_iconst (v := 0) C (by decide) dX9_shown_1 ?_
  refine put_X9_0 C fl_X9_66 rfl rfl dX9_shown_2 ?_
  refine j_aload_n C 0 rfl dX9_shown_5 ?_
  refine j_get (q := 100) (kf := 11) (T := TX9) (N := 33) (RC := RX9) C m_100 ce_100 rfl in_X9 (by decide) (fun _ h9 => h9) fl_X9_77 rfl dX9_shown_6 ?_
  obtain rfl := Option.some.inj hf
  exact j_iret C hr hk ⟨Nat.le_of_ble_eq_true rfl, Nat.le_of_ble_eq_true rfl⟩ rfl dX9_shown_9
set_option maxRecDepth 100000 in
set_option maxHeartbeats 4000000 in
theorem k_X9_cursor {l : Launch} {G : GT} {ad : Nat → Nat} {b : MS} {a : KS} {rr : Int32 × MS} (hf : f_X9_cursor b = some rr) : MT l G yX9_cursor cX9_cursor 1 (some .int) (RM 0) [.ref (ad 100)] ad a b (some (.int rr.1)) a rr.2 := by
  refine MT_of (by decide) (Nat.le_of_ble_eq_true rfl) ?_
  intro p e s m args below meth c A C hr hk
  unfold f_X9_cursor at hf
  refine j_aload_n C 0 rfl dX9_cursor_0 ?_
  refine j_iconst (v := 0) C (by decide) dX9_cursor_1 ?_
  refine put_X9_0 C fl_X9_66 rfl rfl dX9_cursor_2 ?_
  refine j_aload_n C 0 rfl dX9_cursor_5 ?_
  refine j_get (q := 100) (kf := 12) (T := TX9) (N := 33) (RC := RX9) C m_100 ce_100 rfl in_X9 (by decide) (fun _ h9 => h9) fl_X9_86 rfl dX9_cursor_6 ?_
  obtain rfl := Option.some.inj hf
  exact j_iret C hr hk ⟨Nat.le_of_ble_eq_true rfl, Nat.le_of_ble_eq_true rfl⟩ rfl dX9_cursor_9
set_option maxRecDepth 100000 in
set_option maxHeartbeats 4000000 in
theorem k_X9_chosen {l : Launch} {G : GT} {ad : Nat → Nat} {b : MS} {a : KS} {rr : Int32 × MS} (hf : f_X9_chosen b = some rr) : MT l G yX9_chosen cX9_chosen 1 (some .int) (RM 2) [.ref (ad 100)] ad a b (some (.int rr.1)) a rr.2 := by
  refine MT_of (by decide) (Nat.le_of_ble_eq_true rfl) ?_
  intro p e s m args below meth c A C hr hk
  unfold f_X9_chosen at hf
  refine j_aload_n C 0 rfl dX9_chosen_0 ?_
  refine j_iconst (v := 0) C (by decide) dX9_chosen_1 ?_
  refine put_X9_0 C fl_X9_66 rfl rfl dX9_chosen_2 ?_
  refine j_aload_n C 0 rfl dX9_chosen_5 ?_
  refine j_aload_n C 0 rfl dX9_chosen_6 ?_
  refine j_get (q := 100) (kf := 12) (T := TX9) (N := 33) (RC := RX9) C m_100 ce_100 rfl in_X9 (by decide) (fun _ h9 => h9) fl_X9_86 rfl dX9_chosen_7 ?_
  obtain ⟨z1, h2, hf⟩ := bnd_some hf
  refine j_callV (q := 100) (As := [.int (Mhi (sMhi b 100 0 0) 100 12)]) (rest := []) C (k_X9_itemAt h2) cw_X9_itemAt ml_X9_125 m_100 ce_100 rfl rfl ⟨Nat.le_of_ble_eq_true rfl, Nat.le_of_ble_eq_true rfl⟩ ⟨Nat.le_of_ble_eq_true rfl, Nat.le_of_ble_eq_true rfl⟩ rfl (Nat.le_of_ble_eq_true rfl) dX9_chosen_10 ?_
  obtain rfl := Option.some.inj hf
  exact j_iret C hr hk ⟨Nat.le_of_ble_eq_true rfl, Nat.le_of_ble_eq_true rfl⟩ rfl dX9_chosen_13
set_option maxRecDepth 100000 in
set_option maxHeartbeats 4000000 in
theorem k_X9_draftNow {l : Launch} {G : GT} {ad : Nat → Nat} {b : MS} {a : KS} {rr : Int32} (hf : f_X9_draftNow b = some rr) : MT l G yX9_draftNow cX9_draftNow 1 (some .int) (RM 0) [.ref (ad 100)] ad a b (some (.int rr)) a b := by
  refine MT_of (by decide) (Nat.le_of_ble_eq_true rfl) ?_
  intro p e s m args below meth c A C hr hk
  unfold f_X9_draftNow at hf
  refine j_aload_n C 0 rfl dX9_draftNow_0 ?_
  refine j_get (q := 100) (kf := 10) (T := TX9) (N := 33) (RC := RX9) C m_100 ce_100 rfl in_X9 (by decide) (fun _ h9 => h9) fl_X9_83 rfl dX9_draftNow_1 ?_
  refine j_iconst (v := 1) C (by decide) dX9_draftNow_4 ?_
  refine j_icmp_ne C 15 dX9_draftNow_5 (by decide) hf (fun y1 hf => ?_) (fun y1 hf => ?_)
  · refine j_iconst (v := 0) C (by decide) dX9_draftNow_15 ?_
    obtain rfl := Option.some.inj hf
    exact j_iret C hr hk ⟨Nat.le_of_ble_eq_true rfl, Nat.le_of_ble_eq_true rfl⟩ rfl dX9_draftNow_16
  · refine j_aload_n C 0 rfl dX9_draftNow_8 ?_
    refine j_get (q := 100) (kf := 13) (T := TX9) (N := 33) (RC := RX9) C m_100 ce_100 rfl in_X9 (by decide) (fun _ h9 => h9) fl_X9_128 rfl dX9_draftNow_9 ?_
    refine j_goto C 16 dX9_draftNow_12 (by decide) ?_
    obtain rfl := Option.some.inj hf
    exact j_iret C hr hk ⟨Nat.le_of_ble_eq_true rfl, Nat.le_of_ble_eq_true rfl⟩ rfl dX9_draftNow_16
set_option maxRecDepth 100000 in
set_option maxHeartbeats 4000000 in
theorem k_X9_draft {l : Launch} {G : GT} {ad : Nat → Nat} {b : MS} {a : KS} {rr : Int32 × MS} (hf : f_X9_draft b = some rr) : MT l G yX9_draft cX9_draft 1 (some .int) (RM 1) [.ref (ad 100)] ad a b (some (.int rr.1)) a rr.2 := by
  refine MT_of (by decide) (Nat.le_of_ble_eq_true rfl) ?_
  intro p e s m args below meth c A C hr hk
  unfold f_X9_draft at hf
  refine j_aload_n C 0 rfl dX9_draft_0 ?_
  refine j_iconst (v := 0) C (by decide) dX9_draft_1 ?_
  refine put_X9_0 C fl_X9_66 rfl rfl dX9_draft_2 ?_
  refine j_aload_n C 0 rfl dX9_draft_5 ?_
  obtain ⟨z1, h2, hf⟩ := bnd_some hf
  refine j_callV (q := 100) (As := []) (rest := []) C (k_X9_draftNow h2) cw_X9_draftNow ml_X9_179 m_100 ce_100 rfl rfl ⟨Nat.le_of_ble_eq_true rfl, Nat.le_of_ble_eq_true rfl⟩ ⟨Nat.le_of_ble_eq_true rfl, Nat.le_of_ble_eq_true rfl⟩ rfl (Nat.le_of_ble_eq_true rfl) dX9_draft_6 ?_
  obtain rfl := Option.some.inj hf
  exact j_iret C hr hk ⟨Nat.le_of_ble_eq_true rfl, Nat.le_of_ble_eq_true rfl⟩ rfl dX9_draft_9
set_option maxRecDepth 100000 in
set_option maxHeartbeats 4000000 in
theorem k_X9_idle {l : Launch} {G : GT} {ad : Nat → Nat} {b : MS} {a : KS} {rr : Int32 × MS} (hf : f_X9_idle b = some rr) : MT l G yX9_idle cX9_idle 1 (some .int) (RM 0) [.ref (ad 100)] ad a b (some (.int rr.1)) a rr.2 := by
  refine MT_of (by decide) (Nat.le_of_ble_eq_true rfl) ?_
  intro p e s m args below meth c A C hr hk
  unfold f_X9_idle at hf
  refine j_aload_n C 0 rfl dX9_idle_0 ?_
  refine j_iconst (v := 0) C (by decide) dX9_idle_1 ?_
  refine put_X9_0 C fl_X9_66 rfl rfl dX9_idle_2 ?_
  refine j_aload_n C 0 rfl dX9_idle_5 ?_
  refine j_get (q := 100) (kf := 16) (T := TX9) (N := 33) (RC := RX9) C m_100 ce_100 rfl in_X9 (by decide) (fun _ h9 => h9) fl_X9_141 rfl dX9_idle_6 ?_
  obtain rfl := Option.some.inj hf
  exact j_iret C hr hk ⟨Nat.le_of_ble_eq_true rfl, Nat.le_of_ble_eq_true rfl⟩ rfl dX9_idle_9
set_option maxRecDepth 100000 in
set_option maxHeartbeats 4000000 in
theorem k_X9_barred {l : Launch} {G : GT} {ad : Nat → Nat} {b : MS} {a : KS} {rr : Int32 × MS} (hf : f_X9_barred b = some rr) : MT l G yX9_barred cX9_barred 1 (some .int) (RM 0) [.ref (ad 100)] ad a b (some (.int rr.1)) a rr.2 := by
  refine MT_of (by decide) (Nat.le_of_ble_eq_true rfl) ?_
  intro p e s m args below meth c A C hr hk
  unfold f_X9_barred at hf
  refine j_aload_n C 0 rfl dX9_barred_0 ?_
  refine j_iconst (v := 0) C (by decide) dX9_barred_1 ?_
  refine put_X9_0 C fl_X9_66 rfl rfl dX9_barred_2 ?_
  refine j_aload_n C 0 rfl dX9_barred_5 ?_
  refine j_get (q := 100) (kf := 17) (T := TX9) (N := 33) (RC := RX9) C m_100 ce_100 rfl in_X9 (by decide) (fun _ h9 => h9) fl_X9_150 rfl dX9_barred_6 ?_
  obtain rfl := Option.some.inj hf
  exact j_iret C hr hk ⟨Nat.le_of_ble_eq_true rfl, Nat.le_of_ble_eq_true rfl⟩ rfl dX9_barred_9
set_option maxRecDepth 100000 in
set_option maxHeartbeats 4000000 in
theorem k_X9_logged {l : Launch} {G : GT} {ad : Nat → Nat} {b : MS} {a : KS} {rr : Int32 × MS} (hf : f_X9_logged b = some rr) : MT l G yX9_logged cX9_logged 1 (some .int) (RM 0) [.ref (ad 100)] ad a b (some (.int rr.1)) a rr.2 := by
  refine MT_of (by decide) (Nat.le_of_ble_eq_true rfl) ?_
  intro p e s m args below meth c A C hr hk
  unfold f_X9_logged at hf
  refine j_aload_n C 0 rfl dX9_logged_0 ?_
  refine j_iconst (v := 0) C (by decide) dX9_logged_1 ?_
  refine put_X9_0 C fl_X9_66 rfl rfl dX9_logged_2 ?_
  refine j_aload_n C 0 rfl dX9_logged_5 ?_
  refine j_get (q := 100) (kf := 23) (T := TX9) (N := 33) (RC := RX9) C m_100 ce_100 rfl in_X9 (by decide) (fun _ h9 => h9) fl_X9_147 rfl dX9_logged_6 ?_
  obtain rfl := Option.some.inj hf
  exact j_iret C hr hk ⟨Nat.le_of_ble_eq_true rfl, Nat.le_of_ble_eq_true rfl⟩ rfl dX9_logged_9
set_option maxRecDepth 100000 in
set_option maxHeartbeats 4000000 in
theorem k_X9_isHome {l : Launch} {G : GT} {ad : Nat → Nat} {b : MS} {a : KS} {rr : Int32 × MS} (hf : f_X9_isHome b = some rr) : MT l G yX9_isHome cX9_isHome 1 (some .boolean) (RM 2) [.ref (ad 100)] ad a b (some (.int rr.1)) a rr.2 := by
  refine MT_of (by decide) (Nat.le_of_ble_eq_true rfl) ?_
  intro p e s m args below meth c A C hr hk
  unfold f_X9_isHome at hf
  refine j_aload_n C 0 rfl dX9_isHome_0 ?_
  refine j_iconst (v := 0) C (by decide) dX9_isHome_1 ?_
  refine put_X9_0 C fl_X9_66 rfl rfl dX9_isHome_2 ?_
  refine j_aload_n C 0 rfl dX9_isHome_5 ?_
  obtain ⟨z1, h2, hf⟩ := bnd_some hf
  refine j_callV (q := 100) (As := []) (rest := []) C (k_X9_home h2) cw_X9_home ml_X9_93 m_100 ce_100 rfl rfl ⟨Nat.le_of_ble_eq_true rfl, Nat.le_of_ble_eq_true rfl⟩ ⟨Nat.le_of_ble_eq_true rfl, Nat.le_of_ble_eq_true rfl⟩ rfl (Nat.le_of_ble_eq_true rfl) dX9_isHome_6 ?_
  obtain ⟨h4, hf⟩ := gd_some hf
  obtain rfl := Option.some.inj hf
  exact j_zret C hr hk (okz_n h4) ⟨Nat.le_of_ble_eq_true rfl, Nat.le_of_ble_eq_true rfl⟩ rfl dX9_isHome_9
set_option maxRecDepth 100000 in
set_option maxHeartbeats 4000000 in
theorem w_X9_writes_21 {p : Program} {l : Launch} {e : Env} {s : State} {m : MethodId} {args : Array Value} {below : List Frame} {meth : Method} {c : Code} {G : GT} {A : Nat → Prop} {ad : Nat → Nat} (C : CX G A RX9 cX9_writes 3 p s m args c) (hr : meth.sig.returnType = none) (hk : meth.locks = false) {a : KS} {rr : MS}   (b : MS) (v1 : Int32) (v2 : Int32) (s1 : Int32) (s2 : Int32) (s3 : Int32) (hf : f_X9_writes_21 b v1 v2 s1 s2 s3 = some rr) : J p l e (RM 0) s m args below meth c G A 3 (MQ below (QV (none) (PosW G ad a rr A) A) args s 0 0 A) 0 0 ad a b 21 [(0, .ref (ad 100)), (1, .int v1), (2, .int v2)] [.int s3, .int s2, .int s1, .ref (ad 131)] := by
  unfold f_X9_writes_21 at hf
  refine j_iadd C dX9_writes_21 ?_
  refine ast_131 C hf dX9_writes_22 (fun hf => ?_)
  refine j_aload_n C 0 rfl dX9_writes_23 ?_
  refine j_get (q := 100) (kf := 31) (T := TX9) (N := 33) (RC := RX9) C m_100 ce_100 rfl in_X9 (by decide) (fun _ h9 => h9) fl_X9_59 rfl dX9_writes_24 ?_
  refine j_iload_n C 2 rfl dX9_writes_27 ?_
  refine j_iconst (v := 1) C (by decide) dX9_writes_28 ?_
  refine j_iadd C dX9_writes_29 ?_
  refine j_iload_n C 1 rfl dX9_writes_30 ?_
  refine j_bipush (v := 9) C (by decide) dX9_writes_31 ?_
  refine j_icmp_le C 46 dX9_writes_33 (by decide) hf (fun y1 hf => ?_) (fun y1 hf => ?_)
  · refine j_bipush (v := 32) C (by decide) dX9_writes_46 ?_
    refine ast_131 C hf dX9_writes_48 (fun hf => ?_)
    obtain rfl := Option.some.inj hf
    exact j_vret C hr hk ⟨Nat.le_of_ble_eq_true rfl, Nat.le_of_ble_eq_true rfl⟩ rfl dX9_writes_49
  · refine j_bipush (v := 48) C (by decide) dX9_writes_36 ?_
    refine j_iload_n C 1 rfl dX9_writes_38 ?_
    refine j_bipush (v := 10) C (by decide) dX9_writes_39 ?_
    refine j_irem C (by decide) dX9_writes_41 ?_
    refine j_iadd C dX9_writes_42 ?_
    refine j_goto C 48 dX9_writes_43 (by decide) ?_
    refine ast_131 C hf dX9_writes_48 (fun hf => ?_)
    obtain rfl := Option.some.inj hf
    exact j_vret C hr hk ⟨Nat.le_of_ble_eq_true rfl, Nat.le_of_ble_eq_true rfl⟩ rfl dX9_writes_49
set_option maxRecDepth 100000 in
set_option maxHeartbeats 4000000 in
theorem k_X9_writes {l : Launch} {G : GT} {ad : Nat → Nat} {b : MS} {v1 : Int32} {v2 : Int32} {a : KS} {rr : MS} (hf : f_X9_writes b v1 v2 = some rr) : MT l G yX9_writes cX9_writes 3 none (RM 0) [.ref (ad 100), .int v1, .int v2] ad a b (none) a rr := by
  refine MT_of (by decide) (Nat.le_of_ble_eq_true rfl) ?_
  intro p e s m args below meth c A C hr hk
  unfold f_X9_writes at hf
  refine j_aload_n C 0 rfl dX9_writes_0 ?_
  refine j_get (q := 100) (kf := 31) (T := TX9) (N := 33) (RC := RX9) C m_100 ce_100 rfl in_X9 (by decide) (fun _ h9 => h9) fl_X9_59 rfl dX9_writes_1 ?_
  refine j_iload_n C 2 rfl dX9_writes_4 ?_
  refine j_bipush (v := 48) C (by decide) dX9_writes_5 ?_
  refine j_iload_n C 1 rfl dX9_writes_7 ?_
  refine j_bipush (v := 9) C (by decide) dX9_writes_8 ?_
  refine j_icmp_le C 20 dX9_writes_10 (by decide) hf (fun y1 hf => ?_) (fun y1 hf => ?_)
  · refine j_iload_n C 1 rfl dX9_writes_20 ?_
    refine j_sub [0, 1, 2] rfl ?_
    exact w_X9_writes_21 C hr hk b v1 v2 v2 48 v1 hf
  · refine j_iload_n C 1 rfl dX9_writes_13 ?_
    refine j_bipush (v := 10) C (by decide) dX9_writes_14 ?_
    refine j_idiv C (by decide) dX9_writes_16 ?_
    refine j_goto C 21 dX9_writes_17 (by decide) ?_
    refine j_sub [0, 1, 2] rfl ?_
    exact w_X9_writes_21 C hr hk b v1 v2 v2 48 (v1 / 10) hf
set_option maxRecDepth 100000 in
set_option maxHeartbeats 4000000 in
theorem w_X9_ends_27 {p : Program} {l : Launch} {e : Env} {s : State} {m : MethodId} {args : Array Value} {below : List Frame} {meth : Method} {c : Code} {G : GT} {A : Nat → Prop} {ad : Nat → Nat} (C : CX G A RX9 cX9_ends 4 p s m args c) (hr : meth.sig.returnType = none) (hk : meth.locks = false) {a : KS} {rr : MS} (c27 : MS → Int32 → Int32 → Int32 → Option MS) (K27 : ∀ (b : MS) (v1 : Int32) (v2 : Int32) (v3 : Int32), c27 b v1 v2 v3 = some rr → J p l e (RM 0) s m args below meth c G A 4 (MQ below (QV (none) (PosW G ad a rr A) A) args s 0 0 A) 0 0 ad a b 27 [(0, .ref (ad 100)), (1, .int v1), (2, .int v2), (3, .int v3)] []) (b : MS) (v1 : Int32) (v2 : Int32) (v3 : Int32) (hf : f_X9_ends_27 c27 b v1 v2 v3 = some rr) : J p l e (RM 0) s m args below meth c G A 4 (MQ below (QV (none) (PosW G ad a rr A) A) args s 0 0 A) 0 0 ad a b 27 [(0, .ref (ad 100)), (1, .int v1), (2, .int v2), (3, .int v3)] [] := by
  unfold f_X9_ends_27 at hf
  refine j_iload_n C 2 rfl dX9_ends_27 ?_
  refine j_bipush (v := 9) C (by decide) dX9_ends_28 ?_
  refine j_icmp_le C 57 dX9_ends_30 (by decide) hf (fun y1 hf => ?_) (fun y1 hf => ?_)
  · refine j_aload_n C 0 rfl dX9_ends_57 ?_
    refine j_get (q := 100) (kf := 31) (T := TX9) (N := 33) (RC := RX9) C m_100 ce_100 rfl in_X9 (by decide) (fun _ h9 => h9) fl_X9_59 rfl dX9_ends_58 ?_
    refine j_iload_n C 3 rfl dX9_ends_61 ?_
    refine j_iconst (v := 1) C (by decide) dX9_ends_62 ?_
    refine j_isub C dX9_ends_63 ?_
    refine j_iload_n C 1 rfl dX9_ends_64 ?_
    refine j_if_ge C 73 dX9_ends_65 (by decide) hf (fun y2 hf => ?_) (fun y2 hf => ?_)
    · refine j_bipush (v := 32) C (by decide) dX9_ends_73 ?_
      refine ast_131 C hf dX9_ends_75 (fun hf => ?_)
      obtain rfl := Option.some.inj hf
      exact j_vret C hr hk ⟨Nat.le_of_ble_eq_true rfl, Nat.le_of_ble_eq_true rfl⟩ rfl dX9_ends_76
    · refine j_bipush (v := 45) C (by decide) dX9_ends_68 ?_
      refine j_goto C 75 dX9_ends_70 (by decide) ?_
      refine ast_131 C hf dX9_ends_75 (fun hf => ?_)
      obtain rfl := Option.some.inj hf
      exact j_vret C hr hk ⟨Nat.le_of_ble_eq_true rfl, Nat.le_of_ble_eq_true rfl⟩ rfl dX9_ends_76
  · refine j_iload_n C 2 rfl dX9_ends_33 ?_
    refine j_bipush (v := 10) C (by decide) dX9_ends_34 ?_
    refine j_idiv C (by decide) dX9_ends_36 ?_
    refine j_letI hf (fun x4 hf => ?_)
    refine j_istore_n (i := 2) (lv' := [(2, .int x4), (0, .ref (ad 100)), (1, .int v1), (3, .int v3)]) C dX9_ends_37 rfl (by decide) rfl ?_
    refine j_iinc (v := v3 + (-1)) (lv' := [(3, .int (v3 + (-1))), (2, .int x4), (0, .ref (ad 100)), (1, .int v1)]) C 3 rfl (ii_m1 _) (by decide) rfl dX9_ends_38 ?_
    refine j_aload_n C 2 rfl dX9_ends_41 ?_
    refine j_get (q := 100) (kf := 31) (T := TX9) (N := 33) (RC := RX9) C m_100 ce_100 rfl in_X9 (by decide) (fun _ h9 => h9) fl_X9_59 rfl dX9_ends_42 ?_
    refine j_iload_n C 0 rfl dX9_ends_45 ?_
    refine j_bipush (v := 48) C (by decide) dX9_ends_46 ?_
    refine j_iload_n C 1 rfl dX9_ends_48 ?_
    refine j_bipush (v := 10) C (by decide) dX9_ends_49 ?_
    refine j_irem C (by decide) dX9_ends_51 ?_
    refine j_iadd C dX9_ends_52 ?_
    refine ast_131 C hf dX9_ends_53 (fun hf => ?_)
    refine j_goto C 27 dX9_ends_54 (by decide) ?_
    refine j_sub [2, 3, 1, 0] rfl ?_
    exact K27 (sMhi b 131 ((v3 + (-1)).toNatClampNeg) (48 + (x4 - x4 / 10 * 10))) v1 x4 (v3 + (-1)) hf
theorem wl_X9_ends_27 {p : Program} {l : Launch} {e : Env} {s : State} {m : MethodId} {args : Array Value} {below : List Frame} {meth : Method} {c : Code} {G : GT} {A : Nat → Prop} {ad : Nat → Nat} (C : CX G A RX9 cX9_ends 4 p s m args c) (hr : meth.sig.returnType = none) (hk : meth.locks = false) {a : KS} {rr : MS} (fuel : Nat)   : ∀ (b : MS) (v1 : Int32) (v2 : Int32) (v3 : Int32), l_X9_ends_27 fuel  b v1 v2 v3 = some rr → J p l e (RM 0) s m args below meth c G A 4 (MQ below (QV (none) (PosW G ad a rr A) A) args s 0 0 A) 0 0 ad a b 27 [(0, .ref (ad 100)), (1, .int v1), (2, .int v2), (3, .int v3)] [] := by
  induction fuel with
  | zero => intro b v1 v2 v3 hf; cases hf
  | succ n ih =>
    intro b v1 v2 v3 hf
    have hf : f_X9_ends_27 (l_X9_ends_27 n ) b v1 v2 v3 = some rr := hf
    exact w_X9_ends_27 C hr hk (l_X9_ends_27 n ) ih b v1 v2 v3 hf
set_option maxRecDepth 100000 in
set_option maxHeartbeats 4000000 in
theorem w_X9_ends_10 {p : Program} {l : Launch} {e : Env} {s : State} {m : MethodId} {args : Array Value} {below : List Frame} {meth : Method} {c : Code} {G : GT} {A : Nat → Prop} {ad : Nat → Nat} (C : CX G A RX9 cX9_ends 4 p s m args c) (hr : meth.sig.returnType = none) (hk : meth.locks = false) {a : KS} {rr : MS}   (b : MS) (v1 : Int32) (s0 : Int32) (hf : f_X9_ends_10 b v1 s0 = some rr) : J p l e (RM 0) s m args below meth c G A 4 (MQ below (QV (none) (PosW G ad a rr A) A) args s 0 0 A) 0 0 ad a b 10 [(0, .ref (ad 100)), (1, .int v1)] [.int s0] := by
  unfold f_X9_ends_10 at hf
  refine j_istore_n (i := 2) (lv' := [(2, .int s0), (0, .ref (ad 100)), (1, .int v1)]) C dX9_ends_10 rfl (by decide) rfl ?_
  refine j_bipush (v := 15) C (by decide) dX9_ends_11 ?_
  refine j_istore_n (i := 3) (lv' := [(3, .int 15), (2, .int s0), (0, .ref (ad 100)), (1, .int v1)]) C dX9_ends_13 rfl (by decide) rfl ?_
  refine j_aload_n C 2 rfl dX9_ends_14 ?_
  refine j_get (q := 100) (kf := 31) (T := TX9) (N := 33) (RC := RX9) C m_100 ce_100 rfl in_X9 (by decide) (fun _ h9 => h9) fl_X9_59 rfl dX9_ends_15 ?_
  refine j_iload_n C 0 rfl dX9_ends_18 ?_
  refine j_bipush (v := 48) C (by decide) dX9_ends_19 ?_
  refine j_iload_n C 1 rfl dX9_ends_21 ?_
  refine j_bipush (v := 10) C (by decide) dX9_ends_22 ?_
  refine j_irem C (by decide) dX9_ends_24 ?_
  refine j_iadd C dX9_ends_25 ?_
  refine ast_131 C hf dX9_ends_26 (fun hf => ?_)
  refine j_sub [2, 3, 1, 0] rfl ?_
  exact wl_X9_ends_27 C hr hk FU (sMhi b 131 ((15 : Int32).toNatClampNeg) (48 + (s0 - s0 / 10 * 10))) v1 s0 15 hf
set_option maxRecDepth 100000 in
set_option maxHeartbeats 4000000 in
theorem k_X9_ends {l : Launch} {G : GT} {ad : Nat → Nat} {b : MS} {v1 : Int32} {a : KS} {rr : MS} (hf : f_X9_ends b v1 = some rr) : MT l G yX9_ends cX9_ends 4 none (RM 0) [.ref (ad 100), .int v1] ad a b (none) a rr := by
  refine MT_of (by decide) (Nat.le_of_ble_eq_true rfl) ?_
  intro p e s m args below meth c A C hr hk
  unfold f_X9_ends at hf
  refine j_iload_n C 1 rfl dX9_ends_0 ?_
  refine j_if_ge C 9 dX9_ends_1 (by decide) hf (fun y1 hf => ?_) (fun y1 hf => ?_)
  · refine j_iload_n C 1 rfl dX9_ends_9 ?_
    refine j_sub [0, 1] rfl ?_
    exact w_X9_ends_10 C hr hk b v1 v1 hf
  · refine j_iload_n C 1 rfl dX9_ends_4 ?_
    refine j_ineg C dX9_ends_5 ?_
    refine j_goto C 10 dX9_ends_6 (by decide) ?_
    refine j_sub [0, 1] rfl ?_
    exact w_X9_ends_10 C hr hk b v1 (-v1) hf
set_option maxRecDepth 100000 in
set_option maxHeartbeats 4000000 in
theorem k_X9_signOf {l : Launch} {G : GT} {ad : Nat → Nat} {b : MS} {v0 : Int32} {v1 : Int32} {a : KS} {rr : Int32} (hf : f_X9_signOf b v0 v1 = some rr) : MT l G yX9_signOf cX9_signOf 2 (some .int) (RM 0) [.int v0, .int v1] ad a b (some (.int rr)) a b := by
  refine MT_of (by decide) (Nat.le_of_ble_eq_true rfl) ?_
  intro p e s m args below meth c A C hr hk
  unfold f_X9_signOf at hf
  refine j_iload_n C 1 rfl dX9_signOf_0 ?_
  refine j_peel (v := 0) hf (fun y1 hf => ?_) (fun y1 hf => ?_)
  · subst y1
    refine j_tin (tgt := 36) C dX9_signOf_1 (by decide) (by decide) rfl (by decide) ?_
    refine j_iload_n C 0 rfl dX9_signOf_36 ?_
    refine j_if_ne C 45 dX9_signOf_37 (by decide) hf (fun y2 hf => ?_) (fun y2 hf => ?_)
    · refine j_iload_n C 0 rfl dX9_signOf_45 ?_
      refine j_iconst (v := 1) C (by decide) dX9_signOf_46 ?_
      refine j_icmp_ne C 55 dX9_signOf_47 (by decide) hf (fun y3 hf => ?_) (fun y3 hf => ?_)
      · refine j_bipush (v := 67) C (by decide) dX9_signOf_55 ?_
        obtain rfl := Option.some.inj hf
        exact j_iret C hr hk ⟨Nat.le_of_ble_eq_true rfl, Nat.le_of_ble_eq_true rfl⟩ rfl dX9_signOf_57
      · refine j_bipush (v := 78) C (by decide) dX9_signOf_50 ?_
        refine j_goto C 57 dX9_signOf_52 (by decide) ?_
        obtain rfl := Option.some.inj hf
        exact j_iret C hr hk ⟨Nat.le_of_ble_eq_true rfl, Nat.le_of_ble_eq_true rfl⟩ rfl dX9_signOf_57
    · refine j_bipush (v := 77) C (by decide) dX9_signOf_40 ?_
      refine j_goto C 57 dX9_signOf_42 (by decide) ?_
      obtain rfl := Option.some.inj hf
      exact j_iret C hr hk ⟨Nat.le_of_ble_eq_true rfl, Nat.le_of_ble_eq_true rfl⟩ rfl dX9_signOf_57
  refine j_peel (v := 1) hf (fun y4 hf => ?_) (fun y4 hf => ?_)
  · subst y4
    refine j_tin (tgt := 58) C dX9_signOf_1 (by decide) (by decide) rfl (by decide) ?_
    refine j_iload_n C 0 rfl dX9_signOf_58 ?_
    refine j_if_ne C 67 dX9_signOf_59 (by decide) hf (fun y5 hf => ?_) (fun y5 hf => ?_)
    · refine j_iload_n C 0 rfl dX9_signOf_67 ?_
      refine j_iconst (v := 1) C (by decide) dX9_signOf_68 ?_
      refine j_icmp_ne C 77 dX9_signOf_69 (by decide) hf (fun y6 hf => ?_) (fun y6 hf => ?_)
      · refine j_bipush (v := 72) C (by decide) dX9_signOf_77 ?_
        obtain rfl := Option.some.inj hf
        exact j_iret C hr hk ⟨Nat.le_of_ble_eq_true rfl, Nat.le_of_ble_eq_true rfl⟩ rfl dX9_signOf_79
      · refine j_bipush (v := 85) C (by decide) dX9_signOf_72 ?_
        refine j_goto C 79 dX9_signOf_74 (by decide) ?_
        obtain rfl := Option.some.inj hf
        exact j_iret C hr hk ⟨Nat.le_of_ble_eq_true rfl, Nat.le_of_ble_eq_true rfl⟩ rfl dX9_signOf_79
    · refine j_bipush (v := 69) C (by decide) dX9_signOf_62 ?_
      refine j_goto C 79 dX9_signOf_64 (by decide) ?_
      obtain rfl := Option.some.inj hf
      exact j_iret C hr hk ⟨Nat.le_of_ble_eq_true rfl, Nat.le_of_ble_eq_true rfl⟩ rfl dX9_signOf_79
  refine j_peel (v := 2) hf (fun y7 hf => ?_) (fun y7 hf => ?_)
  · subst y7
    refine j_tin (tgt := 80) C dX9_signOf_1 (by decide) (by decide) rfl (by decide) ?_
    refine j_iload_n C 0 rfl dX9_signOf_80 ?_
    refine j_if_ne C 89 dX9_signOf_81 (by decide) hf (fun y8 hf => ?_) (fun y8 hf => ?_)
    · refine j_iload_n C 0 rfl dX9_signOf_89 ?_
      refine j_iconst (v := 1) C (by decide) dX9_signOf_90 ?_
      refine j_icmp_ne C 99 dX9_signOf_91 (by decide) hf (fun y9 hf => ?_) (fun y9 hf => ?_)
      · refine j_bipush (v := 79) C (by decide) dX9_signOf_99 ?_
        obtain rfl := Option.some.inj hf
        exact j_iret C hr hk ⟨Nat.le_of_ble_eq_true rfl, Nat.le_of_ble_eq_true rfl⟩ rfl dX9_signOf_101
      · refine j_bipush (v := 77) C (by decide) dX9_signOf_94 ?_
        refine j_goto C 101 dX9_signOf_96 (by decide) ?_
        obtain rfl := Option.some.inj hf
        exact j_iret C hr hk ⟨Nat.le_of_ble_eq_true rfl, Nat.le_of_ble_eq_true rfl⟩ rfl dX9_signOf_101
    · refine j_bipush (v := 78) C (by decide) dX9_signOf_84 ?_
      refine j_goto C 101 dX9_signOf_86 (by decide) ?_
      obtain rfl := Option.some.inj hf
      exact j_iret C hr hk ⟨Nat.le_of_ble_eq_true rfl, Nat.le_of_ble_eq_true rfl⟩ rfl dX9_signOf_101
  refine j_peel (v := 3) hf (fun y10 hf => ?_) (fun y10 hf => ?_)
  · subst y10
    refine j_tin (tgt := 102) C dX9_signOf_1 (by decide) (by decide) rfl (by decide) ?_
    refine j_iload_n C 0 rfl dX9_signOf_102 ?_
    refine j_if_ne C 111 dX9_signOf_103 (by decide) hf (fun y11 hf => ?_) (fun y11 hf => ?_)
    · refine j_iload_n C 0 rfl dX9_signOf_111 ?_
      refine j_iconst (v := 1) C (by decide) dX9_signOf_112 ?_
      refine j_icmp_ne C 121 dX9_signOf_113 (by decide) hf (fun y12 hf => ?_) (fun y12 hf => ?_)
      · refine j_bipush (v := 73) C (by decide) dX9_signOf_121 ?_
        obtain rfl := Option.some.inj hf
        exact j_iret C hr hk ⟨Nat.le_of_ble_eq_true rfl, Nat.le_of_ble_eq_true rfl⟩ rfl dX9_signOf_123
      · refine j_bipush (v := 66) C (by decide) dX9_signOf_116 ?_
        refine j_goto C 123 dX9_signOf_118 (by decide) ?_
        obtain rfl := Option.some.inj hf
        exact j_iret C hr hk ⟨Nat.le_of_ble_eq_true rfl, Nat.le_of_ble_eq_true rfl⟩ rfl dX9_signOf_123
    · refine j_bipush (v := 85) C (by decide) dX9_signOf_106 ?_
      refine j_goto C 123 dX9_signOf_108 (by decide) ?_
      obtain rfl := Option.some.inj hf
      exact j_iret C hr hk ⟨Nat.le_of_ble_eq_true rfl, Nat.le_of_ble_eq_true rfl⟩ rfl dX9_signOf_123
  refine j_peel (v := 4) hf (fun y13 hf => ?_) (fun y13 hf => ?_)
  · subst y13
    refine j_tin (tgt := 124) C dX9_signOf_1 (by decide) (by decide) rfl (by decide) ?_
    refine j_iload_n C 0 rfl dX9_signOf_124 ?_
    refine j_iconst (v := 1) C (by decide) dX9_signOf_125 ?_
    refine j_icmp_ne C 134 dX9_signOf_126 (by decide) hf (fun y14 hf => ?_) (fun y14 hf => ?_)
    · refine j_bipush (v := 67) C (by decide) dX9_signOf_134 ?_
      obtain rfl := Option.some.inj hf
      exact j_iret C hr hk ⟨Nat.le_of_ble_eq_true rfl, Nat.le_of_ble_eq_true rfl⟩ rfl dX9_signOf_136
    · refine j_bipush (v := 69) C (by decide) dX9_signOf_129 ?_
      refine j_goto C 136 dX9_signOf_131 (by decide) ?_
      obtain rfl := Option.some.inj hf
      exact j_iret C hr hk ⟨Nat.le_of_ble_eq_true rfl, Nat.le_of_ble_eq_true rfl⟩ rfl dX9_signOf_136
  refine j_tout (tgt := 137) C dX9_signOf_1 (sw_out0_4 y1 y4 y7 y10 y13) (by decide) ?_
  refine j_iload_n C 0 rfl dX9_signOf_137 ?_
  refine j_iconst (v := 1) C (by decide) dX9_signOf_138 ?_
  refine j_icmp_ne C 147 dX9_signOf_139 (by decide) hf (fun y15 hf => ?_) (fun y15 hf => ?_)
  · refine j_bipush (v := 69) C (by decide) dX9_signOf_147 ?_
    obtain rfl := Option.some.inj hf
    exact j_iret C hr hk ⟨Nat.le_of_ble_eq_true rfl, Nat.le_of_ble_eq_true rfl⟩ rfl dX9_signOf_149
  · refine j_bipush (v := 82) C (by decide) dX9_signOf_142 ?_
    refine j_goto C 149 dX9_signOf_144 (by decide) ?_
    obtain rfl := Option.some.inj hf
    exact j_iret C hr hk ⟨Nat.le_of_ble_eq_true rfl, Nat.le_of_ble_eq_true rfl⟩ rfl dX9_signOf_149
set_option maxRecDepth 100000 in
set_option maxHeartbeats 4000000 in
theorem w_X9_names_17 {p : Program} {l : Launch} {e : Env} {s : State} {m : MethodId} {args : Array Value} {below : List Frame} {meth : Method} {c : Code} {G : GT} {A : Nat → Prop} {ad : Nat → Nat} (C : CX G A RX9 cX9_names 4 p s m args c) (hr : meth.sig.returnType = none) (hk : meth.locks = false) {a : KS} {rr : MS} (c17 : MS → Int32 → Int32 → Int32 → Option MS) (K17 : ∀ (b : MS) (v1 : Int32) (v2 : Int32) (v3 : Int32), c17 b v1 v2 v3 = some rr → J p l e (RM 1) s m args below meth c G A 4 (MQ below (QV (none) (PosW G ad a rr A) A) args s 0 0 A) 0 0 ad a b 17 [(0, .ref (ad 100)), (1, .int v1), (2, .int v2), (3, .int v3)] []) (b : MS) (v1 : Int32) (v2 : Int32) (v3 : Int32) (hf : f_X9_names_17 c17 b v1 v2 v3 = some rr) : J p l e (RM 1) s m args below meth c G A 4 (MQ below (QV (none) (PosW G ad a rr A) A) args s 0 0 A) 0 0 ad a b 17 [(0, .ref (ad 100)), (1, .int v1), (2, .int v2), (3, .int v3)] [] := by
  unfold f_X9_names_17 at hf
  refine j_iload_n C 3 rfl dX9_names_17 ?_
  refine j_iload_n C 2 rfl dX9_names_18 ?_
  refine j_icmp_ge C 44 dX9_names_19 (by decide) hf (fun y1 hf => ?_) (fun y1 hf => ?_)
  · refine j_aload_n C 0 rfl dX9_names_44 ?_
    refine j_iload_n C 1 rfl dX9_names_45 ?_
    refine j_iload_n C 2 rfl dX9_names_46 ?_
    refine j_iconst (v := 1) C (by decide) dX9_names_47 ?_
    refine j_iadd C dX9_names_48 ?_
    obtain ⟨z2, h3, hf⟩ := bnd_some hf
    refine j_callV (q := 100) (As := [.int v1, .int (v2 + 1)]) (rest := []) C (k_X9_writes h3) cw_X9_writes ml_X9_185 m_100 ce_100 rfl rfl ⟨Nat.le_of_ble_eq_true rfl, Nat.le_of_ble_eq_true rfl⟩ ⟨Nat.le_of_ble_eq_true rfl, Nat.le_of_ble_eq_true rfl⟩ rfl (Nat.le_of_ble_eq_true rfl) dX9_names_49 ?_
    obtain rfl := Option.some.inj hf
    exact j_vret C hr hk ⟨Nat.le_of_ble_eq_true rfl, Nat.le_of_ble_eq_true rfl⟩ rfl dX9_names_52
  · refine j_aload_n C 0 rfl dX9_names_22 ?_
    refine j_get (q := 100) (kf := 31) (T := TX9) (N := 33) (RC := RX9) C m_100 ce_100 rfl in_X9 (by decide) (fun _ h9 => h9) fl_X9_59 rfl dX9_names_23 ?_
    refine j_iload_n C 3 rfl dX9_names_26 ?_
    refine j_aload_n C 0 rfl dX9_names_27 ?_
    refine j_get (q := 100) (kf := 2) (T := TX9) (N := 33) (RC := RX9) C m_100 ce_100 rfl in_X9 (by decide) (fun _ h9 => h9) fl_X9_7 rfl dX9_names_28 ?_
    refine j_iload_n C 1 rfl dX9_names_31 ?_
    refine j_iald (q := 102) C m_102 ce_102 hf dX9_names_32 (fun hf => ?_)
    refine j_iload_n C 3 rfl dX9_names_33 ?_
    obtain ⟨z5, h6, hf⟩ := bnd_some hf
    refine j_callS (As := [.int (Mhi b 102 (v1.toNatClampNeg)), .int v3]) (rest := [.int v3, .ref (ad 131)]) C (k_X9_signOf h6) cw_X9_signOf ml_X9_182 rfl ⟨Nat.le_of_ble_eq_true rfl, Nat.le_of_ble_eq_true rfl⟩ ⟨Nat.le_of_ble_eq_true rfl, Nat.le_of_ble_eq_true rfl⟩ rfl (Nat.le_of_ble_eq_true rfl) dX9_names_34 ?_
    refine ast_131 C hf dX9_names_37 (fun hf => ?_)
    refine j_iinc (v := v3 + 1) (lv' := [(3, .int (v3 + 1)), (0, .ref (ad 100)), (1, .int v1), (2, .int v2)]) C 3 rfl rfl (by decide) rfl dX9_names_38 ?_
    refine j_goto C 17 dX9_names_41 (by decide) ?_
    refine j_sub [1, 2, 3, 0] rfl ?_
    exact K17 (sMhi b 131 (v3.toNatClampNeg) z5) v1 v2 (v3 + 1) hf
theorem wl_X9_names_17 {p : Program} {l : Launch} {e : Env} {s : State} {m : MethodId} {args : Array Value} {below : List Frame} {meth : Method} {c : Code} {G : GT} {A : Nat → Prop} {ad : Nat → Nat} (C : CX G A RX9 cX9_names 4 p s m args c) (hr : meth.sig.returnType = none) (hk : meth.locks = false) {a : KS} {rr : MS} (fuel : Nat)   : ∀ (b : MS) (v1 : Int32) (v2 : Int32) (v3 : Int32), l_X9_names_17 fuel  b v1 v2 v3 = some rr → J p l e (RM 1) s m args below meth c G A 4 (MQ below (QV (none) (PosW G ad a rr A) A) args s 0 0 A) 0 0 ad a b 17 [(0, .ref (ad 100)), (1, .int v1), (2, .int v2), (3, .int v3)] [] := by
  induction fuel with
  | zero => intro b v1 v2 v3 hf; cases hf
  | succ n ih =>
    intro b v1 v2 v3 hf
    have hf : f_X9_names_17 (l_X9_names_17 n ) b v1 v2 v3 = some rr := hf
    exact w_X9_names_17 C hr hk (l_X9_names_17 n ) ih b v1 v2 v3 hf
set_option maxRecDepth 100000 in
set_option maxHeartbeats 4000000 in
theorem w_X9_names_14 {p : Program} {l : Launch} {e : Env} {s : State} {m : MethodId} {args : Array Value} {below : List Frame} {meth : Method} {c : Code} {G : GT} {A : Nat → Prop} {ad : Nat → Nat} (C : CX G A RX9 cX9_names 4 p s m args c) (hr : meth.sig.returnType = none) (hk : meth.locks = false) {a : KS} {rr : MS}   (b : MS) (v1 : Int32) (s0 : Int32) (hf : f_X9_names_14 b v1 s0 = some rr) : J p l e (RM 1) s m args below meth c G A 4 (MQ below (QV (none) (PosW G ad a rr A) A) args s 0 0 A) 0 0 ad a b 14 [(0, .ref (ad 100)), (1, .int v1)] [.int s0] := by
  unfold f_X9_names_14 at hf
  refine j_istore_n (i := 2) (lv' := [(2, .int s0), (0, .ref (ad 100)), (1, .int v1)]) C dX9_names_14 rfl (by decide) rfl ?_
  refine j_iconst (v := 0) C (by decide) dX9_names_15 ?_
  refine j_istore_n (i := 3) (lv' := [(3, .int 0), (2, .int s0), (0, .ref (ad 100)), (1, .int v1)]) C dX9_names_16 rfl (by decide) rfl ?_
  refine j_sub [2, 3, 1, 0] rfl ?_
  exact wl_X9_names_17 C hr hk FU b v1 s0 0 hf
set_option maxRecDepth 100000 in
set_option maxHeartbeats 4000000 in
theorem k_X9_names {l : Launch} {G : GT} {ad : Nat → Nat} {b : MS} {v1 : Int32} {a : KS} {rr : MS} (hf : f_X9_names b v1 = some rr) : MT l G yX9_names cX9_names 4 none (RM 1) [.ref (ad 100), .int v1] ad a b (none) a rr := by
  refine MT_of (by decide) (Nat.le_of_ble_eq_true rfl) ?_
  intro p e s m args below meth c A C hr hk
  unfold f_X9_names at hf
  refine j_aload_n C 0 rfl dX9_names_0 ?_
  refine j_iload_n C 1 rfl dX9_names_1 ?_
  obtain ⟨z1, h2, hf⟩ := bnd_some hf
  refine j_callV (q := 100) (As := [.int v1]) (rest := []) C (k_X9_isMenu h2) cw_X9_isMenu ml_X9_100 m_100 ce_100 rfl rfl ⟨Nat.le_of_ble_eq_true rfl, Nat.le_of_ble_eq_true rfl⟩ ⟨Nat.le_of_ble_eq_true rfl, Nat.le_of_ble_eq_true rfl⟩ rfl (Nat.le_of_ble_eq_true rfl) dX9_names_2 ?_
  refine j_if_eq C 12 dX9_names_5 (by decide) hf (fun y4 hf => ?_) (fun y4 hf => ?_)
  · refine j_bipush (v := 6) C (by decide) dX9_names_12 ?_
    refine j_sub [0, 1] rfl ?_
    exact w_X9_names_14 C hr hk b v1 6 hf
  · refine j_iconst (v := 4) C (by decide) dX9_names_8 ?_
    refine j_goto C 14 dX9_names_9 (by decide) ?_
    refine j_sub [0, 1] rfl ?_
    exact w_X9_names_14 C hr hk b v1 4 hf
set_option maxRecDepth 100000 in
set_option maxHeartbeats 4000000 in
theorem k_X9_begins {l : Launch} {G : GT} {ad : Nat → Nat} {b : MS} {v1 : Int32} {v2 : Int32} {v3 : Int32} {v4 : Int32} {a : KS} {rr : MS} (hf : f_X9_begins b v1 v2 v3 v4 = some rr) : MT l G yX9_begins cX9_begins 5 none (RM 0) [.ref (ad 100), .int v1, .int v2, .int v3, .int v4] ad a b (none) a rr := by
  refine MT_of (by decide) (Nat.le_of_ble_eq_true rfl) ?_
  intro p e s m args below meth c A C hr hk
  unfold f_X9_begins at hf
  refine j_aload_n C 0 rfl dX9_begins_0 ?_
  refine j_get (q := 100) (kf := 31) (T := TX9) (N := 33) (RC := RX9) C m_100 ce_100 rfl in_X9 (by decide) (fun _ h9 => h9) fl_X9_59 rfl dX9_begins_1 ?_
  refine j_iconst (v := 0) C (by decide) dX9_begins_4 ?_
  refine j_iload_n C 1 rfl dX9_begins_5 ?_
  refine ast_131 C hf dX9_begins_6 (fun hf => ?_)
  refine j_aload_n C 0 rfl dX9_begins_7 ?_
  refine j_get (q := 100) (kf := 31) (T := TX9) (N := 33) (RC := RX9) C m_100 ce_100 rfl in_X9 (by decide) (fun _ h9 => h9) fl_X9_59 rfl dX9_begins_8 ?_
  refine j_iconst (v := 1) C (by decide) dX9_begins_11 ?_
  refine j_iload_n C 2 rfl dX9_begins_12 ?_
  refine ast_131 C hf dX9_begins_13 (fun hf => ?_)
  refine j_aload_n C 0 rfl dX9_begins_14 ?_
  refine j_get (q := 100) (kf := 31) (T := TX9) (N := 33) (RC := RX9) C m_100 ce_100 rfl in_X9 (by decide) (fun _ h9 => h9) fl_X9_59 rfl dX9_begins_15 ?_
  refine j_iconst (v := 2) C (by decide) dX9_begins_18 ?_
  refine j_iload_n C 3 rfl dX9_begins_19 ?_
  refine ast_131 C hf dX9_begins_20 (fun hf => ?_)
  refine j_aload_n C 0 rfl dX9_begins_21 ?_
  refine j_get (q := 100) (kf := 31) (T := TX9) (N := 33) (RC := RX9) C m_100 ce_100 rfl in_X9 (by decide) (fun _ h9 => h9) fl_X9_59 rfl dX9_begins_22 ?_
  refine j_iconst (v := 3) C (by decide) dX9_begins_25 ?_
  refine j_iload C 4 rfl dX9_begins_26 ?_
  refine ast_131 C hf dX9_begins_28 (fun hf => ?_)
  obtain rfl := Option.some.inj hf
  exact j_vret C hr hk ⟨Nat.le_of_ble_eq_true rfl, Nat.le_of_ble_eq_true rfl⟩ rfl dX9_begins_29
set_option maxRecDepth 100000 in
set_option maxHeartbeats 4000000 in
theorem w_X9_firstLine_51 {p : Program} {l : Launch} {e : Env} {s : State} {m : MethodId} {args : Array Value} {below : List Frame} {meth : Method} {c : Code} {G : GT} {A : Nat → Prop} {ad : Nat → Nat} (C : CX G A RX9 cX9_firstLine 1 p s m args c) (hr : meth.sig.returnType = none) (hk : meth.locks = false) {a : KS} {rr : MS}   (b : MS) (hf : f_X9_firstLine_51 b = some rr) : J p l e (RM 2) s m args below meth c G A 1 (MQ below (QV (none) (PosW G ad a rr A) A) args s 0 0 A) 0 0 ad a b 51 [(0, .ref (ad 100))] [] := by
  unfold f_X9_firstLine_51 at hf
  refine j_aload_n C 0 rfl dX9_firstLine_51 ?_
  refine j_aload_n C 0 rfl dX9_firstLine_52 ?_
  refine j_aload_n C 0 rfl dX9_firstLine_53 ?_
  refine j_get (q := 100) (kf := 12) (T := TX9) (N := 33) (RC := RX9) C m_100 ce_100 rfl in_X9 (by decide) (fun _ h9 => h9) fl_X9_86 rfl dX9_firstLine_54 ?_
  obtain ⟨z1, h2, hf⟩ := bnd_some hf
  refine j_callV (q := 100) (As := [.int (Mhi b 100 12)]) (rest := [.ref (ad 100)]) C (k_X9_itemAt h2) cw_X9_itemAt ml_X9_125 m_100 ce_100 rfl rfl ⟨Nat.le_of_ble_eq_true rfl, Nat.le_of_ble_eq_true rfl⟩ ⟨Nat.le_of_ble_eq_true rfl, Nat.le_of_ble_eq_true rfl⟩ rfl (Nat.le_of_ble_eq_true rfl) dX9_firstLine_57 ?_
  refine j_iconst (v := 5) C (by decide) dX9_firstLine_60 ?_
  obtain ⟨z4, h5, hf⟩ := bnd_some hf
  refine j_callV (q := 100) (As := [.int z1, .int 5]) (rest := []) C (k_X9_writes h5) cw_X9_writes ml_X9_185 m_100 ce_100 rfl rfl ⟨Nat.le_of_ble_eq_true rfl, Nat.le_of_ble_eq_true rfl⟩ ⟨Nat.le_of_ble_eq_true rfl, Nat.le_of_ble_eq_true rfl⟩ rfl (Nat.le_of_ble_eq_true rfl) dX9_firstLine_61 ?_
  obtain rfl := Option.some.inj hf
  exact j_vret C hr hk ⟨Nat.le_of_ble_eq_true rfl, Nat.le_of_ble_eq_true rfl⟩ rfl dX9_firstLine_64
set_option maxRecDepth 100000 in
set_option maxHeartbeats 4000000 in
theorem k_X9_firstLine {l : Launch} {G : GT} {ad : Nat → Nat} {b : MS} {a : KS} {rr : MS} (hf : f_X9_firstLine b = some rr) : MT l G yX9_firstLine cX9_firstLine 1 none (RM 2) [.ref (ad 100)] ad a b (none) a rr := by
  refine MT_of (by decide) (Nat.le_of_ble_eq_true rfl) ?_
  intro p e s m args below meth c A C hr hk
  unfold f_X9_firstLine at hf
  refine j_aload_n C 0 rfl dX9_firstLine_0 ?_
  refine j_get (q := 100) (kf := 10) (T := TX9) (N := 33) (RC := RX9) C m_100 ce_100 rfl in_X9 (by decide) (fun _ h9 => h9) fl_X9_83 rfl dX9_firstLine_1 ?_
  refine j_if_ne C 16 dX9_firstLine_4 (by decide) hf (fun y1 hf => ?_) (fun y1 hf => ?_)
  · refine j_aload_n C 0 rfl dX9_firstLine_16 ?_
    refine j_get (q := 100) (kf := 10) (T := TX9) (N := 33) (RC := RX9) C m_100 ce_100 rfl in_X9 (by decide) (fun _ h9 => h9) fl_X9_83 rfl dX9_firstLine_17 ?_
    refine j_iconst (v := 1) C (by decide) dX9_firstLine_20 ?_
    refine j_icmp_ne C 39 dX9_firstLine_21 (by decide) hf (fun y2 hf => ?_) (fun y2 hf => ?_)
    · refine j_aload_n C 0 rfl dX9_firstLine_39 ?_
      refine j_bipush (v := 67) C (by decide) dX9_firstLine_40 ?_
      refine j_bipush (v := 79) C (by decide) dX9_firstLine_42 ?_
      refine j_bipush (v := 68) C (by decide) dX9_firstLine_44 ?_
      refine j_bipush (v := 69) C (by decide) dX9_firstLine_46 ?_
      obtain ⟨z3, h4, hf⟩ := bnd_some hf
      refine j_callV (q := 100) (As := [.int 67, .int 79, .int 68, .int 69]) (rest := []) C (k_X9_begins h4) cw_X9_begins ml_X9_192 m_100 ce_100 rfl rfl ⟨Nat.le_of_ble_eq_true rfl, Nat.le_of_ble_eq_true rfl⟩ ⟨Nat.le_of_ble_eq_true rfl, Nat.le_of_ble_eq_true rfl⟩ rfl (Nat.le_of_ble_eq_true rfl) dX9_firstLine_48 ?_
      refine j_sub [0] rfl ?_
      exact w_X9_firstLine_51 C hr hk z3 hf
    · refine j_aload_n C 0 rfl dX9_firstLine_24 ?_
      refine j_bipush (v := 69) C (by decide) dX9_firstLine_25 ?_
      refine j_bipush (v := 68) C (by decide) dX9_firstLine_27 ?_
      refine j_bipush (v := 73) C (by decide) dX9_firstLine_29 ?_
      refine j_bipush (v := 84) C (by decide) dX9_firstLine_31 ?_
      obtain ⟨z6, h7, hf⟩ := bnd_some hf
      refine j_callV (q := 100) (As := [.int 69, .int 68, .int 73, .int 84]) (rest := []) C (k_X9_begins h7) cw_X9_begins ml_X9_192 m_100 ce_100 rfl rfl ⟨Nat.le_of_ble_eq_true rfl, Nat.le_of_ble_eq_true rfl⟩ ⟨Nat.le_of_ble_eq_true rfl, Nat.le_of_ble_eq_true rfl⟩ rfl (Nat.le_of_ble_eq_true rfl) dX9_firstLine_33 ?_
      refine j_goto C 51 dX9_firstLine_36 (by decide) ?_
      refine j_sub [0] rfl ?_
      exact w_X9_firstLine_51 C hr hk z6 hf
  · refine j_aload_n C 0 rfl dX9_firstLine_7 ?_
    refine j_aload_n C 0 rfl dX9_firstLine_8 ?_
    refine j_get (q := 100) (kf := 11) (T := TX9) (N := 33) (RC := RX9) C m_100 ce_100 rfl in_X9 (by decide) (fun _ h9 => h9) fl_X9_77 rfl dX9_firstLine_9 ?_
    obtain ⟨z9, h10, hf⟩ := bnd_some hf
    refine j_callV (q := 100) (As := [.int (Mhi b 100 11)]) (rest := []) C (k_X9_names h10) cw_X9_names ml_X9_188 m_100 ce_100 rfl rfl ⟨Nat.le_of_ble_eq_true rfl, Nat.le_of_ble_eq_true rfl⟩ ⟨Nat.le_of_ble_eq_true rfl, Nat.le_of_ble_eq_true rfl⟩ rfl (Nat.le_of_ble_eq_true rfl) dX9_firstLine_12 ?_
    obtain rfl := Option.some.inj hf
    exact j_vret C hr hk ⟨Nat.le_of_ble_eq_true rfl, Nat.le_of_ble_eq_true rfl⟩ rfl dX9_firstLine_15
set_option maxRecDepth 100000 in
set_option maxHeartbeats 4000000 in
theorem w_X9_secondLine_72 {p : Program} {l : Launch} {e : Env} {s : State} {m : MethodId} {args : Array Value} {below : List Frame} {meth : Method} {c : Code} {G : GT} {A : Nat → Prop} {ad : Nat → Nat} (C : CX G A RX9 cX9_secondLine 2 p s m args c) (hr : meth.sig.returnType = none) (hk : meth.locks = false) {a : KS} {rr : MS} (c27 : MS → Int32 → Option MS) (K27 : ∀ (b : MS) (v1 : Int32), c27 b v1 = some rr → J p l e (RM 2) s m args below meth c G A 2 (MQ below (QV (none) (PosW G ad a rr A) A) args s 0 0 A) 0 0 ad a b 27 [(0, .ref (ad 100)), (1, .int v1)] []) (b : MS) (v1 : Int32) (s1 : Int32) (s2 : Int32) (hf : f_X9_secondLine_72 c27 b v1 s1 s2 = some rr) : J p l e (RM 2) s m args below meth c G A 2 (MQ below (QV (none) (PosW G ad a rr A) A) args s 0 0 A) 0 0 ad a b 72 [(0, .ref (ad 100)), (1, .int v1)] [.int s2, .int s1, .ref (ad 131)] := by
  unfold f_X9_secondLine_72 at hf
  refine ast_131 C hf dX9_secondLine_72 (fun hf => ?_)
  refine j_iinc (v := v1 + 1) (lv' := [(1, .int (v1 + 1)), (0, .ref (ad 100))]) C 1 rfl rfl (by decide) rfl dX9_secondLine_73 ?_
  refine j_goto C 27 dX9_secondLine_76 (by decide) ?_
  refine j_sub [1, 0] rfl ?_
  exact K27 (sMhi b 131 (s1.toNatClampNeg) s2) (v1 + 1) hf
set_option maxRecDepth 100000 in
set_option maxHeartbeats 4000000 in
theorem w_X9_secondLine_27 {p : Program} {l : Launch} {e : Env} {s : State} {m : MethodId} {args : Array Value} {below : List Frame} {meth : Method} {c : Code} {G : GT} {A : Nat → Prop} {ad : Nat → Nat} (C : CX G A RX9 cX9_secondLine 2 p s m args c) (hr : meth.sig.returnType = none) (hk : meth.locks = false) {a : KS} {rr : MS} (c27 : MS → Int32 → Option MS) (K27 : ∀ (b : MS) (v1 : Int32), c27 b v1 = some rr → J p l e (RM 2) s m args below meth c G A 2 (MQ below (QV (none) (PosW G ad a rr A) A) args s 0 0 A) 0 0 ad a b 27 [(0, .ref (ad 100)), (1, .int v1)] []) (b : MS) (v1 : Int32) (hf : f_X9_secondLine_27 c27 b v1 = some rr) : J p l e (RM 2) s m args below meth c G A 2 (MQ below (QV (none) (PosW G ad a rr A) A) args s 0 0 A) 0 0 ad a b 27 [(0, .ref (ad 100)), (1, .int v1)] [] := by
  unfold f_X9_secondLine_27 at hf
  refine j_iload_n C 1 rfl dX9_secondLine_27 ?_
  refine j_iconst (v := 4) C (by decide) dX9_secondLine_28 ?_
  refine j_icmp_ge C 79 dX9_secondLine_29 (by decide) hf (fun y1 hf => ?_) (fun y1 hf => ?_)
  · obtain rfl := Option.some.inj hf
    exact j_vret C hr hk ⟨Nat.le_of_ble_eq_true rfl, Nat.le_of_ble_eq_true rfl⟩ rfl dX9_secondLine_79
  · refine j_aload_n C 0 rfl dX9_secondLine_32 ?_
    refine j_get (q := 100) (kf := 31) (T := TX9) (N := 33) (RC := RX9) C m_100 ce_100 rfl in_X9 (by decide) (fun _ h9 => h9) fl_X9_59 rfl dX9_secondLine_33 ?_
    refine j_iload_n C 1 rfl dX9_secondLine_36 ?_
    refine j_iload_n C 1 rfl dX9_secondLine_37 ?_
    refine j_aload_n C 0 rfl dX9_secondLine_38 ?_
    refine j_get (q := 100) (kf := 15) (T := TX9) (N := 33) (RC := RX9) C m_100 ce_100 rfl in_X9 (by decide) (fun _ h9 => h9) fl_X9_119 rfl dX9_secondLine_39 ?_
    refine j_icmp_ge C 50 dX9_secondLine_42 (by decide) hf (fun y2 hf => ?_) (fun y2 hf => ?_)
    · refine j_iload_n C 1 rfl dX9_secondLine_50 ?_
      refine j_aload_n C 0 rfl dX9_secondLine_51 ?_
      refine j_get (q := 100) (kf := 15) (T := TX9) (N := 33) (RC := RX9) C m_100 ce_100 rfl in_X9 (by decide) (fun _ h9 => h9) fl_X9_119 rfl dX9_secondLine_52 ?_
      refine j_icmp_le C 63 dX9_secondLine_55 (by decide) hf (fun y3 hf => ?_) (fun y3 hf => ?_)
      · refine j_bipush (v := 48) C (by decide) dX9_secondLine_63 ?_
        refine j_aload_n C 0 rfl dX9_secondLine_65 ?_
        refine j_get (q := 100) (kf := 14) (T := TX9) (N := 33) (RC := RX9) C m_100 ce_100 rfl in_X9 (by decide) (fun _ h9 => h9) fl_X9_35 rfl dX9_secondLine_66 ?_
        refine j_iload_n C 1 rfl dX9_secondLine_69 ?_
        refine j_iald (q := 114) C m_114 ce_114 hf dX9_secondLine_70 (fun hf => ?_)
        refine j_iadd C dX9_secondLine_71 ?_
        refine j_sub [0, 1] rfl ?_
        exact w_X9_secondLine_72 C hr hk c27 K27 b v1 v1 (48 + (Mhi b 114 (v1.toNatClampNeg))) hf
      · refine j_bipush (v := 45) C (by decide) dX9_secondLine_58 ?_
        refine j_goto C 72 dX9_secondLine_60 (by decide) ?_
        refine j_sub [0, 1] rfl ?_
        exact w_X9_secondLine_72 C hr hk c27 K27 b v1 v1 45 hf
    · refine j_bipush (v := 42) C (by decide) dX9_secondLine_45 ?_
      refine j_goto C 72 dX9_secondLine_47 (by decide) ?_
      refine j_sub [0, 1] rfl ?_
      exact w_X9_secondLine_72 C hr hk c27 K27 b v1 v1 42 hf
theorem wl_X9_secondLine_27 {p : Program} {l : Launch} {e : Env} {s : State} {m : MethodId} {args : Array Value} {below : List Frame} {meth : Method} {c : Code} {G : GT} {A : Nat → Prop} {ad : Nat → Nat} (C : CX G A RX9 cX9_secondLine 2 p s m args c) (hr : meth.sig.returnType = none) (hk : meth.locks = false) {a : KS} {rr : MS} (fuel : Nat)   : ∀ (b : MS) (v1 : Int32), l_X9_secondLine_27 fuel  b v1 = some rr → J p l e (RM 2) s m args below meth c G A 2 (MQ below (QV (none) (PosW G ad a rr A) A) args s 0 0 A) 0 0 ad a b 27 [(0, .ref (ad 100)), (1, .int v1)] [] := by
  induction fuel with
  | zero => intro b v1 hf; cases hf
  | succ n ih =>
    intro b v1 hf
    have hf : f_X9_secondLine_27 (l_X9_secondLine_27 n ) b v1 = some rr := hf
    exact w_X9_secondLine_27 C hr hk (l_X9_secondLine_27 n ) ih b v1 hf
set_option maxRecDepth 100000 in
set_option maxHeartbeats 4000000 in
theorem k_X9_secondLine {l : Launch} {G : GT} {ad : Nat → Nat} {b : MS} {a : KS} {rr : MS} (hf : f_X9_secondLine b = some rr) : MT l G yX9_secondLine cX9_secondLine 2 none (RM 2) [.ref (ad 100)] ad a b (none) a rr := by
  refine MT_of (by decide) (Nat.le_of_ble_eq_true rfl) ?_
  intro p e s m args below meth c A C hr hk
  unfold f_X9_secondLine at hf
  refine j_aload_n C 0 rfl dX9_secondLine_0 ?_
  refine j_get (q := 100) (kf := 10) (T := TX9) (N := 33) (RC := RX9) C m_100 ce_100 rfl in_X9 (by decide) (fun _ h9 => h9) fl_X9_83 rfl dX9_secondLine_1 ?_
  refine j_iconst (v := 1) C (by decide) dX9_secondLine_4 ?_
  refine j_icmp_ne C 17 dX9_secondLine_5 (by decide) hf (fun y1 hf => ?_) (fun y1 hf => ?_)
  · refine j_aload_n C 0 rfl dX9_secondLine_17 ?_
    refine j_get (q := 100) (kf := 10) (T := TX9) (N := 33) (RC := RX9) C m_100 ce_100 rfl in_X9 (by decide) (fun _ h9 => h9) fl_X9_83 rfl dX9_secondLine_18 ?_
    refine j_iconst (v := 2) C (by decide) dX9_secondLine_21 ?_
    refine j_icmp_ne C 80 dX9_secondLine_22 (by decide) hf (fun y2 hf => ?_) (fun y2 hf => ?_)
    · refine j_aload_n C 0 rfl dX9_secondLine_80 ?_
      refine j_aload_n C 0 rfl dX9_secondLine_81 ?_
      refine j_get (q := 100) (kf := 12) (T := TX9) (N := 33) (RC := RX9) C m_100 ce_100 rfl in_X9 (by decide) (fun _ h9 => h9) fl_X9_86 rfl dX9_secondLine_82 ?_
      obtain ⟨z3, h4, hf⟩ := bnd_some hf
      refine j_callV (q := 100) (As := [.int (Mhi b 100 12)]) (rest := []) C (k_X9_itemAt h4) cw_X9_itemAt ml_X9_125 m_100 ce_100 rfl rfl ⟨Nat.le_of_ble_eq_true rfl, Nat.le_of_ble_eq_true rfl⟩ ⟨Nat.le_of_ble_eq_true rfl, Nat.le_of_ble_eq_true rfl⟩ rfl (Nat.le_of_ble_eq_true rfl) dX9_secondLine_85 ?_
      refine j_istore_n (i := 1) (lv' := [(1, .int z3), (0, .ref (ad 100))]) C dX9_secondLine_88 rfl (by decide) rfl ?_
      refine j_iload_n C 0 rfl dX9_secondLine_89 ?_
      refine j_iconst (v := -1) C (by decide) dX9_secondLine_90 ?_
      refine j_icmp_ne C 118 dX9_secondLine_91 (by decide) hf (fun y6 hf => ?_) (fun y6 hf => ?_)
      · refine j_aload_n C 1 rfl dX9_secondLine_118 ?_
        refine j_iload_n C 0 rfl dX9_secondLine_119 ?_
        obtain ⟨z7, h8, hf⟩ := bnd_some hf
        refine j_callV (q := 100) (As := [.int z3]) (rest := []) C (k_X9_names h8) cw_X9_names ml_X9_188 m_100 ce_100 rfl rfl ⟨Nat.le_of_ble_eq_true rfl, Nat.le_of_ble_eq_true rfl⟩ ⟨Nat.le_of_ble_eq_true rfl, Nat.le_of_ble_eq_true rfl⟩ rfl (Nat.le_of_ble_eq_true rfl) dX9_secondLine_120 ?_
        refine j_aload_n C 1 rfl dX9_secondLine_123 ?_
        refine j_iload_n C 0 rfl dX9_secondLine_124 ?_
        obtain ⟨z10, h11, hf⟩ := bnd_some hf
        refine j_callV (q := 100) (As := [.int z3]) (rest := []) C (k_X9_isShut h11) cw_X9_isShut ml_X9_116 m_100 ce_100 rfl rfl ⟨Nat.le_of_ble_eq_true rfl, Nat.le_of_ble_eq_true rfl⟩ ⟨Nat.le_of_ble_eq_true rfl, Nat.le_of_ble_eq_true rfl⟩ rfl (Nat.le_of_ble_eq_true rfl) dX9_secondLine_125 ?_
        refine j_if_eq C 143 dX9_secondLine_128 (by decide) hf (fun y13 hf => ?_) (fun y13 hf => ?_)
        · refine j_aload_n C 1 rfl dX9_secondLine_143 ?_
          refine j_iload_n C 0 rfl dX9_secondLine_144 ?_
          obtain ⟨z14, h15, hf⟩ := bnd_some hf
          refine j_callV (q := 100) (As := [.int z3]) (rest := []) C (k_X9_isMenu h15) cw_X9_isMenu ml_X9_100 m_100 ce_100 rfl rfl ⟨Nat.le_of_ble_eq_true rfl, Nat.le_of_ble_eq_true rfl⟩ ⟨Nat.le_of_ble_eq_true rfl, Nat.le_of_ble_eq_true rfl⟩ rfl (Nat.le_of_ble_eq_true rfl) dX9_secondLine_145 ?_
          refine j_if_eq C 163 dX9_secondLine_148 (by decide) hf (fun y17 hf => ?_) (fun y17 hf => ?_)
          · refine j_aload_n C 1 rfl dX9_secondLine_163 ?_
            refine j_aload_n C 1 rfl dX9_secondLine_164 ?_
            refine j_get (q := 100) (kf := 7) (T := TX9) (N := 33) (RC := RX9) C m_100 ce_100 rfl in_X9 (by decide) (fun _ h9 => h9) fl_X9_25 rfl dX9_secondLine_165 ?_
            refine j_iload_n C 0 rfl dX9_secondLine_168 ?_
            refine j_iald (q := 107) C m_107 ce_107 hf dX9_secondLine_169 (fun hf => ?_)
            obtain ⟨z18, h19, hf⟩ := bnd_some hf
            refine j_callV (q := 100) (As := [.int (Mhi z7 107 (z3.toNatClampNeg))]) (rest := []) C (k_X9_ends h19) cw_X9_ends ml_X9_196 m_100 ce_100 rfl rfl ⟨Nat.le_of_ble_eq_true rfl, Nat.le_of_ble_eq_true rfl⟩ ⟨Nat.le_of_ble_eq_true rfl, Nat.le_of_ble_eq_true rfl⟩ rfl (Nat.le_of_ble_eq_true rfl) dX9_secondLine_170 ?_
            obtain rfl := Option.some.inj hf
            exact j_vret C hr hk ⟨Nat.le_of_ble_eq_true rfl, Nat.le_of_ble_eq_true rfl⟩ rfl dX9_secondLine_173
          · refine j_aload_n C 1 rfl dX9_secondLine_151 ?_
            refine j_get (q := 100) (kf := 31) (T := TX9) (N := 33) (RC := RX9) C m_100 ce_100 rfl in_X9 (by decide) (fun _ h9 => h9) fl_X9_59 rfl dX9_secondLine_152 ?_
            refine j_bipush (v := 15) C (by decide) dX9_secondLine_155 ?_
            refine j_bipush (v := 62) C (by decide) dX9_secondLine_157 ?_
            refine ast_131 C hf dX9_secondLine_159 (fun hf => ?_)
            refine j_goto C 173 dX9_secondLine_160 (by decide) ?_
            obtain rfl := Option.some.inj hf
            exact j_vret C hr hk ⟨Nat.le_of_ble_eq_true rfl, Nat.le_of_ble_eq_true rfl⟩ rfl dX9_secondLine_173
        · refine j_aload_n C 1 rfl dX9_secondLine_131 ?_
          refine j_get (q := 100) (kf := 31) (T := TX9) (N := 33) (RC := RX9) C m_100 ce_100 rfl in_X9 (by decide) (fun _ h9 => h9) fl_X9_59 rfl dX9_secondLine_132 ?_
          refine j_bipush (v := 15) C (by decide) dX9_secondLine_135 ?_
          refine j_bipush (v := 76) C (by decide) dX9_secondLine_137 ?_
          refine ast_131 C hf dX9_secondLine_139 (fun hf => ?_)
          refine j_goto C 173 dX9_secondLine_140 (by decide) ?_
          obtain rfl := Option.some.inj hf
          exact j_vret C hr hk ⟨Nat.le_of_ble_eq_true rfl, Nat.le_of_ble_eq_true rfl⟩ rfl dX9_secondLine_173
      · refine j_aload_n C 1 rfl dX9_secondLine_94 ?_
        refine j_aload_n C 1 rfl dX9_secondLine_95 ?_
        refine j_get (q := 100) (kf := 11) (T := TX9) (N := 33) (RC := RX9) C m_100 ce_100 rfl in_X9 (by decide) (fun _ h9 => h9) fl_X9_77 rfl dX9_secondLine_96 ?_
        obtain ⟨z21, h22, hf⟩ := bnd_some hf
        refine j_callV (q := 100) (As := [.int (Mhi b 100 11)]) (rest := []) C (k_X9_entries h22) cw_X9_entries ml_X9_135 m_100 ce_100 rfl rfl ⟨Nat.le_of_ble_eq_true rfl, Nat.le_of_ble_eq_true rfl⟩ ⟨Nat.le_of_ble_eq_true rfl, Nat.le_of_ble_eq_true rfl⟩ rfl (Nat.le_of_ble_eq_true rfl) dX9_secondLine_99 ?_
        refine j_if_le C 117 dX9_secondLine_102 (by decide) hf (fun y24 hf => ?_) (fun y24 hf => ?_)
        · obtain rfl := Option.some.inj hf
          exact j_vret C hr hk ⟨Nat.le_of_ble_eq_true rfl, Nat.le_of_ble_eq_true rfl⟩ rfl dX9_secondLine_117
        · refine j_aload_n C 1 rfl dX9_secondLine_105 ?_
          refine j_bipush (v := 66) C (by decide) dX9_secondLine_106 ?_
          refine j_bipush (v := 65) C (by decide) dX9_secondLine_108 ?_
          refine j_bipush (v := 67) C (by decide) dX9_secondLine_110 ?_
          refine j_bipush (v := 75) C (by decide) dX9_secondLine_112 ?_
          obtain ⟨z25, h26, hf⟩ := bnd_some hf
          refine j_callV (q := 100) (As := [.int 66, .int 65, .int 67, .int 75]) (rest := []) C (k_X9_begins h26) cw_X9_begins ml_X9_192 m_100 ce_100 rfl rfl ⟨Nat.le_of_ble_eq_true rfl, Nat.le_of_ble_eq_true rfl⟩ ⟨Nat.le_of_ble_eq_true rfl, Nat.le_of_ble_eq_true rfl⟩ rfl (Nat.le_of_ble_eq_true rfl) dX9_secondLine_114 ?_
          obtain rfl := Option.some.inj hf
          exact j_vret C hr hk ⟨Nat.le_of_ble_eq_true rfl, Nat.le_of_ble_eq_true rfl⟩ rfl dX9_secondLine_117
    · refine j_iconst (v := 0) C (by decide) dX9_secondLine_25 ?_
      refine j_istore_n (i := 1) (lv' := [(1, .int 0), (0, .ref (ad 100))]) C dX9_secondLine_26 rfl (by decide) rfl ?_
      refine j_sub [1, 0] rfl ?_
      exact wl_X9_secondLine_27 C hr hk FU b 0 hf
  · refine j_aload_n C 0 rfl dX9_secondLine_8 ?_
    refine j_aload_n C 0 rfl dX9_secondLine_9 ?_
    refine j_get (q := 100) (kf := 13) (T := TX9) (N := 33) (RC := RX9) C m_100 ce_100 rfl in_X9 (by decide) (fun _ h9 => h9) fl_X9_128 rfl dX9_secondLine_10 ?_
    obtain ⟨z28, h29, hf⟩ := bnd_some hf
    refine j_callV (q := 100) (As := [.int (Mhi b 100 13)]) (rest := []) C (k_X9_ends h29) cw_X9_ends ml_X9_196 m_100 ce_100 rfl rfl ⟨Nat.le_of_ble_eq_true rfl, Nat.le_of_ble_eq_true rfl⟩ ⟨Nat.le_of_ble_eq_true rfl, Nat.le_of_ble_eq_true rfl⟩ rfl (Nat.le_of_ble_eq_true rfl) dX9_secondLine_13 ?_
    obtain rfl := Option.some.inj hf
    exact j_vret C hr hk ⟨Nat.le_of_ble_eq_true rfl, Nat.le_of_ble_eq_true rfl⟩ rfl dX9_secondLine_16
set_option maxRecDepth 100000 in
set_option maxHeartbeats 4000000 in
theorem w_X9_lays_2 {p : Program} {l : Launch} {e : Env} {s : State} {m : MethodId} {args : Array Value} {below : List Frame} {meth : Method} {c : Code} {G : GT} {A : Nat → Prop} {ad : Nat → Nat} (C : CX G A RX9 cX9_lays 3 p s m args c) (hr : meth.sig.returnType = none) (hk : meth.locks = false) {a : KS} {rr : MS} (c2 : MS → Int32 → Int32 → Option MS) (K2 : ∀ (b : MS) (v1 : Int32) (v2 : Int32), c2 b v1 v2 = some rr → J p l e (RM 3) s m args below meth c G A 3 (MQ below (QV (none) (PosW G ad a rr A) A) args s 0 0 A) 0 0 ad a b 2 [(0, .ref (ad 100)), (1, .int v1), (2, .int v2)] []) (b : MS) (v1 : Int32) (v2 : Int32) (hf : f_X9_lays_2 c2 b v1 v2 = some rr) : J p l e (RM 3) s m args below meth c G A 3 (MQ below (QV (none) (PosW G ad a rr A) A) args s 0 0 A) 0 0 ad a b 2 [(0, .ref (ad 100)), (1, .int v1), (2, .int v2)] [] := by
  unfold f_X9_lays_2 at hf
  refine j_iload_n C 2 rfl dX9_lays_2 ?_
  refine j_bipush (v := 16) C (by decide) dX9_lays_3 ?_
  refine j_icmp_ge C 22 dX9_lays_5 (by decide) hf (fun y1 hf => ?_) (fun y1 hf => ?_)
  · refine j_iload_n C 1 rfl dX9_lays_22 ?_
    refine j_if_ne C 33 dX9_lays_23 (by decide) hf (fun y2 hf => ?_) (fun y2 hf => ?_)
    · refine j_aload_n C 0 rfl dX9_lays_33 ?_
      obtain ⟨z3, h4, hf⟩ := bnd_some hf
      refine j_callV (q := 100) (As := []) (rest := []) C (k_X9_secondLine h4) cw_X9_secondLine ml_X9_202 m_100 ce_100 rfl rfl ⟨Nat.le_of_ble_eq_true rfl, Nat.le_of_ble_eq_true rfl⟩ ⟨Nat.le_of_ble_eq_true rfl, Nat.le_of_ble_eq_true rfl⟩ rfl (Nat.le_of_ble_eq_true rfl) dX9_lays_34 ?_
      obtain rfl := Option.some.inj hf
      exact j_vret C hr hk ⟨Nat.le_of_ble_eq_true rfl, Nat.le_of_ble_eq_true rfl⟩ rfl dX9_lays_37
    · refine j_aload_n C 0 rfl dX9_lays_26 ?_
      obtain ⟨z6, h7, hf⟩ := bnd_some hf
      refine j_callV (q := 100) (As := []) (rest := []) C (k_X9_firstLine h7) cw_X9_firstLine ml_X9_199 m_100 ce_100 rfl rfl ⟨Nat.le_of_ble_eq_true rfl, Nat.le_of_ble_eq_true rfl⟩ ⟨Nat.le_of_ble_eq_true rfl, Nat.le_of_ble_eq_true rfl⟩ rfl (Nat.le_of_ble_eq_true rfl) dX9_lays_27 ?_
      refine j_goto C 37 dX9_lays_30 (by decide) ?_
      obtain rfl := Option.some.inj hf
      exact j_vret C hr hk ⟨Nat.le_of_ble_eq_true rfl, Nat.le_of_ble_eq_true rfl⟩ rfl dX9_lays_37
  · refine j_aload_n C 0 rfl dX9_lays_8 ?_
    refine j_get (q := 100) (kf := 31) (T := TX9) (N := 33) (RC := RX9) C m_100 ce_100 rfl in_X9 (by decide) (fun _ h9 => h9) fl_X9_59 rfl dX9_lays_9 ?_
    refine j_iload_n C 2 rfl dX9_lays_12 ?_
    refine j_bipush (v := 32) C (by decide) dX9_lays_13 ?_
    refine ast_131 C hf dX9_lays_15 (fun hf => ?_)
    refine j_iinc (v := v2 + 1) (lv' := [(2, .int (v2 + 1)), (0, .ref (ad 100)), (1, .int v1)]) C 2 rfl rfl (by decide) rfl dX9_lays_16 ?_
    refine j_goto C 2 dX9_lays_19 (by decide) ?_
    refine j_sub [1, 2, 0] rfl ?_
    exact K2 (sMhi b 131 (v2.toNatClampNeg) 32) v1 (v2 + 1) hf
theorem wl_X9_lays_2 {p : Program} {l : Launch} {e : Env} {s : State} {m : MethodId} {args : Array Value} {below : List Frame} {meth : Method} {c : Code} {G : GT} {A : Nat → Prop} {ad : Nat → Nat} (C : CX G A RX9 cX9_lays 3 p s m args c) (hr : meth.sig.returnType = none) (hk : meth.locks = false) {a : KS} {rr : MS} (fuel : Nat)   : ∀ (b : MS) (v1 : Int32) (v2 : Int32), l_X9_lays_2 fuel  b v1 v2 = some rr → J p l e (RM 3) s m args below meth c G A 3 (MQ below (QV (none) (PosW G ad a rr A) A) args s 0 0 A) 0 0 ad a b 2 [(0, .ref (ad 100)), (1, .int v1), (2, .int v2)] [] := by
  induction fuel with
  | zero => intro b v1 v2 hf; cases hf
  | succ n ih =>
    intro b v1 v2 hf
    have hf : f_X9_lays_2 (l_X9_lays_2 n ) b v1 v2 = some rr := hf
    exact w_X9_lays_2 C hr hk (l_X9_lays_2 n ) ih b v1 v2 hf
set_option maxRecDepth 100000 in
set_option maxHeartbeats 4000000 in
theorem k_X9_lays {l : Launch} {G : GT} {ad : Nat → Nat} {b : MS} {v1 : Int32} {a : KS} {rr : MS} (hf : f_X9_lays b v1 = some rr) : MT l G yX9_lays cX9_lays 3 none (RM 3) [.ref (ad 100), .int v1] ad a b (none) a rr := by
  refine MT_of (by decide) (Nat.le_of_ble_eq_true rfl) ?_
  intro p e s m args below meth c A C hr hk
  unfold f_X9_lays at hf
  refine j_iconst (v := 0) C (by decide) dX9_lays_0 ?_
  refine j_istore_n (i := 2) (lv' := [(2, .int 0), (0, .ref (ad 100)), (1, .int v1)]) C dX9_lays_1 rfl (by decide) rfl ?_
  refine j_sub [1, 2, 0] rfl ?_
  exact wl_X9_lays_2 C hr hk FU b v1 0 hf
set_option maxRecDepth 100000 in
set_option maxHeartbeats 4000000 in
theorem w_X9_display_25 {p : Program} {l : Launch} {e : Env} {s : State} {m : MethodId} {args : Array Value} {below : List Frame} {meth : Method} {c : Code} {G : GT} {A : Nat → Prop} {ad : Nat → Nat} (C : CX G A RX9 cX9_display 3 p s m args c) (hr : meth.sig.returnType = (some .int)) (hk : meth.locks = false) {a : KS} {rr : Int32 × MS}   (b : MS) (v1 : Int32) (v2 : Int32) (s1 : Int32) (hf : f_X9_display_25 b v1 v2 s1 = some rr) : J p l e (RM 4) s m args below meth c G A 3 (MQ below (QV (some (.int rr.1)) (PosW G ad a rr.2 A) A) args s 0 0 A) 0 0 ad a b 25 [(0, .ref (ad 100)), (1, .int v1), (2, .int v2)] [.int s1, .ref (ad 100)] := by
  unfold f_X9_display_25 at hf
  obtain ⟨z1, h2, hf⟩ := bnd_some hf
  refine j_callV (q := 100) (As := [.int s1]) (rest := []) C (k_X9_holds h2) cw_X9_holds ml_X9_109 m_100 ce_100 rfl rfl ⟨Nat.le_of_ble_eq_true rfl, Nat.le_of_ble_eq_true rfl⟩ ⟨Nat.le_of_ble_eq_true rfl, Nat.le_of_ble_eq_true rfl⟩ rfl (Nat.le_of_ble_eq_true rfl) dX9_display_25 ?_
  refine j_if_ne C 33 dX9_display_28 (by decide) hf (fun y4 hf => ?_) (fun y4 hf => ?_)
  · refine j_aload_n C 0 rfl dX9_display_33 ?_
    refine j_iload_n C 1 rfl dX9_display_34 ?_
    obtain ⟨z5, h6, hf⟩ := bnd_some hf
    refine j_callV (q := 100) (As := [.int v1]) (rest := []) C (k_X9_lays h6) cw_X9_lays ml_X9_205 m_100 ce_100 rfl rfl ⟨Nat.le_of_ble_eq_true rfl, Nat.le_of_ble_eq_true rfl⟩ ⟨Nat.le_of_ble_eq_true rfl, Nat.le_of_ble_eq_true rfl⟩ rfl (Nat.le_of_ble_eq_true rfl) dX9_display_35 ?_
    refine j_aload_n C 0 rfl dX9_display_38 ?_
    refine j_get (q := 100) (kf := 31) (T := TX9) (N := 33) (RC := RX9) C m_100 ce_100 rfl in_X9 (by decide) (fun _ h9 => h9) fl_X9_59 rfl dX9_display_39 ?_
    refine j_iload_n C 2 rfl dX9_display_42 ?_
    refine j_iald (q := 131) C m_131 ce_131 hf dX9_display_43 (fun hf => ?_)
    obtain rfl := Option.some.inj hf
    exact j_iret C hr hk ⟨Nat.le_of_ble_eq_true rfl, Nat.le_of_ble_eq_true rfl⟩ rfl dX9_display_44
  · refine j_iconst (v := 0) C (by decide) dX9_display_31 ?_
    obtain rfl := Option.some.inj hf
    exact j_iret C hr hk ⟨Nat.le_of_ble_eq_true rfl, Nat.le_of_ble_eq_true rfl⟩ rfl dX9_display_32
set_option maxRecDepth 100000 in
set_option maxHeartbeats 4000000 in
theorem w_X9_display_24 {p : Program} {l : Launch} {e : Env} {s : State} {m : MethodId} {args : Array Value} {below : List Frame} {meth : Method} {c : Code} {G : GT} {A : Nat → Prop} {ad : Nat → Nat} (C : CX G A RX9 cX9_display 3 p s m args c) (hr : meth.sig.returnType = (some .int)) (hk : meth.locks = false) {a : KS} {rr : Int32 × MS}   (b : MS) (v1 : Int32) (v2 : Int32) (hf : f_X9_display_24 b v1 v2 = some rr) : J p l e (RM 4) s m args below meth c G A 3 (MQ below (QV (some (.int rr.1)) (PosW G ad a rr.2 A) A) args s 0 0 A) 0 0 ad a b 24 [(0, .ref (ad 100)), (1, .int v1), (2, .int v2)] [.ref (ad 100)] := by
  unfold f_X9_display_24 at hf
  refine j_iconst (v := 1) C (by decide) dX9_display_24 ?_
  refine j_sub [0, 1, 2] rfl ?_
  exact w_X9_display_25 C hr hk b v1 v2 1 hf
set_option maxRecDepth 100000 in
set_option maxHeartbeats 4000000 in
theorem k_X9_display {l : Launch} {G : GT} {ad : Nat → Nat} {b : MS} {v1 : Int32} {v2 : Int32} {a : KS} {rr : Int32 × MS} (hf : f_X9_display b v1 v2 = some rr) : MT l G yX9_display cX9_display 3 (some .int) (RM 4) [.ref (ad 100), .int v1, .int v2] ad a b (some (.int rr.1)) a rr.2 := by
  refine MT_of (by decide) (Nat.le_of_ble_eq_true rfl) ?_
  intro p e s m args below meth c A C hr hk
  unfold f_X9_display at hf
  refine j_aload_n C 0 rfl dX9_display_0 ?_
  refine j_iload_n C 1 rfl dX9_display_1 ?_
  refine j_iconst (v := 0) C (by decide) dX9_display_2 ?_
  refine j_iconst (v := 1) C (by decide) dX9_display_3 ?_
  obtain ⟨z1, h2, hf⟩ := bnd_some hf
  refine j_callS (As := [.int v1, .int 0, .int 1]) (rest := [.ref (ad 100)]) C (k_X9_in h2) cw_X9_in ml_X9_69 rfl ⟨Nat.le_of_ble_eq_true rfl, Nat.le_of_ble_eq_true rfl⟩ ⟨Nat.le_of_ble_eq_true rfl, Nat.le_of_ble_eq_true rfl⟩ rfl (Nat.le_of_ble_eq_true rfl) dX9_display_4 ?_
  refine j_if_eq C 24 dX9_display_7 (by decide) hf (fun y4 hf => ?_) (fun y4 hf => ?_)
  · refine j_sub [0, 1, 2] rfl ?_
    exact w_X9_display_24 C hr hk b v1 v2 hf
  · refine j_iload_n C 2 rfl dX9_display_10 ?_
    refine j_iconst (v := 0) C (by decide) dX9_display_11 ?_
    refine j_bipush (v := 15) C (by decide) dX9_display_12 ?_
    obtain ⟨z5, h6, hf⟩ := bnd_some hf
    refine j_callS (As := [.int v2, .int 0, .int 15]) (rest := [.ref (ad 100)]) C (k_X9_in h6) cw_X9_in ml_X9_69 rfl ⟨Nat.le_of_ble_eq_true rfl, Nat.le_of_ble_eq_true rfl⟩ ⟨Nat.le_of_ble_eq_true rfl, Nat.le_of_ble_eq_true rfl⟩ rfl (Nat.le_of_ble_eq_true rfl) dX9_display_14 ?_
    refine j_if_eq C 24 dX9_display_17 (by decide) hf (fun y8 hf => ?_) (fun y8 hf => ?_)
    · refine j_sub [0, 1, 2] rfl ?_
      exact w_X9_display_24 C hr hk b v1 v2 hf
    · refine j_iconst (v := 0) C (by decide) dX9_display_20 ?_
      refine j_goto C 25 dX9_display_21 (by decide) ?_
      refine j_sub [0, 1, 2] rfl ?_
      exact w_X9_display_25 C hr hk b v1 v2 0 hf
set_option maxRecDepth 100000 in
set_option maxHeartbeats 4000000 in
theorem w_X9_events_16 {p : Program} {l : Launch} {e : Env} {s : State} {m : MethodId} {args : Array Value} {below : List Frame} {meth : Method} {c : Code} {G : GT} {A : Nat → Prop} {ad : Nat → Nat} (C : CX G A RX9 cX9_events 2 p s m args c) (hr : meth.sig.returnType = (some .int)) (hk : meth.locks = false) {a : KS} {rr : Int32 × MS}   (b : MS) (v1 : Int32) (s1 : Int32) (hf : f_X9_events_16 b v1 s1 = some rr) : J p l e (RM 1) s m args below meth c G A 2 (MQ below (QV (some (.int rr.1)) (PosW G ad a rr.2 A) A) args s 0 0 A) 0 0 ad a b 16 [(0, .ref (ad 100)), (1, .int v1)] [.int s1, .ref (ad 100)] := by
  unfold f_X9_events_16 at hf
  obtain ⟨z1, h2, hf⟩ := bnd_some hf
  refine j_callV (q := 100) (As := [.int s1]) (rest := []) C (k_X9_holds h2) cw_X9_holds ml_X9_109 m_100 ce_100 rfl rfl ⟨Nat.le_of_ble_eq_true rfl, Nat.le_of_ble_eq_true rfl⟩ ⟨Nat.le_of_ble_eq_true rfl, Nat.le_of_ble_eq_true rfl⟩ rfl (Nat.le_of_ble_eq_true rfl) dX9_events_16 ?_
  refine j_if_eq C 31 dX9_events_19 (by decide) hf (fun y4 hf => ?_) (fun y4 hf => ?_)
  · refine j_iconst (v := 0) C (by decide) dX9_events_31 ?_
    obtain rfl := Option.some.inj hf
    exact j_iret C hr hk ⟨Nat.le_of_ble_eq_true rfl, Nat.le_of_ble_eq_true rfl⟩ rfl dX9_events_32
  · refine j_aload_n C 0 rfl dX9_events_22 ?_
    refine j_get (q := 100) (kf := 20) (T := TX9) (N := 33) (RC := RX9) C m_100 ce_100 rfl in_X9 (by decide) (fun _ h9 => h9) fl_X9_41 rfl dX9_events_23 ?_
    refine j_iload_n C 1 rfl dX9_events_26 ?_
    refine j_iald (q := 120) C m_120 ce_120 hf dX9_events_27 (fun hf => ?_)
    refine j_goto C 32 dX9_events_28 (by decide) ?_
    obtain rfl := Option.some.inj hf
    exact j_iret C hr hk ⟨Nat.le_of_ble_eq_true rfl, Nat.le_of_ble_eq_true rfl⟩ rfl dX9_events_32
set_option maxRecDepth 100000 in
set_option maxHeartbeats 4000000 in
theorem k_X9_events {l : Launch} {G : GT} {ad : Nat → Nat} {b : MS} {v1 : Int32} {a : KS} {rr : Int32 × MS} (hf : f_X9_events b v1 = some rr) : MT l G yX9_events cX9_events 2 (some .int) (RM 1) [.ref (ad 100), .int v1] ad a b (some (.int rr.1)) a rr.2 := by
  refine MT_of (by decide) (Nat.le_of_ble_eq_true rfl) ?_
  intro p e s m args below meth c A C hr hk
  unfold f_X9_events at hf
  refine j_aload_n C 0 rfl dX9_events_0 ?_
  refine j_iload_n C 1 rfl dX9_events_1 ?_
  refine j_iconst (v := 0) C (by decide) dX9_events_2 ?_
  refine j_bipush (v := 7) C (by decide) dX9_events_3 ?_
  obtain ⟨z1, h2, hf⟩ := bnd_some hf
  refine j_callS (As := [.int v1, .int 0, .int 7]) (rest := [.ref (ad 100)]) C (k_X9_in h2) cw_X9_in ml_X9_69 rfl ⟨Nat.le_of_ble_eq_true rfl, Nat.le_of_ble_eq_true rfl⟩ ⟨Nat.le_of_ble_eq_true rfl, Nat.le_of_ble_eq_true rfl⟩ rfl (Nat.le_of_ble_eq_true rfl) dX9_events_5 ?_
  refine j_if_eq C 15 dX9_events_8 (by decide) hf (fun y4 hf => ?_) (fun y4 hf => ?_)
  · refine j_iconst (v := 1) C (by decide) dX9_events_15 ?_
    refine j_sub [0, 1] rfl ?_
    exact w_X9_events_16 C hr hk b v1 1 hf
  · refine j_iconst (v := 0) C (by decide) dX9_events_11 ?_
    refine j_goto C 16 dX9_events_12 (by decide) ?_
    refine j_sub [0, 1] rfl ?_
    exact w_X9_events_16 C hr hk b v1 0 hf
set_option maxRecDepth 100000 in
set_option maxHeartbeats 4000000 in
theorem w_X9_ifTurned_17 {p : Program} {l : Launch} {e : Env} {s : State} {m : MethodId} {args : Array Value} {below : List Frame} {meth : Method} {c : Code} {G : GT} {A : Nat → Prop} {ad : Nat → Nat} (C : CX G A RX9 cX9_ifTurned 2 p s m args c) (hr : meth.sig.returnType = (some .int)) (hk : meth.locks = false) {a : KS} {rr : Int32 × MS}   (b : MS) (v1 : Int32) (s1 : Int32) (hf : f_X9_ifTurned_17 b v1 s1 = some rr) : J p l e (RM 3) s m args below meth c G A 2 (MQ below (QV (some (.int rr.1)) (PosW G ad a rr.2 A) A) args s 0 0 A) 0 0 ad a b 17 [(0, .ref (ad 100)), (1, .int v1)] [.int s1, .ref (ad 100)] := by
  unfold f_X9_ifTurned_17 at hf
  obtain ⟨z1, h2, hf⟩ := bnd_some hf
  refine j_callV (q := 100) (As := [.int s1]) (rest := []) C (k_X9_holds h2) cw_X9_holds ml_X9_109 m_100 ce_100 rfl rfl ⟨Nat.le_of_ble_eq_true rfl, Nat.le_of_ble_eq_true rfl⟩ ⟨Nat.le_of_ble_eq_true rfl, Nat.le_of_ble_eq_true rfl⟩ rfl (Nat.le_of_ble_eq_true rfl) dX9_ifTurned_17 ?_
  refine j_if_eq C 31 dX9_ifTurned_20 (by decide) hf (fun y4 hf => ?_) (fun y4 hf => ?_)
  · refine j_iconst (v := 0) C (by decide) dX9_ifTurned_31 ?_
    obtain rfl := Option.some.inj hf
    exact j_iret C hr hk ⟨Nat.le_of_ble_eq_true rfl, Nat.le_of_ble_eq_true rfl⟩ rfl dX9_ifTurned_32
  · refine j_aload_n C 0 rfl dX9_ifTurned_23 ?_
    refine j_iload_n C 1 rfl dX9_ifTurned_24 ?_
    obtain ⟨z5, h6, hf⟩ := bnd_some hf
    refine j_callV (q := 100) (As := [.int v1]) (rest := []) C (k_X9_turned h6) cw_X9_turned ml_X9_138 m_100 ce_100 rfl rfl ⟨Nat.le_of_ble_eq_true rfl, Nat.le_of_ble_eq_true rfl⟩ ⟨Nat.le_of_ble_eq_true rfl, Nat.le_of_ble_eq_true rfl⟩ rfl (Nat.le_of_ble_eq_true rfl) dX9_ifTurned_25 ?_
    refine j_goto C 32 dX9_ifTurned_28 (by decide) ?_
    obtain rfl := Option.some.inj hf
    exact j_iret C hr hk ⟨Nat.le_of_ble_eq_true rfl, Nat.le_of_ble_eq_true rfl⟩ rfl dX9_ifTurned_32
set_option maxRecDepth 100000 in
set_option maxHeartbeats 4000000 in
theorem k_X9_ifTurned {l : Launch} {G : GT} {ad : Nat → Nat} {b : MS} {v1 : Int32} {a : KS} {rr : Int32 × MS} (hf : f_X9_ifTurned b v1 = some rr) : MT l G yX9_ifTurned cX9_ifTurned 2 (some .int) (RM 3) [.ref (ad 100), .int v1] ad a b (some (.int rr.1)) a rr.2 := by
  refine MT_of (by decide) (Nat.le_of_ble_eq_true rfl) ?_
  intro p e s m args below meth c A C hr hk
  unfold f_X9_ifTurned at hf
  refine j_aload_n C 0 rfl dX9_ifTurned_0 ?_
  refine j_iload_n C 1 rfl dX9_ifTurned_1 ?_
  refine j_bipush (v := -50) C (by decide) dX9_ifTurned_2 ?_
  refine j_bipush (v := 50) C (by decide) dX9_ifTurned_4 ?_
  obtain ⟨z1, h2, hf⟩ := bnd_some hf
  refine j_callS (As := [.int v1, .int (-50), .int 50]) (rest := [.ref (ad 100)]) C (k_X9_in h2) cw_X9_in ml_X9_69 rfl ⟨Nat.le_of_ble_eq_true rfl, Nat.le_of_ble_eq_true rfl⟩ ⟨Nat.le_of_ble_eq_true rfl, Nat.le_of_ble_eq_true rfl⟩ rfl (Nat.le_of_ble_eq_true rfl) dX9_ifTurned_6 ?_
  refine j_if_eq C 16 dX9_ifTurned_9 (by decide) hf (fun y4 hf => ?_) (fun y4 hf => ?_)
  · refine j_iconst (v := 1) C (by decide) dX9_ifTurned_16 ?_
    refine j_sub [0, 1] rfl ?_
    exact w_X9_ifTurned_17 C hr hk b v1 1 hf
  · refine j_iconst (v := 0) C (by decide) dX9_ifTurned_12 ?_
    refine j_goto C 17 dX9_ifTurned_13 (by decide) ?_
    refine j_sub [0, 1] rfl ?_
    exact w_X9_ifTurned_17 C hr hk b v1 0 hf
set_option maxRecDepth 100000 in
set_option maxHeartbeats 4000000 in
theorem w_X9_pressesTo_14 {p : Program} {l : Launch} {e : Env} {s : State} {m : MethodId} {args : Array Value} {below : List Frame} {meth : Method} {c : Code} {G : GT} {A : Nat → Prop} {ad : Nat → Nat} (C : CX G A RX9 cX9_pressesTo 2 p s m args c) (hr : meth.sig.returnType = (some .int)) (hk : meth.locks = false) {a : KS} {rr : Int32 × MS}   (b : MS) (v1 : Int32) (s1 : Int32) (hf : f_X9_pressesTo_14 b v1 s1 = some rr) : J p l e (RM 2) s m args below meth c G A 2 (MQ below (QV (some (.int rr.1)) (PosW G ad a rr.2 A) A) args s 0 0 A) 0 0 ad a b 14 [(0, .ref (ad 100)), (1, .int v1)] [.int s1, .ref (ad 100)] := by
  unfold f_X9_pressesTo_14 at hf
  obtain ⟨z1, h2, hf⟩ := bnd_some hf
  refine j_callV (q := 100) (As := [.int s1]) (rest := []) C (k_X9_holds h2) cw_X9_holds ml_X9_109 m_100 ce_100 rfl rfl ⟨Nat.le_of_ble_eq_true rfl, Nat.le_of_ble_eq_true rfl⟩ ⟨Nat.le_of_ble_eq_true rfl, Nat.le_of_ble_eq_true rfl⟩ rfl (Nat.le_of_ble_eq_true rfl) dX9_pressesTo_14 ?_
  refine j_if_eq C 28 dX9_pressesTo_17 (by decide) hf (fun y4 hf => ?_) (fun y4 hf => ?_)
  · refine j_iconst (v := 0) C (by decide) dX9_pressesTo_28 ?_
    obtain rfl := Option.some.inj hf
    exact j_iret C hr hk ⟨Nat.le_of_ble_eq_true rfl, Nat.le_of_ble_eq_true rfl⟩ rfl dX9_pressesTo_29
  · refine j_aload_n C 0 rfl dX9_pressesTo_20 ?_
    refine j_iload_n C 1 rfl dX9_pressesTo_21 ?_
    obtain ⟨z5, h6, hf⟩ := bnd_some hf
    refine j_callV (q := 100) (As := [.int v1]) (rest := []) C (k_X9_levelOf h6) cw_X9_levelOf ml_X9_106 m_100 ce_100 rfl rfl ⟨Nat.le_of_ble_eq_true rfl, Nat.le_of_ble_eq_true rfl⟩ ⟨Nat.le_of_ble_eq_true rfl, Nat.le_of_ble_eq_true rfl⟩ rfl (Nat.le_of_ble_eq_true rfl) dX9_pressesTo_22 ?_
    refine j_goto C 29 dX9_pressesTo_25 (by decide) ?_
    obtain rfl := Option.some.inj hf
    exact j_iret C hr hk ⟨Nat.le_of_ble_eq_true rfl, Nat.le_of_ble_eq_true rfl⟩ rfl dX9_pressesTo_29
set_option maxRecDepth 100000 in
set_option maxHeartbeats 4000000 in
theorem k_X9_pressesTo {l : Launch} {G : GT} {ad : Nat → Nat} {b : MS} {v1 : Int32} {a : KS} {rr : Int32 × MS} (hf : f_X9_pressesTo b v1 = some rr) : MT l G yX9_pressesTo cX9_pressesTo 2 (some .int) (RM 2) [.ref (ad 100), .int v1] ad a b (some (.int rr.1)) a rr.2 := by
  refine MT_of (by decide) (Nat.le_of_ble_eq_true rfl) ?_
  intro p e s m args below meth c A C hr hk
  unfold f_X9_pressesTo at hf
  refine j_aload_n C 0 rfl dX9_pressesTo_0 ?_
  refine j_aload_n C 0 rfl dX9_pressesTo_1 ?_
  refine j_iload_n C 1 rfl dX9_pressesTo_2 ?_
  obtain ⟨z1, h2, hf⟩ := bnd_some hf
  refine j_callV (q := 100) (As := [.int v1]) (rest := [.ref (ad 100)]) C (k_X9_isItem h2) cw_X9_isItem ml_X9_96 m_100 ce_100 rfl rfl ⟨Nat.le_of_ble_eq_true rfl, Nat.le_of_ble_eq_true rfl⟩ ⟨Nat.le_of_ble_eq_true rfl, Nat.le_of_ble_eq_true rfl⟩ rfl (Nat.le_of_ble_eq_true rfl) dX9_pressesTo_3 ?_
  refine j_if_eq C 13 dX9_pressesTo_6 (by decide) hf (fun y4 hf => ?_) (fun y4 hf => ?_)
  · refine j_iconst (v := 1) C (by decide) dX9_pressesTo_13 ?_
    refine j_sub [0, 1] rfl ?_
    exact w_X9_pressesTo_14 C hr hk b v1 1 hf
  · refine j_iconst (v := 0) C (by decide) dX9_pressesTo_9 ?_
    refine j_goto C 14 dX9_pressesTo_10 (by decide) ?_
    refine j_sub [0, 1] rfl ?_
    exact w_X9_pressesTo_14 C hr hk b v1 0 hf
set_option maxRecDepth 100000 in
set_option maxHeartbeats 4000000 in
theorem w_X9_detentsTo_77 {p : Program} {l : Launch} {e : Env} {s : State} {m : MethodId} {args : Array Value} {below : List Frame} {meth : Method} {c : Code} {G : GT} {A : Nat → Prop} {ad : Nat → Nat} (C : CX G A RX9 cX9_detentsTo 6 p s m args c) (hr : meth.sig.returnType = (some .int)) (hk : meth.locks = false) {a : KS} {rr : Int32 × MS} (c26 : MS → Int32 → Int32 → Option (Int32 × MS)) (K26 : ∀ (b : MS) (v2 : Int32) (v3 : Int32), c26 b v2 v3 = some rr → J p l e (RM 2) s m args below meth c G A 6 (MQ below (QV (some (.int rr.1)) (PosW G ad a rr.2 A) A) args s 0 0 A) 0 0 ad a b 26 [(0, .ref (ad 100)), (2, .int v2), (3, .int v3)] []) (b : MS) (v3 : Int32) (s0 : Int32) (s1 : Int32) (hf : f_X9_detentsTo_77 c26 b v3 s0 s1 = some rr) : J p l e (RM 2) s m args below meth c G A 6 (MQ below (QV (some (.int rr.1)) (PosW G ad a rr.2 A) A) args s 0 0 A) 0 0 ad a b 77 [(0, .ref (ad 100)), (3, .int v3)] [.int s1, .int s0] := by
  unfold f_X9_detentsTo_77 at hf
  refine j_iadd C dX9_detentsTo_77 ?_
  refine j_letI hf (fun x1 hf => ?_)
  refine j_istore_n (i := 2) (lv' := [(2, .int x1), (0, .ref (ad 100)), (3, .int v3)]) C dX9_detentsTo_78 rfl (by decide) rfl ?_
  refine j_aload_n C 1 rfl dX9_detentsTo_79 ?_
  refine j_get (q := 100) (kf := 3) (T := TX9) (N := 33) (RC := RX9) C m_100 ce_100 rfl in_X9 (by decide) (fun _ h9 => h9) fl_X9_13 rfl dX9_detentsTo_80 ?_
  refine j_iload_n C 2 rfl dX9_detentsTo_83 ?_
  refine j_iald (q := 103) C m_103 ce_103 hf dX9_detentsTo_84 (fun hf => ?_)
  refine j_letI hf (fun x2 hf => ?_)
  refine j_istore_n (i := 3) (lv' := [(3, .int x2), (2, .int x1), (0, .ref (ad 100))]) C dX9_detentsTo_85 rfl (by decide) rfl ?_
  refine j_goto C 26 dX9_detentsTo_86 (by decide) ?_
  refine j_sub [2, 1, 0] rfl ?_
  exact K26 b x1 x2 hf
set_option maxRecDepth 100000 in
set_option maxHeartbeats 4000000 in
theorem w_X9_detentsTo_75 {p : Program} {l : Launch} {e : Env} {s : State} {m : MethodId} {args : Array Value} {below : List Frame} {meth : Method} {c : Code} {G : GT} {A : Nat → Prop} {ad : Nat → Nat} (C : CX G A RX9 cX9_detentsTo 6 p s m args c) (hr : meth.sig.returnType = (some .int)) (hk : meth.locks = false) {a : KS} {rr : Int32 × MS} (c26 : MS → Int32 → Int32 → Option (Int32 × MS)) (K26 : ∀ (b : MS) (v2 : Int32) (v3 : Int32), c26 b v2 v3 = some rr → J p l e (RM 2) s m args below meth c G A 6 (MQ below (QV (some (.int rr.1)) (PosW G ad a rr.2 A) A) args s 0 0 A) 0 0 ad a b 26 [(0, .ref (ad 100)), (2, .int v2), (3, .int v3)] []) (b : MS) (v3 : Int32) (v4 : Int32) (s0 : Int32) (hf : f_X9_detentsTo_75 c26 b v3 v4 s0 = some rr) : J p l e (RM 2) s m args below meth c G A 6 (MQ below (QV (some (.int rr.1)) (PosW G ad a rr.2 A) A) args s 0 0 A) 0 0 ad a b 75 [(0, .ref (ad 100)), (3, .int v3), (4, .int v4)] [.int s0] := by
  unfold f_X9_detentsTo_75 at hf
  refine j_iload C 2 rfl dX9_detentsTo_75 ?_
  refine j_sub [0, 1] rfl ?_
  exact w_X9_detentsTo_77 C hr hk c26 K26 b v3 s0 v4 hf
set_option maxRecDepth 100000 in
set_option maxHeartbeats 4000000 in
theorem w_X9_detentsTo_26 {p : Program} {l : Launch} {e : Env} {s : State} {m : MethodId} {args : Array Value} {below : List Frame} {meth : Method} {c : Code} {G : GT} {A : Nat → Prop} {ad : Nat → Nat} (C : CX G A RX9 cX9_detentsTo 6 p s m args c) (hr : meth.sig.returnType = (some .int)) (hk : meth.locks = false) {a : KS} {rr : Int32 × MS} (c26 : MS → Int32 → Int32 → Option (Int32 × MS)) (K26 : ∀ (b : MS) (v2 : Int32) (v3 : Int32), c26 b v2 v3 = some rr → J p l e (RM 2) s m args below meth c G A 6 (MQ below (QV (some (.int rr.1)) (PosW G ad a rr.2 A) A) args s 0 0 A) 0 0 ad a b 26 [(0, .ref (ad 100)), (2, .int v2), (3, .int v3)] []) (b : MS) (v2 : Int32) (v3 : Int32) (hf : f_X9_detentsTo_26 c26 b v2 v3 = some rr) : J p l e (RM 2) s m args below meth c G A 6 (MQ below (QV (some (.int rr.1)) (PosW G ad a rr.2 A) A) args s 0 0 A) 0 0 ad a b 26 [(0, .ref (ad 100)), (2, .int v2), (3, .int v3)] [] := by
  unfold f_X9_detentsTo_26 at hf
  refine j_iload_n C 2 rfl dX9_detentsTo_26 ?_
  refine j_if_eq C 89 dX9_detentsTo_27 (by decide) hf (fun y1 hf => ?_) (fun y1 hf => ?_)
  · refine j_iload_n C 1 rfl dX9_detentsTo_89 ?_
    obtain rfl := Option.some.inj hf
    exact j_iret C hr hk ⟨Nat.le_of_ble_eq_true rfl, Nat.le_of_ble_eq_true rfl⟩ rfl dX9_detentsTo_90
  · refine j_aload_n C 0 rfl dX9_detentsTo_30 ?_
    refine j_iload_n C 2 rfl dX9_detentsTo_31 ?_
    obtain ⟨z2, h3, hf⟩ := bnd_some hf
    refine j_callV (q := 100) (As := [.int v3]) (rest := []) C (k_X9_indexOf h3) cw_X9_indexOf ml_X9_80 m_100 ce_100 rfl rfl ⟨Nat.le_of_ble_eq_true rfl, Nat.le_of_ble_eq_true rfl⟩ ⟨Nat.le_of_ble_eq_true rfl, Nat.le_of_ble_eq_true rfl⟩ rfl (Nat.le_of_ble_eq_true rfl) dX9_detentsTo_32 ?_
    refine j_istore (lv' := [(4, .int z2), (0, .ref (ad 100)), (2, .int v2), (3, .int v3)]) C dX9_detentsTo_35 (by decide) rfl ?_
    refine j_aload_n C 1 rfl dX9_detentsTo_37 ?_
    refine j_aload_n C 1 rfl dX9_detentsTo_38 ?_
    refine j_get (q := 100) (kf := 3) (T := TX9) (N := 33) (RC := RX9) C m_100 ce_100 rfl in_X9 (by decide) (fun _ h9 => h9) fl_X9_13 rfl dX9_detentsTo_39 ?_
    refine j_iload_n C 3 rfl dX9_detentsTo_42 ?_
    refine j_iald (q := 103) C m_103 ce_103 hf dX9_detentsTo_43 (fun hf => ?_)
    obtain ⟨z5, h6, hf⟩ := bnd_some hf
    refine j_callV (q := 100) (As := [.int (Mhi b 103 (v3.toNatClampNeg))]) (rest := []) C (k_X9_entries h6) cw_X9_entries ml_X9_135 m_100 ce_100 rfl rfl ⟨Nat.le_of_ble_eq_true rfl, Nat.le_of_ble_eq_true rfl⟩ ⟨Nat.le_of_ble_eq_true rfl, Nat.le_of_ble_eq_true rfl⟩ rfl (Nat.le_of_ble_eq_true rfl) dX9_detentsTo_44 ?_
    refine j_iload C 0 rfl dX9_detentsTo_47 ?_
    refine j_isub C dX9_detentsTo_49 ?_
    refine j_letI hf (fun x8 hf => ?_)
    refine j_istore (lv' := [(5, .int x8), (4, .int z2), (0, .ref (ad 100)), (2, .int v2), (3, .int v3)]) C dX9_detentsTo_50 (by decide) rfl ?_
    refine j_iload_n C 3 rfl dX9_detentsTo_52 ?_
    refine j_aload_n C 2 rfl dX9_detentsTo_53 ?_
    refine j_get (q := 100) (kf := 19) (T := TX9) (N := 33) (RC := RX9) C m_100 ce_100 rfl in_X9 (by decide) (fun _ h9 => h9) fl_X9_38 rfl dX9_detentsTo_54 ?_
    refine j_iconst (v := 2) C (by decide) dX9_detentsTo_57 ?_
    refine j_iald (q := 119) C m_119 ce_119 hf dX9_detentsTo_58 (fun hf => ?_)
    refine j_iconst (v := 1) C (by decide) dX9_detentsTo_59 ?_
    refine j_icmp_ne C 75 dX9_detentsTo_60 (by decide) hf (fun y9 hf => ?_) (fun y9 hf => ?_)
    · refine j_sub [2, 4, 1] rfl ?_
      exact w_X9_detentsTo_75 C hr hk c26 K26 b v3 z2 v2 hf
    · refine j_iload C 0 rfl dX9_detentsTo_63 ?_
      refine j_iload C 1 rfl dX9_detentsTo_65 ?_
      refine j_icmp_ge C 75 dX9_detentsTo_67 (by decide) hf (fun y10 hf => ?_) (fun y10 hf => ?_)
      · refine j_sub [2, 4, 1] rfl ?_
        exact w_X9_detentsTo_75 C hr hk c26 K26 b v3 z2 v2 hf
      · refine j_iload C 0 rfl dX9_detentsTo_70 ?_
        refine j_goto C 77 dX9_detentsTo_72 (by decide) ?_
        refine j_sub [2, 4] rfl ?_
        exact w_X9_detentsTo_77 C hr hk c26 K26 b v3 v2 x8 hf
theorem wl_X9_detentsTo_26 {p : Program} {l : Launch} {e : Env} {s : State} {m : MethodId} {args : Array Value} {below : List Frame} {meth : Method} {c : Code} {G : GT} {A : Nat → Prop} {ad : Nat → Nat} (C : CX G A RX9 cX9_detentsTo 6 p s m args c) (hr : meth.sig.returnType = (some .int)) (hk : meth.locks = false) {a : KS} {rr : Int32 × MS} (fuel : Nat)   : ∀ (b : MS) (v2 : Int32) (v3 : Int32), l_X9_detentsTo_26 fuel  b v2 v3 = some rr → J p l e (RM 2) s m args below meth c G A 6 (MQ below (QV (some (.int rr.1)) (PosW G ad a rr.2 A) A) args s 0 0 A) 0 0 ad a b 26 [(0, .ref (ad 100)), (2, .int v2), (3, .int v3)] [] := by
  induction fuel with
  | zero => intro b v2 v3 hf; cases hf
  | succ n ih =>
    intro b v2 v3 hf
    have hf : f_X9_detentsTo_26 (l_X9_detentsTo_26 n ) b v2 v3 = some rr := hf
    exact w_X9_detentsTo_26 C hr hk (l_X9_detentsTo_26 n ) ih b v2 v3 hf
set_option maxRecDepth 100000 in
set_option maxHeartbeats 4000000 in
theorem w_X9_detentsTo_14 {p : Program} {l : Launch} {e : Env} {s : State} {m : MethodId} {args : Array Value} {below : List Frame} {meth : Method} {c : Code} {G : GT} {A : Nat → Prop} {ad : Nat → Nat} (C : CX G A RX9 cX9_detentsTo 6 p s m args c) (hr : meth.sig.returnType = (some .int)) (hk : meth.locks = false) {a : KS} {rr : Int32 × MS}   (b : MS) (v1 : Int32) (s1 : Int32) (hf : f_X9_detentsTo_14 b v1 s1 = some rr) : J p l e (RM 2) s m args below meth c G A 6 (MQ below (QV (some (.int rr.1)) (PosW G ad a rr.2 A) A) args s 0 0 A) 0 0 ad a b 14 [(0, .ref (ad 100)), (1, .int v1)] [.int s1, .ref (ad 100)] := by
  unfold f_X9_detentsTo_14 at hf
  obtain ⟨z1, h2, hf⟩ := bnd_some hf
  refine j_callV (q := 100) (As := [.int s1]) (rest := []) C (k_X9_holds h2) cw_X9_holds ml_X9_109 m_100 ce_100 rfl rfl ⟨Nat.le_of_ble_eq_true rfl, Nat.le_of_ble_eq_true rfl⟩ ⟨Nat.le_of_ble_eq_true rfl, Nat.le_of_ble_eq_true rfl⟩ rfl (Nat.le_of_ble_eq_true rfl) dX9_detentsTo_14 ?_
  refine j_if_ne C 22 dX9_detentsTo_17 (by decide) hf (fun y4 hf => ?_) (fun y4 hf => ?_)
  · refine j_iconst (v := 0) C (by decide) dX9_detentsTo_22 ?_
    refine j_istore_n (i := 2) (lv' := [(2, .int 0), (0, .ref (ad 100)), (1, .int v1)]) C dX9_detentsTo_23 rfl (by decide) rfl ?_
    refine j_iload_n C 2 rfl dX9_detentsTo_24 ?_
    refine j_istore_n (i := 3) (lv' := [(3, .int v1), (2, .int 0), (0, .ref (ad 100)), (1, .int v1)]) C dX9_detentsTo_25 rfl (by decide) rfl ?_
    refine j_sub [2, 1, 0] rfl ?_
    exact wl_X9_detentsTo_26 C hr hk FU z1.2 0 v1 hf
  · refine j_iconst (v := 0) C (by decide) dX9_detentsTo_20 ?_
    obtain rfl := Option.some.inj hf
    exact j_iret C hr hk ⟨Nat.le_of_ble_eq_true rfl, Nat.le_of_ble_eq_true rfl⟩ rfl dX9_detentsTo_21
set_option maxRecDepth 100000 in
set_option maxHeartbeats 4000000 in
theorem k_X9_detentsTo {l : Launch} {G : GT} {ad : Nat → Nat} {b : MS} {v1 : Int32} {a : KS} {rr : Int32 × MS} (hf : f_X9_detentsTo b v1 = some rr) : MT l G yX9_detentsTo cX9_detentsTo 6 (some .int) (RM 2) [.ref (ad 100), .int v1] ad a b (some (.int rr.1)) a rr.2 := by
  refine MT_of (by decide) (Nat.le_of_ble_eq_true rfl) ?_
  intro p e s m args below meth c A C hr hk
  unfold f_X9_detentsTo at hf
  refine j_aload_n C 0 rfl dX9_detentsTo_0 ?_
  refine j_aload_n C 0 rfl dX9_detentsTo_1 ?_
  refine j_iload_n C 1 rfl dX9_detentsTo_2 ?_
  obtain ⟨z1, h2, hf⟩ := bnd_some hf
  refine j_callV (q := 100) (As := [.int v1]) (rest := [.ref (ad 100)]) C (k_X9_isItem h2) cw_X9_isItem ml_X9_96 m_100 ce_100 rfl rfl ⟨Nat.le_of_ble_eq_true rfl, Nat.le_of_ble_eq_true rfl⟩ ⟨Nat.le_of_ble_eq_true rfl, Nat.le_of_ble_eq_true rfl⟩ rfl (Nat.le_of_ble_eq_true rfl) dX9_detentsTo_3 ?_
  refine j_if_eq C 13 dX9_detentsTo_6 (by decide) hf (fun y4 hf => ?_) (fun y4 hf => ?_)
  · refine j_iconst (v := 1) C (by decide) dX9_detentsTo_13 ?_
    refine j_sub [0, 1] rfl ?_
    exact w_X9_detentsTo_14 C hr hk b v1 1 hf
  · refine j_iconst (v := 0) C (by decide) dX9_detentsTo_9 ?_
    refine j_goto C 14 dX9_detentsTo_10 (by decide) ?_
    refine j_sub [0, 1] rfl ?_
    exact w_X9_detentsTo_14 C hr hk b v1 0 hf
set_option maxRecDepth 100000 in
set_option maxHeartbeats 4000000 in
theorem w_X9_codesTo_45 {p : Program} {l : Launch} {e : Env} {s : State} {m : MethodId} {args : Array Value} {below : List Frame} {meth : Method} {c : Code} {G : GT} {A : Nat → Prop} {ad : Nat → Nat} (C : CX G A RX9 cX9_codesTo 4 p s m args c) (hr : meth.sig.returnType = (some .int)) (hk : meth.locks = false) {a : KS} {rr : Int32 × MS} (c26 : MS → Int32 → Int32 → Option (Int32 × MS)) (K26 : ∀ (b : MS) (v2 : Int32) (v3 : Int32), c26 b v2 v3 = some rr → J p l e (RM 2) s m args below meth c G A 4 (MQ below (QV (some (.int rr.1)) (PosW G ad a rr.2 A) A) args s 0 0 A) 0 0 ad a b 26 [(0, .ref (ad 100)), (2, .int v2), (3, .int v3)] []) (b : MS) (v3 : Int32) (s0 : Int32) (s1 : Int32) (hf : f_X9_codesTo_45 c26 b v3 s0 s1 = some rr) : J p l e (RM 2) s m args below meth c G A 4 (MQ below (QV (some (.int rr.1)) (PosW G ad a rr.2 A) A) args s 0 0 A) 0 0 ad a b 45 [(0, .ref (ad 100)), (3, .int v3)] [.int s1, .int s0] := by
  unfold f_X9_codesTo_45 at hf
  refine j_iadd C dX9_codesTo_45 ?_
  refine j_letI hf (fun x1 hf => ?_)
  refine j_istore_n (i := 2) (lv' := [(2, .int x1), (0, .ref (ad 100)), (3, .int v3)]) C dX9_codesTo_46 rfl (by decide) rfl ?_
  refine j_aload_n C 1 rfl dX9_codesTo_47 ?_
  refine j_get (q := 100) (kf := 3) (T := TX9) (N := 33) (RC := RX9) C m_100 ce_100 rfl in_X9 (by decide) (fun _ h9 => h9) fl_X9_13 rfl dX9_codesTo_48 ?_
  refine j_iload_n C 2 rfl dX9_codesTo_51 ?_
  refine j_iald (q := 103) C m_103 ce_103 hf dX9_codesTo_52 (fun hf => ?_)
  refine j_letI hf (fun x2 hf => ?_)
  refine j_istore_n (i := 3) (lv' := [(3, .int x2), (2, .int x1), (0, .ref (ad 100))]) C dX9_codesTo_53 rfl (by decide) rfl ?_
  refine j_goto C 26 dX9_codesTo_54 (by decide) ?_
  refine j_sub [2, 1, 0] rfl ?_
  exact K26 b x1 x2 hf
set_option maxRecDepth 100000 in
set_option maxHeartbeats 4000000 in
theorem w_X9_codesTo_26 {p : Program} {l : Launch} {e : Env} {s : State} {m : MethodId} {args : Array Value} {below : List Frame} {meth : Method} {c : Code} {G : GT} {A : Nat → Prop} {ad : Nat → Nat} (C : CX G A RX9 cX9_codesTo 4 p s m args c) (hr : meth.sig.returnType = (some .int)) (hk : meth.locks = false) {a : KS} {rr : Int32 × MS} (c26 : MS → Int32 → Int32 → Option (Int32 × MS)) (K26 : ∀ (b : MS) (v2 : Int32) (v3 : Int32), c26 b v2 v3 = some rr → J p l e (RM 2) s m args below meth c G A 4 (MQ below (QV (some (.int rr.1)) (PosW G ad a rr.2 A) A) args s 0 0 A) 0 0 ad a b 26 [(0, .ref (ad 100)), (2, .int v2), (3, .int v3)] []) (b : MS) (v2 : Int32) (v3 : Int32) (hf : f_X9_codesTo_26 c26 b v2 v3 = some rr) : J p l e (RM 2) s m args below meth c G A 4 (MQ below (QV (some (.int rr.1)) (PosW G ad a rr.2 A) A) args s 0 0 A) 0 0 ad a b 26 [(0, .ref (ad 100)), (2, .int v2), (3, .int v3)] [] := by
  unfold f_X9_codesTo_26 at hf
  refine j_iload_n C 2 rfl dX9_codesTo_26 ?_
  refine j_iconst (v := -1) C (by decide) dX9_codesTo_27 ?_
  refine j_icmp_eq C 57 dX9_codesTo_28 (by decide) hf (fun y1 hf => ?_) (fun y1 hf => ?_)
  · refine j_iload_n C 1 rfl dX9_codesTo_57 ?_
    obtain rfl := Option.some.inj hf
    exact j_iret C hr hk ⟨Nat.le_of_ble_eq_true rfl, Nat.le_of_ble_eq_true rfl⟩ rfl dX9_codesTo_58
  · refine j_iload_n C 1 rfl dX9_codesTo_31 ?_
    refine j_aload_n C 0 rfl dX9_codesTo_32 ?_
    refine j_iload_n C 2 rfl dX9_codesTo_33 ?_
    obtain ⟨z2, h3, hf⟩ := bnd_some hf
    refine j_callV (q := 100) (As := [.int v3]) (rest := [.int v2]) C (k_X9_isShut h3) cw_X9_isShut ml_X9_116 m_100 ce_100 rfl rfl ⟨Nat.le_of_ble_eq_true rfl, Nat.le_of_ble_eq_true rfl⟩ ⟨Nat.le_of_ble_eq_true rfl, Nat.le_of_ble_eq_true rfl⟩ rfl (Nat.le_of_ble_eq_true rfl) dX9_codesTo_34 ?_
    refine j_if_eq C 44 dX9_codesTo_37 (by decide) hf (fun y5 hf => ?_) (fun y5 hf => ?_)
    · refine j_iconst (v := 0) C (by decide) dX9_codesTo_44 ?_
      refine j_sub [0, 2] rfl ?_
      exact w_X9_codesTo_45 C hr hk c26 K26 b v3 v2 0 hf
    · refine j_iconst (v := 1) C (by decide) dX9_codesTo_40 ?_
      refine j_goto C 45 dX9_codesTo_41 (by decide) ?_
      refine j_sub [0, 2] rfl ?_
      exact w_X9_codesTo_45 C hr hk c26 K26 b v3 v2 1 hf
theorem wl_X9_codesTo_26 {p : Program} {l : Launch} {e : Env} {s : State} {m : MethodId} {args : Array Value} {below : List Frame} {meth : Method} {c : Code} {G : GT} {A : Nat → Prop} {ad : Nat → Nat} (C : CX G A RX9 cX9_codesTo 4 p s m args c) (hr : meth.sig.returnType = (some .int)) (hk : meth.locks = false) {a : KS} {rr : Int32 × MS} (fuel : Nat)   : ∀ (b : MS) (v2 : Int32) (v3 : Int32), l_X9_codesTo_26 fuel  b v2 v3 = some rr → J p l e (RM 2) s m args below meth c G A 4 (MQ below (QV (some (.int rr.1)) (PosW G ad a rr.2 A) A) args s 0 0 A) 0 0 ad a b 26 [(0, .ref (ad 100)), (2, .int v2), (3, .int v3)] [] := by
  induction fuel with
  | zero => intro b v2 v3 hf; cases hf
  | succ n ih =>
    intro b v2 v3 hf
    have hf : f_X9_codesTo_26 (l_X9_codesTo_26 n ) b v2 v3 = some rr := hf
    exact w_X9_codesTo_26 C hr hk (l_X9_codesTo_26 n ) ih b v2 v3 hf
set_option maxRecDepth 100000 in
set_option maxHeartbeats 4000000 in
theorem w_X9_codesTo_14 {p : Program} {l : Launch} {e : Env} {s : State} {m : MethodId} {args : Array Value} {below : List Frame} {meth : Method} {c : Code} {G : GT} {A : Nat → Prop} {ad : Nat → Nat} (C : CX G A RX9 cX9_codesTo 4 p s m args c) (hr : meth.sig.returnType = (some .int)) (hk : meth.locks = false) {a : KS} {rr : Int32 × MS}   (b : MS) (v1 : Int32) (s1 : Int32) (hf : f_X9_codesTo_14 b v1 s1 = some rr) : J p l e (RM 2) s m args below meth c G A 4 (MQ below (QV (some (.int rr.1)) (PosW G ad a rr.2 A) A) args s 0 0 A) 0 0 ad a b 14 [(0, .ref (ad 100)), (1, .int v1)] [.int s1, .ref (ad 100)] := by
  unfold f_X9_codesTo_14 at hf
  obtain ⟨z1, h2, hf⟩ := bnd_some hf
  refine j_callV (q := 100) (As := [.int s1]) (rest := []) C (k_X9_holds h2) cw_X9_holds ml_X9_109 m_100 ce_100 rfl rfl ⟨Nat.le_of_ble_eq_true rfl, Nat.le_of_ble_eq_true rfl⟩ ⟨Nat.le_of_ble_eq_true rfl, Nat.le_of_ble_eq_true rfl⟩ rfl (Nat.le_of_ble_eq_true rfl) dX9_codesTo_14 ?_
  refine j_if_ne C 22 dX9_codesTo_17 (by decide) hf (fun y4 hf => ?_) (fun y4 hf => ?_)
  · refine j_iconst (v := 0) C (by decide) dX9_codesTo_22 ?_
    refine j_istore_n (i := 2) (lv' := [(2, .int 0), (0, .ref (ad 100)), (1, .int v1)]) C dX9_codesTo_23 rfl (by decide) rfl ?_
    refine j_iload_n C 2 rfl dX9_codesTo_24 ?_
    refine j_istore_n (i := 3) (lv' := [(3, .int v1), (2, .int 0), (0, .ref (ad 100)), (1, .int v1)]) C dX9_codesTo_25 rfl (by decide) rfl ?_
    refine j_sub [2, 1, 0] rfl ?_
    exact wl_X9_codesTo_26 C hr hk FU z1.2 0 v1 hf
  · refine j_iconst (v := 0) C (by decide) dX9_codesTo_20 ?_
    obtain rfl := Option.some.inj hf
    exact j_iret C hr hk ⟨Nat.le_of_ble_eq_true rfl, Nat.le_of_ble_eq_true rfl⟩ rfl dX9_codesTo_21
set_option maxRecDepth 100000 in
set_option maxHeartbeats 4000000 in
theorem k_X9_codesTo {l : Launch} {G : GT} {ad : Nat → Nat} {b : MS} {v1 : Int32} {a : KS} {rr : Int32 × MS} (hf : f_X9_codesTo b v1 = some rr) : MT l G yX9_codesTo cX9_codesTo 4 (some .int) (RM 2) [.ref (ad 100), .int v1] ad a b (some (.int rr.1)) a rr.2 := by
  refine MT_of (by decide) (Nat.le_of_ble_eq_true rfl) ?_
  intro p e s m args below meth c A C hr hk
  unfold f_X9_codesTo at hf
  refine j_aload_n C 0 rfl dX9_codesTo_0 ?_
  refine j_aload_n C 0 rfl dX9_codesTo_1 ?_
  refine j_iload_n C 1 rfl dX9_codesTo_2 ?_
  obtain ⟨z1, h2, hf⟩ := bnd_some hf
  refine j_callV (q := 100) (As := [.int v1]) (rest := [.ref (ad 100)]) C (k_X9_isItem h2) cw_X9_isItem ml_X9_96 m_100 ce_100 rfl rfl ⟨Nat.le_of_ble_eq_true rfl, Nat.le_of_ble_eq_true rfl⟩ ⟨Nat.le_of_ble_eq_true rfl, Nat.le_of_ble_eq_true rfl⟩ rfl (Nat.le_of_ble_eq_true rfl) dX9_codesTo_3 ?_
  refine j_if_eq C 13 dX9_codesTo_6 (by decide) hf (fun y4 hf => ?_) (fun y4 hf => ?_)
  · refine j_iconst (v := 1) C (by decide) dX9_codesTo_13 ?_
    refine j_sub [0, 1] rfl ?_
    exact w_X9_codesTo_14 C hr hk b v1 1 hf
  · refine j_iconst (v := 0) C (by decide) dX9_codesTo_9 ?_
    refine j_goto C 14 dX9_codesTo_10 (by decide) ?_
    refine j_sub [0, 1] rfl ?_
    exact w_X9_codesTo_14 C hr hk b v1 0 hf
set_option maxRecDepth 100000 in
set_option maxHeartbeats 4000000 in
theorem w_X9_ticksLeft_109 {p : Program} {l : Launch} {e : Env} {s : State} {m : MethodId} {args : Array Value} {below : List Frame} {meth : Method} {c : Code} {G : GT} {A : Nat → Prop} {ad : Nat → Nat} (C : CX G A RX9 cX9_ticksLeft 3 p s m args c) (hr : meth.sig.returnType = (some .int)) (hk : meth.locks = false) {a : KS} {rr : Int32}   (b : MS) (hf : f_X9_ticksLeft_109 b = some rr) : J p l e (RM 2) s m args below meth c G A 3 (MQ below (QV (some (.int rr)) (PosW G ad a b A) A) args s 0 0 A) 0 0 ad a b 109 [(0, .ref (ad 100))] [] := by
  unfold f_X9_ticksLeft_109 at hf
  refine j_aload_n C 0 rfl dX9_ticksLeft_109 ?_
  refine j_get (q := 100) (kf := 19) (T := TX9) (N := 33) (RC := RX9) C m_100 ce_100 rfl in_X9 (by decide) (fun _ h9 => h9) fl_X9_38 rfl dX9_ticksLeft_110 ?_
  refine j_iconst (v := 0) C (by decide) dX9_ticksLeft_113 ?_
  refine j_iald (q := 119) C m_119 ce_119 hf dX9_ticksLeft_114 (fun hf => ?_)
  refine j_aload_n C 0 rfl dX9_ticksLeft_115 ?_
  refine j_get (q := 100) (kf := 16) (T := TX9) (N := 33) (RC := RX9) C m_100 ce_100 rfl in_X9 (by decide) (fun _ h9 => h9) fl_X9_141 rfl dX9_ticksLeft_116 ?_
  refine j_isub C dX9_ticksLeft_119 ?_
  refine j_goto C 124 dX9_ticksLeft_120 (by decide) ?_
  obtain rfl := Option.some.inj hf
  exact j_iret C hr hk ⟨Nat.le_of_ble_eq_true rfl, Nat.le_of_ble_eq_true rfl⟩ rfl dX9_ticksLeft_124
set_option maxRecDepth 100000 in
set_option maxHeartbeats 4000000 in
theorem w_X9_ticksLeft_84 {p : Program} {l : Launch} {e : Env} {s : State} {m : MethodId} {args : Array Value} {below : List Frame} {meth : Method} {c : Code} {G : GT} {A : Nat → Prop} {ad : Nat → Nat} (C : CX G A RX9 cX9_ticksLeft 3 p s m args c) (hr : meth.sig.returnType = (some .int)) (hk : meth.locks = false) {a : KS} {rr : Int32}   (b : MS) (v1 : Int32) (s0 : Int32) (hf : f_X9_ticksLeft_84 b v1 s0 = some rr) : J p l e (RM 2) s m args below meth c G A 3 (MQ below (QV (some (.int rr)) (PosW G ad a b A) A) args s 0 0 A) 0 0 ad a b 84 [(0, .ref (ad 100)), (1, .int v1)] [.int s0] := by
  unfold f_X9_ticksLeft_84 at hf
  refine j_istore_n (i := 2) (lv' := [(2, .int s0), (0, .ref (ad 100)), (1, .int v1)]) C dX9_ticksLeft_84 rfl (by decide) rfl ?_
  refine j_iload_n C 2 rfl dX9_ticksLeft_85 ?_
  refine j_if_eq C 123 dX9_ticksLeft_86 (by decide) hf (fun y1 hf => ?_) (fun y1 hf => ?_)
  · refine j_iload_n C 0 rfl dX9_ticksLeft_123 ?_
    obtain rfl := Option.some.inj hf
    exact j_iret C hr hk ⟨Nat.le_of_ble_eq_true rfl, Nat.le_of_ble_eq_true rfl⟩ rfl dX9_ticksLeft_124
  · refine j_iload_n C 0 rfl dX9_ticksLeft_89 ?_
    refine j_iconst (v := -1) C (by decide) dX9_ticksLeft_90 ?_
    refine j_icmp_eq C 109 dX9_ticksLeft_91 (by decide) hf (fun y2 hf => ?_) (fun y2 hf => ?_)
    · refine j_sub [1] rfl ?_
      exact w_X9_ticksLeft_109 C hr hk b hf
    · refine j_aload_n C 1 rfl dX9_ticksLeft_94 ?_
      refine j_get (q := 100) (kf := 19) (T := TX9) (N := 33) (RC := RX9) C m_100 ce_100 rfl in_X9 (by decide) (fun _ h9 => h9) fl_X9_38 rfl dX9_ticksLeft_95 ?_
      refine j_iconst (v := 0) C (by decide) dX9_ticksLeft_98 ?_
      refine j_iald (q := 119) C m_119 ce_119 hf dX9_ticksLeft_99 (fun hf => ?_)
      refine j_aload_n C 1 rfl dX9_ticksLeft_100 ?_
      refine j_get (q := 100) (kf := 16) (T := TX9) (N := 33) (RC := RX9) C m_100 ce_100 rfl in_X9 (by decide) (fun _ h9 => h9) fl_X9_141 rfl dX9_ticksLeft_101 ?_
      refine j_isub C dX9_ticksLeft_104 ?_
      refine j_iload_n C 0 rfl dX9_ticksLeft_105 ?_
      refine j_icmp_ge C 123 dX9_ticksLeft_106 (by decide) hf (fun y3 hf => ?_) (fun y3 hf => ?_)
      · refine j_iload_n C 0 rfl dX9_ticksLeft_123 ?_
        obtain rfl := Option.some.inj hf
        exact j_iret C hr hk ⟨Nat.le_of_ble_eq_true rfl, Nat.le_of_ble_eq_true rfl⟩ rfl dX9_ticksLeft_124
      · refine j_sub [1] rfl ?_
        exact w_X9_ticksLeft_109 C hr hk b hf
set_option maxRecDepth 100000 in
set_option maxHeartbeats 4000000 in
theorem w_X9_ticksLeft_55 {p : Program} {l : Launch} {e : Env} {s : State} {m : MethodId} {args : Array Value} {below : List Frame} {meth : Method} {c : Code} {G : GT} {A : Nat → Prop} {ad : Nat → Nat} (C : CX G A RX9 cX9_ticksLeft 3 p s m args c) (hr : meth.sig.returnType = (some .int)) (hk : meth.locks = false) {a : KS} {rr : Int32}   (b : MS) (s0 : Int32) (hf : f_X9_ticksLeft_55 b s0 = some rr) : J p l e (RM 2) s m args below meth c G A 3 (MQ below (QV (some (.int rr)) (PosW G ad a b A) A) args s 0 0 A) 0 0 ad a b 55 [(0, .ref (ad 100))] [.int s0] := by
  unfold f_X9_ticksLeft_55 at hf
  refine j_istore_n (i := 1) (lv' := [(1, .int s0), (0, .ref (ad 100))]) C dX9_ticksLeft_55 rfl (by decide) rfl ?_
  refine j_aload_n C 1 rfl dX9_ticksLeft_56 ?_
  refine j_get (q := 100) (kf := 16) (T := TX9) (N := 33) (RC := RX9) C m_100 ce_100 rfl in_X9 (by decide) (fun _ h9 => h9) fl_X9_141 rfl dX9_ticksLeft_57 ?_
  refine j_aload_n C 1 rfl dX9_ticksLeft_60 ?_
  refine j_get (q := 100) (kf := 19) (T := TX9) (N := 33) (RC := RX9) C m_100 ce_100 rfl in_X9 (by decide) (fun _ h9 => h9) fl_X9_38 rfl dX9_ticksLeft_61 ?_
  refine j_iconst (v := 1) C (by decide) dX9_ticksLeft_64 ?_
  refine j_iald (q := 119) C m_119 ce_119 hf dX9_ticksLeft_65 (fun hf => ?_)
  refine j_icmp_ge C 83 dX9_ticksLeft_66 (by decide) hf (fun y1 hf => ?_) (fun y1 hf => ?_)
  · refine j_iconst (v := -1) C (by decide) dX9_ticksLeft_83 ?_
    refine j_sub [1, 0] rfl ?_
    exact w_X9_ticksLeft_84 C hr hk b s0 (-1) hf
  · refine j_aload_n C 1 rfl dX9_ticksLeft_69 ?_
    refine j_get (q := 100) (kf := 19) (T := TX9) (N := 33) (RC := RX9) C m_100 ce_100 rfl in_X9 (by decide) (fun _ h9 => h9) fl_X9_38 rfl dX9_ticksLeft_70 ?_
    refine j_iconst (v := 1) C (by decide) dX9_ticksLeft_73 ?_
    refine j_iald (q := 119) C m_119 ce_119 hf dX9_ticksLeft_74 (fun hf => ?_)
    refine j_aload_n C 1 rfl dX9_ticksLeft_75 ?_
    refine j_get (q := 100) (kf := 16) (T := TX9) (N := 33) (RC := RX9) C m_100 ce_100 rfl in_X9 (by decide) (fun _ h9 => h9) fl_X9_141 rfl dX9_ticksLeft_76 ?_
    refine j_isub C dX9_ticksLeft_79 ?_
    refine j_goto C 84 dX9_ticksLeft_80 (by decide) ?_
    refine j_sub [1, 0] rfl ?_
    exact w_X9_ticksLeft_84 C hr hk b s0 ((Mhi b 119 ((1 : Int32).toNatClampNeg)) - (Mhi b 100 16)) hf
set_option maxRecDepth 100000 in
set_option maxHeartbeats 4000000 in
theorem w_X9_ticksLeft_54 {p : Program} {l : Launch} {e : Env} {s : State} {m : MethodId} {args : Array Value} {below : List Frame} {meth : Method} {c : Code} {G : GT} {A : Nat → Prop} {ad : Nat → Nat} (C : CX G A RX9 cX9_ticksLeft 3 p s m args c) (hr : meth.sig.returnType = (some .int)) (hk : meth.locks = false) {a : KS} {rr : Int32}   (b : MS) (hf : f_X9_ticksLeft_54 b = some rr) : J p l e (RM 2) s m args below meth c G A 3 (MQ below (QV (some (.int rr)) (PosW G ad a b A) A) args s 0 0 A) 0 0 ad a b 54 [(0, .ref (ad 100))] [] := by
  unfold f_X9_ticksLeft_54 at hf
  refine j_iconst (v := 0) C (by decide) dX9_ticksLeft_54 ?_
  refine j_sub [0] rfl ?_
  exact w_X9_ticksLeft_55 C hr hk b 0 hf
set_option maxRecDepth 100000 in
set_option maxHeartbeats 4000000 in
theorem k_X9_ticksLeft {l : Launch} {G : GT} {ad : Nat → Nat} {b : MS} {a : KS} {rr : Int32} (hf : f_X9_ticksLeft b = some rr) : MT l G yX9_ticksLeft cX9_ticksLeft 3 (some .int) (RM 2) [.ref (ad 100)] ad a b (some (.int rr)) a b := by
  refine MT_of (by decide) (Nat.le_of_ble_eq_true rfl) ?_
  intro p e s m args below meth c A C hr hk
  unfold f_X9_ticksLeft at hf
  refine j_aload_n C 0 rfl dX9_ticksLeft_0 ?_
  obtain ⟨z1, h2, hf⟩ := bnd_some hf
  refine j_callV (q := 100) (As := []) (rest := []) C (k_X9_home h2) cw_X9_home ml_X9_93 m_100 ce_100 rfl rfl ⟨Nat.le_of_ble_eq_true rfl, Nat.le_of_ble_eq_true rfl⟩ ⟨Nat.le_of_ble_eq_true rfl, Nat.le_of_ble_eq_true rfl⟩ rfl (Nat.le_of_ble_eq_true rfl) dX9_ticksLeft_1 ?_
  refine j_if_eq C 9 dX9_ticksLeft_4 (by decide) hf (fun y4 hf => ?_) (fun y4 hf => ?_)
  · refine j_aload_n C 0 rfl dX9_ticksLeft_9 ?_
    refine j_get (q := 100) (kf := 10) (T := TX9) (N := 33) (RC := RX9) C m_100 ce_100 rfl in_X9 (by decide) (fun _ h9 => h9) fl_X9_83 rfl dX9_ticksLeft_10 ?_
    refine j_if_eq C 54 dX9_ticksLeft_13 (by decide) hf (fun y5 hf => ?_) (fun y5 hf => ?_)
    · refine j_sub [0] rfl ?_
      exact w_X9_ticksLeft_54 C hr hk b hf
    · refine j_aload_n C 0 rfl dX9_ticksLeft_16 ?_
      refine j_get (q := 100) (kf := 11) (T := TX9) (N := 33) (RC := RX9) C m_100 ce_100 rfl in_X9 (by decide) (fun _ h9 => h9) fl_X9_77 rfl dX9_ticksLeft_17 ?_
      refine j_if_ne C 54 dX9_ticksLeft_20 (by decide) hf (fun y6 hf => ?_) (fun y6 hf => ?_)
      · refine j_sub [0] rfl ?_
        exact w_X9_ticksLeft_54 C hr hk b hf
      · refine j_aload_n C 0 rfl dX9_ticksLeft_23 ?_
        refine j_get (q := 100) (kf := 12) (T := TX9) (N := 33) (RC := RX9) C m_100 ce_100 rfl in_X9 (by decide) (fun _ h9 => h9) fl_X9_86 rfl dX9_ticksLeft_24 ?_
        refine j_if_ne C 54 dX9_ticksLeft_27 (by decide) hf (fun y7 hf => ?_) (fun y7 hf => ?_)
        · refine j_sub [0] rfl ?_
          exact w_X9_ticksLeft_54 C hr hk b hf
        · refine j_aload_n C 0 rfl dX9_ticksLeft_30 ?_
          obtain ⟨z8, h9, hf⟩ := bnd_some hf
          refine j_callV (q := 100) (As := []) (rest := []) C (k_X9_anyOpen h9) cw_X9_anyOpen ml_X9_89 m_100 ce_100 rfl rfl ⟨Nat.le_of_ble_eq_true rfl, Nat.le_of_ble_eq_true rfl⟩ ⟨Nat.le_of_ble_eq_true rfl, Nat.le_of_ble_eq_true rfl⟩ rfl (Nat.le_of_ble_eq_true rfl) dX9_ticksLeft_31 ?_
          refine j_if_ne C 54 dX9_ticksLeft_34 (by decide) hf (fun y11 hf => ?_) (fun y11 hf => ?_)
          · refine j_sub [0] rfl ?_
            exact w_X9_ticksLeft_54 C hr hk b hf
          · refine j_aload_n C 0 rfl dX9_ticksLeft_37 ?_
            refine j_get (q := 100) (kf := 16) (T := TX9) (N := 33) (RC := RX9) C m_100 ce_100 rfl in_X9 (by decide) (fun _ h9 => h9) fl_X9_141 rfl dX9_ticksLeft_38 ?_
            refine j_aload_n C 0 rfl dX9_ticksLeft_41 ?_
            refine j_get (q := 100) (kf := 19) (T := TX9) (N := 33) (RC := RX9) C m_100 ce_100 rfl in_X9 (by decide) (fun _ h9 => h9) fl_X9_38 rfl dX9_ticksLeft_42 ?_
            refine j_iconst (v := 0) C (by decide) dX9_ticksLeft_45 ?_
            refine j_iald (q := 119) C m_119 ce_119 hf dX9_ticksLeft_46 (fun hf => ?_)
            refine j_icmp_ge C 54 dX9_ticksLeft_47 (by decide) hf (fun y12 hf => ?_) (fun y12 hf => ?_)
            · refine j_sub [0] rfl ?_
              exact w_X9_ticksLeft_54 C hr hk b hf
            · refine j_iconst (v := 1) C (by decide) dX9_ticksLeft_50 ?_
              refine j_goto C 55 dX9_ticksLeft_51 (by decide) ?_
              refine j_sub [0] rfl ?_
              exact w_X9_ticksLeft_55 C hr hk b 1 hf
  · refine j_iconst (v := 0) C (by decide) dX9_ticksLeft_7 ?_
    obtain rfl := Option.some.inj hf
    exact j_iret C hr hk ⟨Nat.le_of_ble_eq_true rfl, Nat.le_of_ble_eq_true rfl⟩ rfl dX9_ticksLeft_8
set_option maxRecDepth 100000 in
set_option maxHeartbeats 4000000 in
theorem k_X9_ticksToHome {l : Launch} {G : GT} {ad : Nat → Nat} {b : MS} {a : KS} {rr : Int32 × MS} (hf : f_X9_ticksToHome b = some rr) : MT l G yX9_ticksToHome cX9_ticksToHome 1 (some .int) (RM 3) [.ref (ad 100)] ad a b (some (.int rr.1)) a rr.2 := by
  refine MT_of (by decide) (Nat.le_of_ble_eq_true rfl) ?_
  intro p e s m args below meth c A C hr hk
  unfold f_X9_ticksToHome at hf
  refine j_aload_n C 0 rfl dX9_ticksToHome_0 ?_
  refine j_iconst (v := 0) C (by decide) dX9_ticksToHome_1 ?_
  refine put_X9_0 C fl_X9_66 rfl rfl dX9_ticksToHome_2 ?_
  refine j_aload_n C 0 rfl dX9_ticksToHome_5 ?_
  obtain ⟨z1, h2, hf⟩ := bnd_some hf
  refine j_callV (q := 100) (As := []) (rest := []) C (k_X9_ticksLeft h2) cw_X9_ticksLeft ml_X9_208 m_100 ce_100 rfl rfl ⟨Nat.le_of_ble_eq_true rfl, Nat.le_of_ble_eq_true rfl⟩ ⟨Nat.le_of_ble_eq_true rfl, Nat.le_of_ble_eq_true rfl⟩ rfl (Nat.le_of_ble_eq_true rfl) dX9_ticksToHome_6 ?_
  obtain rfl := Option.some.inj hf
  exact j_iret C hr hk ⟨Nat.le_of_ble_eq_true rfl, Nat.le_of_ble_eq_true rfl⟩ rfl dX9_ticksToHome_9
set_option maxRecDepth 100000 in
set_option maxHeartbeats 4000000 in
theorem w_X9_share_79 {p : Program} {l : Launch} {e : Env} {s : State} {m : MethodId} {args : Array Value} {below : List Frame} {meth : Method} {c : Code} {G : GT} {A : Nat → Prop} {ad : Nat → Nat} (C : CX G A RX9 cX9_share 5 p s m args c) (hr : meth.sig.returnType = (some .double)) (hk : meth.locks = false) {a : KS} {rr : UInt64} (c6 : MS → Int32 → Int32 → Int32 → Option UInt64) (K6 : ∀ (b : MS) (v1 : Int32) (v2 : Int32) (v3 : Int32), c6 b v1 v2 v3 = some rr → J p l e (RM 0) s m args below meth c G A 5 (MQ below (QV (some (.double rr)) (PosW G ad a b A) A) args s 0 0 A) 0 0 ad a b 6 [(0, .ref (ad 100)), (1, .int v1), (2, .int v2), (3, .int v3)] []) (b : MS) (v1 : Int32) (v3 : Int32) (s0 : Int32) (s1 : Int32) (hf : f_X9_share_79 c6 b v1 v3 s0 s1 = some rr) : J p l e (RM 0) s m args below meth c G A 5 (MQ below (QV (some (.double rr)) (PosW G ad a b A) A) args s 0 0 A) 0 0 ad a b 79 [(0, .ref (ad 100)), (1, .int v1), (3, .int v3)] [.int s1, .int s0] := by
  unfold f_X9_share_79 at hf
  refine j_iadd C dX9_share_79 ?_
  refine j_letI hf (fun x1 hf => ?_)
  refine j_istore_n (i := 2) (lv' := [(2, .int x1), (0, .ref (ad 100)), (1, .int v1), (3, .int v3)]) C dX9_share_80 rfl (by decide) rfl ?_
  refine j_iinc (v := v3 + 1) (lv' := [(3, .int (v3 + 1)), (2, .int x1), (0, .ref (ad 100)), (1, .int v1)]) C 3 rfl rfl (by decide) rfl dX9_share_81 ?_
  refine j_goto C 6 dX9_share_84 (by decide) ?_
  refine j_sub [2, 3, 1, 0] rfl ?_
  exact K6 b v1 x1 (v3 + 1) hf
set_option maxRecDepth 100000 in
set_option maxHeartbeats 4000000 in
theorem w_X9_share_54 {p : Program} {l : Launch} {e : Env} {s : State} {m : MethodId} {args : Array Value} {below : List Frame} {meth : Method} {c : Code} {G : GT} {A : Nat → Prop} {ad : Nat → Nat} (C : CX G A RX9 cX9_share 5 p s m args c) (hr : meth.sig.returnType = (some .double)) (hk : meth.locks = false) {a : KS} {rr : UInt64} (c6 : MS → Int32 → Int32 → Int32 → Option UInt64) (K6 : ∀ (b : MS) (v1 : Int32) (v2 : Int32) (v3 : Int32), c6 b v1 v2 v3 = some rr → J p l e (RM 0) s m args below meth c G A 5 (MQ below (QV (some (.double rr)) (PosW G ad a b A) A) args s 0 0 A) 0 0 ad a b 6 [(0, .ref (ad 100)), (1, .int v1), (2, .int v2), (3, .int v3)] []) (b : MS) (v2 : Int32) (v3 : Int32) (v4 : Int32) (s0 : Int32) (s1 : Int32) (hf : f_X9_share_54 c6 b v2 v3 v4 s0 s1 = some rr) : J p l e (RM 0) s m args below meth c G A 5 (MQ below (QV (some (.double rr)) (PosW G ad a b A) A) args s 0 0 A) 0 0 ad a b 54 [(0, .ref (ad 100)), (2, .int v2), (3, .int v3), (4, .int v4)] [.int s1, .int s0] := by
  unfold f_X9_share_54 at hf
  refine j_iadd C dX9_share_54 ?_
  refine j_letI hf (fun x1 hf => ?_)
  refine j_istore_n (i := 1) (lv' := [(1, .int x1), (0, .ref (ad 100)), (2, .int v2), (3, .int v3), (4, .int v4)]) C dX9_share_55 rfl (by decide) rfl ?_
  refine j_iload_n C 2 rfl dX9_share_56 ?_
  refine j_iload C 4 rfl dX9_share_57 ?_
  refine j_if_eq C 78 dX9_share_59 (by decide) hf (fun y2 hf => ?_) (fun y2 hf => ?_)
  · refine j_iconst (v := 0) C (by decide) dX9_share_78 ?_
    refine j_sub [1, 0, 3] rfl ?_
    exact w_X9_share_79 C hr hk c6 K6 b x1 v3 v2 0 hf
  · refine j_aload_n C 1 rfl dX9_share_62 ?_
    refine j_get (q := 100) (kf := 5) (T := TX9) (N := 33) (RC := RX9) C m_100 ce_100 rfl in_X9 (by decide) (fun _ h9 => h9) fl_X9_19 rfl dX9_share_63 ?_
    refine j_iload_n C 3 rfl dX9_share_66 ?_
    refine j_iald (q := 105) C m_105 ce_105 hf dX9_share_67 (fun hf => ?_)
    refine j_aload_n C 1 rfl dX9_share_68 ?_
    refine j_get (q := 100) (kf := 4) (T := TX9) (N := 33) (RC := RX9) C m_100 ce_100 rfl in_X9 (by decide) (fun _ h9 => h9) fl_X9_16 rfl dX9_share_69 ?_
    refine j_iload_n C 3 rfl dX9_share_72 ?_
    refine j_iald (q := 104) C m_104 ce_104 hf dX9_share_73 (fun hf => ?_)
    refine j_isub C dX9_share_74 ?_
    refine j_goto C 79 dX9_share_75 (by decide) ?_
    refine j_sub [1, 0, 3] rfl ?_
    exact w_X9_share_79 C hr hk c6 K6 b x1 v3 v2 ((Mhi b 105 (v3.toNatClampNeg)) - (Mhi b 104 (v3.toNatClampNeg))) hf
set_option maxRecDepth 100000 in
set_option maxHeartbeats 4000000 in
theorem w_X9_share_29 {p : Program} {l : Launch} {e : Env} {s : State} {m : MethodId} {args : Array Value} {below : List Frame} {meth : Method} {c : Code} {G : GT} {A : Nat → Prop} {ad : Nat → Nat} (C : CX G A RX9 cX9_share 5 p s m args c) (hr : meth.sig.returnType = (some .double)) (hk : meth.locks = false) {a : KS} {rr : UInt64} (c6 : MS → Int32 → Int32 → Int32 → Option UInt64) (K6 : ∀ (b : MS) (v1 : Int32) (v2 : Int32) (v3 : Int32), c6 b v1 v2 v3 = some rr → J p l e (RM 0) s m args below meth c G A 5 (MQ below (QV (some (.double rr)) (PosW G ad a b A) A) args s 0 0 A) 0 0 ad a b 6 [(0, .ref (ad 100)), (1, .int v1), (2, .int v2), (3, .int v3)] []) (b : MS) (v1 : Int32) (v2 : Int32) (v3 : Int32) (s0 : Int32) (hf : f_X9_share_29 c6 b v1 v2 v3 s0 = some rr) : J p l e (RM 0) s m args below meth c G A 5 (MQ below (QV (some (.double rr)) (PosW G ad a b A) A) args s 0 0 A) 0 0 ad a b 29 [(0, .ref (ad 100)), (1, .int v1), (2, .int v2), (3, .int v3)] [.int s0] := by
  unfold f_X9_share_29 at hf
  refine j_istore (lv' := [(4, .int s0), (0, .ref (ad 100)), (1, .int v1), (2, .int v2), (3, .int v3)]) C dX9_share_29 (by decide) rfl ?_
  refine j_iload_n C 2 rfl dX9_share_31 ?_
  refine j_iload C 0 rfl dX9_share_32 ?_
  refine j_if_eq C 53 dX9_share_34 (by decide) hf (fun y1 hf => ?_) (fun y1 hf => ?_)
  · refine j_iconst (v := 0) C (by decide) dX9_share_53 ?_
    refine j_sub [1, 3, 4, 0] rfl ?_
    exact w_X9_share_54 C hr hk c6 K6 b v2 v3 s0 v1 0 hf
  · refine j_aload_n C 1 rfl dX9_share_37 ?_
    refine j_get (q := 100) (kf := 7) (T := TX9) (N := 33) (RC := RX9) C m_100 ce_100 rfl in_X9 (by decide) (fun _ h9 => h9) fl_X9_25 rfl dX9_share_38 ?_
    refine j_iload_n C 4 rfl dX9_share_41 ?_
    refine j_iald (q := 107) C m_107 ce_107 hf dX9_share_42 (fun hf => ?_)
    refine j_aload_n C 1 rfl dX9_share_43 ?_
    refine j_get (q := 100) (kf := 4) (T := TX9) (N := 33) (RC := RX9) C m_100 ce_100 rfl in_X9 (by decide) (fun _ h9 => h9) fl_X9_16 rfl dX9_share_44 ?_
    refine j_iload_n C 4 rfl dX9_share_47 ?_
    refine j_iald (q := 104) C m_104 ce_104 hf dX9_share_48 (fun hf => ?_)
    refine j_isub C dX9_share_49 ?_
    refine j_goto C 54 dX9_share_50 (by decide) ?_
    refine j_sub [1, 3, 4, 0] rfl ?_
    exact w_X9_share_54 C hr hk c6 K6 b v2 v3 s0 v1 ((Mhi b 107 (v3.toNatClampNeg)) - (Mhi b 104 (v3.toNatClampNeg))) hf
set_option maxRecDepth 100000 in
set_option maxHeartbeats 4000000 in
theorem w_X9_share_6 {p : Program} {l : Launch} {e : Env} {s : State} {m : MethodId} {args : Array Value} {below : List Frame} {meth : Method} {c : Code} {G : GT} {A : Nat → Prop} {ad : Nat → Nat} (C : CX G A RX9 cX9_share 5 p s m args c) (hr : meth.sig.returnType = (some .double)) (hk : meth.locks = false) {a : KS} {rr : UInt64} (c6 : MS → Int32 → Int32 → Int32 → Option UInt64) (K6 : ∀ (b : MS) (v1 : Int32) (v2 : Int32) (v3 : Int32), c6 b v1 v2 v3 = some rr → J p l e (RM 0) s m args below meth c G A 5 (MQ below (QV (some (.double rr)) (PosW G ad a b A) A) args s 0 0 A) 0 0 ad a b 6 [(0, .ref (ad 100)), (1, .int v1), (2, .int v2), (3, .int v3)] []) (b : MS) (v1 : Int32) (v2 : Int32) (v3 : Int32) (hf : f_X9_share_6 c6 b v1 v2 v3 = some rr) : J p l e (RM 0) s m args below meth c G A 5 (MQ below (QV (some (.double rr)) (PosW G ad a b A) A) args s 0 0 A) 0 0 ad a b 6 [(0, .ref (ad 100)), (1, .int v1), (2, .int v2), (3, .int v3)] [] := by
  unfold f_X9_share_6 at hf
  refine j_iload_n C 3 rfl dX9_share_6 ?_
  refine j_aload_n C 0 rfl dX9_share_7 ?_
  refine j_get (q := 100) (kf := 1) (T := TX9) (N := 33) (RC := RX9) C m_100 ce_100 rfl in_X9 (by decide) (fun _ h9 => h9) fl_X9_62 rfl dX9_share_8 ?_
  refine j_icmp_ge C 87 dX9_share_11 (by decide) hf (fun y1 hf => ?_) (fun y1 hf => ?_)
  · refine j_iload_n C 2 rfl dX9_share_87 ?_
    refine j_if_ne C 95 dX9_share_88 (by decide) hf (fun y2 hf => ?_) (fun y2 hf => ?_)
    · refine j_iload_n C 1 rfl dX9_share_95 ?_
      refine j_i2d C dX9_share_96 ?_
      refine j_iload_n C 2 rfl dX9_share_97 ?_
      refine j_i2d C dX9_share_98 ?_
      obtain ⟨h3, hf⟩ := gd_some hf
      refine j_ddiv C (nn64_of h3) dX9_share_99 ?_
      obtain rfl := Option.some.inj hf
      exact j_dret C hr hk ⟨Nat.le_of_ble_eq_true rfl, Nat.le_of_ble_eq_true rfl⟩ rfl dX9_share_100
    · refine j_dconst0 C dX9_share_91 ?_
      refine j_goto C 100 dX9_share_92 (by decide) ?_
      obtain rfl := Option.some.inj hf
      exact j_dret C hr hk ⟨Nat.le_of_ble_eq_true rfl, Nat.le_of_ble_eq_true rfl⟩ rfl dX9_share_100
  · refine j_aload_n C 0 rfl dX9_share_14 ?_
    refine j_get (q := 100) (kf := 2) (T := TX9) (N := 33) (RC := RX9) C m_100 ce_100 rfl in_X9 (by decide) (fun _ h9 => h9) fl_X9_7 rfl dX9_share_15 ?_
    refine j_iload_n C 3 rfl dX9_share_18 ?_
    refine j_iald (q := 102) C m_102 ce_102 hf dX9_share_19 (fun hf => ?_)
    refine j_iconst (v := 1) C (by decide) dX9_share_20 ?_
    refine j_icmp_ne C 28 dX9_share_21 (by decide) hf (fun y4 hf => ?_) (fun y4 hf => ?_)
    · refine j_iconst (v := 0) C (by decide) dX9_share_28 ?_
      refine j_sub [0, 1, 2, 3] rfl ?_
      exact w_X9_share_29 C hr hk c6 K6 b v1 v2 v3 0 hf
    · refine j_iconst (v := 1) C (by decide) dX9_share_24 ?_
      refine j_goto C 29 dX9_share_25 (by decide) ?_
      refine j_sub [0, 1, 2, 3] rfl ?_
      exact w_X9_share_29 C hr hk c6 K6 b v1 v2 v3 1 hf
theorem wl_X9_share_6 {p : Program} {l : Launch} {e : Env} {s : State} {m : MethodId} {args : Array Value} {below : List Frame} {meth : Method} {c : Code} {G : GT} {A : Nat → Prop} {ad : Nat → Nat} (C : CX G A RX9 cX9_share 5 p s m args c) (hr : meth.sig.returnType = (some .double)) (hk : meth.locks = false) {a : KS} {rr : UInt64} (fuel : Nat)   : ∀ (b : MS) (v1 : Int32) (v2 : Int32) (v3 : Int32), l_X9_share_6 fuel  b v1 v2 v3 = some rr → J p l e (RM 0) s m args below meth c G A 5 (MQ below (QV (some (.double rr)) (PosW G ad a b A) A) args s 0 0 A) 0 0 ad a b 6 [(0, .ref (ad 100)), (1, .int v1), (2, .int v2), (3, .int v3)] [] := by
  induction fuel with
  | zero => intro b v1 v2 v3 hf; cases hf
  | succ n ih =>
    intro b v1 v2 v3 hf
    have hf : f_X9_share_6 (l_X9_share_6 n ) b v1 v2 v3 = some rr := hf
    exact w_X9_share_6 C hr hk (l_X9_share_6 n ) ih b v1 v2 v3 hf
set_option maxRecDepth 100000 in
set_option maxHeartbeats 4000000 in
theorem k_X9_share {l : Launch} {G : GT} {ad : Nat → Nat} {b : MS} {a : KS} {rr : UInt64} (hf : f_X9_share b = some rr) : MT l G yX9_share cX9_share 5 (some .double) (RM 0) [.ref (ad 100)] ad a b (some (.double rr)) a b := by
  refine MT_of (by decide) (Nat.le_of_ble_eq_true rfl) ?_
  intro p e s m args below meth c A C hr hk
  unfold f_X9_share at hf
  refine j_iconst (v := 0) C (by decide) dX9_share_0 ?_
  refine j_istore_n (i := 1) (lv' := [(1, .int 0), (0, .ref (ad 100))]) C dX9_share_1 rfl (by decide) rfl ?_
  refine j_iconst (v := 0) C (by decide) dX9_share_2 ?_
  refine j_istore_n (i := 2) (lv' := [(2, .int 0), (1, .int 0), (0, .ref (ad 100))]) C dX9_share_3 rfl (by decide) rfl ?_
  refine j_iconst (v := 0) C (by decide) dX9_share_4 ?_
  refine j_istore_n (i := 3) (lv' := [(3, .int 0), (2, .int 0), (1, .int 0), (0, .ref (ad 100))]) C dX9_share_5 rfl (by decide) rfl ?_
  refine j_sub [3, 2, 1, 0] rfl ?_
  exact wl_X9_share_6 C hr hk FU b 0 0 0 hf
set_option maxRecDepth 100000 in
set_option maxHeartbeats 4000000 in
theorem k_X9_fraction {l : Launch} {G : GT} {ad : Nat → Nat} {b : MS} {a : KS} {rr : UInt64 × MS} (hf : f_X9_fraction b = some rr) : MT l G yX9_fraction cX9_fraction 1 (some .double) (RM 1) [.ref (ad 100)] ad a b (some (.double rr.1)) a rr.2 := by
  refine MT_of (by decide) (Nat.le_of_ble_eq_true rfl) ?_
  intro p e s m args below meth c A C hr hk
  unfold f_X9_fraction at hf
  refine j_aload_n C 0 rfl dX9_fraction_0 ?_
  refine j_iconst (v := 0) C (by decide) dX9_fraction_1 ?_
  refine put_X9_0 C fl_X9_66 rfl rfl dX9_fraction_2 ?_
  refine j_aload_n C 0 rfl dX9_fraction_5 ?_
  obtain ⟨z1, h2, hf⟩ := bnd_some hf
  refine j_callV (q := 100) (As := []) (rest := []) C (k_X9_share h2) cw_X9_share ml_X9_211 m_100 ce_100 rfl rfl ⟨Nat.le_of_ble_eq_true rfl, Nat.le_of_ble_eq_true rfl⟩ ⟨Nat.le_of_ble_eq_true rfl, Nat.le_of_ble_eq_true rfl⟩ rfl (Nat.le_of_ble_eq_true rfl) dX9_fraction_6 ?_
  obtain rfl := Option.some.inj hf
  exact j_dret C hr hk ⟨Nat.le_of_ble_eq_true rfl, Nat.le_of_ble_eq_true rfl⟩ rfl dX9_fraction_9
set_option maxRecDepth 100000 in
set_option maxHeartbeats 4000000 in
theorem w_X9_append_30 {p : Program} {l : Launch} {e : Env} {s : State} {m : MethodId} {args : Array Value} {below : List Frame} {meth : Method} {c : Code} {G : GT} {A : Nat → Prop} {ad : Nat → Nat} (C : CX G A RX9 cX9_append 2 p s m args c) (hr : meth.sig.returnType = (some .int)) (hk : meth.locks = false) {a : KS} {rr : Int32 × MS}   (b : MS) (v1 : Int32) (s1 : Int32) (hf : f_X9_append_30 b v1 s1 = some rr) : J p l e (RM 1) s m args below meth c G A 2 (MQ below (QV (some (.int rr.1)) (PosW G ad a rr.2 A) A) args s 0 0 A) 0 0 ad a b 30 [(0, .ref (ad 100)), (1, .int v1)] [.int s1, .ref (ad 100)] := by
  unfold f_X9_append_30 at hf
  obtain ⟨z1, h2, hf⟩ := bnd_some hf
  refine j_callV (q := 100) (As := [.int s1]) (rest := []) C (k_X9_holds h2) cw_X9_holds ml_X9_109 m_100 ce_100 rfl rfl ⟨Nat.le_of_ble_eq_true rfl, Nat.le_of_ble_eq_true rfl⟩ ⟨Nat.le_of_ble_eq_true rfl, Nat.le_of_ble_eq_true rfl⟩ rfl (Nat.le_of_ble_eq_true rfl) dX9_append_30 ?_
  refine j_if_ne C 38 dX9_append_33 (by decide) hf (fun y4 hf => ?_) (fun y4 hf => ?_)
  · refine j_aload_n C 0 rfl dX9_append_38 ?_
    refine j_get (q := 100) (kf := 26) (T := TX9) (N := 33) (RC := RX9) C m_100 ce_100 rfl in_X9 (by decide) (fun _ h9 => h9) fl_X9_56 rfl dX9_append_39 ?_
    refine j_aload_n C 0 rfl dX9_append_42 ?_
    refine j_get (q := 100) (kf := 27) (T := TX9) (N := 33) (RC := RX9) C m_100 ce_100 rfl in_X9 (by decide) (fun _ h9 => h9) fl_X9_215 rfl dX9_append_43 ?_
    refine j_iload_n C 1 rfl dX9_append_46 ?_
    refine ast_126 C hf dX9_append_47 (fun hf => ?_)
    refine j_aload_n C 0 rfl dX9_append_48 ?_
    refine j_dup C rfl dX9_append_49 ?_
    refine j_get (q := 100) (kf := 27) (T := TX9) (N := 33) (RC := RX9) C m_100 ce_100 rfl in_X9 (by decide) (fun _ h9 => h9) fl_X9_215 rfl dX9_append_50 ?_
    refine j_iconst (v := 1) C (by decide) dX9_append_53 ?_
    refine j_iadd C dX9_append_54 ?_
    refine put_X9_27 C fl_X9_215 rfl rfl dX9_append_55 ?_
    refine j_aload_n C 0 rfl dX9_append_58 ?_
    refine j_get (q := 100) (kf := 27) (T := TX9) (N := 33) (RC := RX9) C m_100 ce_100 rfl in_X9 (by decide) (fun _ h9 => h9) fl_X9_215 rfl dX9_append_59 ?_
    obtain rfl := Option.some.inj hf
    exact j_iret C hr hk ⟨Nat.le_of_ble_eq_true rfl, Nat.le_of_ble_eq_true rfl⟩ rfl dX9_append_62
  · refine j_iconst (v := 0) C (by decide) dX9_append_36 ?_
    obtain rfl := Option.some.inj hf
    exact j_iret C hr hk ⟨Nat.le_of_ble_eq_true rfl, Nat.le_of_ble_eq_true rfl⟩ rfl dX9_append_37
set_option maxRecDepth 100000 in
set_option maxHeartbeats 4000000 in
theorem k_X9_append {l : Launch} {G : GT} {ad : Nat → Nat} {b : MS} {v1 : Int32} {a : KS} {rr : Int32 × MS} (hf : f_X9_append b v1 = some rr) : MT l G yX9_append cX9_append 2 (some .int) (RM 1) [.ref (ad 100), .int v1] ad a b (some (.int rr.1)) a rr.2 := by
  refine MT_of (by decide) (Nat.le_of_ble_eq_true rfl) ?_
  intro p e s m args below meth c A C hr hk
  unfold f_X9_append at hf
  refine j_aload_n C 0 rfl dX9_append_0 ?_
  refine j_iload_n C 1 rfl dX9_append_1 ?_
  refine j_bipush (v := 33) C (by decide) dX9_append_2 ?_
  refine j_bipush (v := 126) C (by decide) dX9_append_4 ?_
  obtain ⟨z1, h2, hf⟩ := bnd_some hf
  refine j_callS (As := [.int v1, .int 33, .int 126]) (rest := [.ref (ad 100)]) C (k_X9_in h2) cw_X9_in ml_X9_69 rfl ⟨Nat.le_of_ble_eq_true rfl, Nat.le_of_ble_eq_true rfl⟩ ⟨Nat.le_of_ble_eq_true rfl, Nat.le_of_ble_eq_true rfl⟩ rfl (Nat.le_of_ble_eq_true rfl) dX9_append_6 ?_
  refine j_if_ne C 16 dX9_append_9 (by decide) hf (fun y4 hf => ?_) (fun y4 hf => ?_)
  · refine j_aload_n C 0 rfl dX9_append_16 ?_
    refine j_get (q := 100) (kf := 27) (T := TX9) (N := 33) (RC := RX9) C m_100 ce_100 rfl in_X9 (by decide) (fun _ h9 => h9) fl_X9_215 rfl dX9_append_17 ?_
    refine j_bipush (v := 60) C (by decide) dX9_append_20 ?_
    refine j_icmp_ne C 29 dX9_append_22 (by decide) hf (fun y5 hf => ?_) (fun y5 hf => ?_)
    · refine j_iconst (v := 0) C (by decide) dX9_append_29 ?_
      refine j_sub [0, 1] rfl ?_
      exact w_X9_append_30 C hr hk b v1 0 hf
    · refine j_iconst (v := 2) C (by decide) dX9_append_25 ?_
      refine j_goto C 30 dX9_append_26 (by decide) ?_
      refine j_sub [0, 1] rfl ?_
      exact w_X9_append_30 C hr hk b v1 2 hf
  · refine j_iconst (v := 1) C (by decide) dX9_append_12 ?_
    refine j_goto C 30 dX9_append_13 (by decide) ?_
    refine j_sub [0, 1] rfl ?_
    exact w_X9_append_30 C hr hk b v1 1 hf
set_option maxRecDepth 100000 in
set_option maxHeartbeats 4000000 in
theorem k_X9_clearText {l : Launch} {G : GT} {ad : Nat → Nat} {b : MS} {a : KS} {rr : Int32 × MS} (hf : f_X9_clearText b = some rr) : MT l G yX9_clearText cX9_clearText 2 (some .int) (RM 0) [.ref (ad 100)] ad a b (some (.int rr.1)) a rr.2 := by
  refine MT_of (by decide) (Nat.le_of_ble_eq_true rfl) ?_
  intro p e s m args below meth c A C hr hk
  unfold f_X9_clearText at hf
  refine j_aload_n C 0 rfl dX9_clearText_0 ?_
  refine j_iconst (v := 0) C (by decide) dX9_clearText_1 ?_
  refine put_X9_0 C fl_X9_66 rfl rfl dX9_clearText_2 ?_
  refine j_aload_n C 0 rfl dX9_clearText_5 ?_
  refine j_get (q := 100) (kf := 27) (T := TX9) (N := 33) (RC := RX9) C m_100 ce_100 rfl in_X9 (by decide) (fun _ h9 => h9) fl_X9_215 rfl dX9_clearText_6 ?_
  refine j_letI hf (fun x1 hf => ?_)
  refine j_istore_n (i := 1) (lv' := [(1, .int x1), (0, .ref (ad 100))]) C dX9_clearText_9 rfl (by decide) rfl ?_
  refine j_aload_n C 1 rfl dX9_clearText_10 ?_
  refine j_iconst (v := 0) C (by decide) dX9_clearText_11 ?_
  refine put_X9_27 C fl_X9_215 rfl rfl dX9_clearText_12 ?_
  refine j_iload_n C 0 rfl dX9_clearText_15 ?_
  obtain rfl := Option.some.inj hf
  exact j_iret C hr hk ⟨Nat.le_of_ble_eq_true rfl, Nat.le_of_ble_eq_true rfl⟩ rfl dX9_clearText_16
set_option maxRecDepth 100000 in
set_option maxHeartbeats 4000000 in
theorem k_X9_sign {l : Launch} {G : GT} {ad : Nat → Nat} {b : MS} {a : KS} {rr : Int32} (hf : f_X9_sign b = some rr) : MT l G yX9_sign cX9_sign 1 (some .int) (RM 0) [.ref (ad 100)] ad a b (some (.int rr)) a b := by
  refine MT_of (by decide) (Nat.le_of_ble_eq_true rfl) ?_
  intro p e s m args below meth c A C hr hk
  unfold f_X9_sign at hf
  refine j_aload_n C 0 rfl dX9_sign_0 ?_
  refine j_get (q := 100) (kf := 28) (T := TX9) (N := 33) (RC := RX9) C m_100 ce_100 rfl in_X9 (by decide) (fun _ h9 => h9) fl_X9_218 rfl dX9_sign_1 ?_
  refine j_aload_n C 0 rfl dX9_sign_4 ?_
  refine j_get (q := 100) (kf := 27) (T := TX9) (N := 33) (RC := RX9) C m_100 ce_100 rfl in_X9 (by decide) (fun _ h9 => h9) fl_X9_215 rfl dX9_sign_5 ?_
  refine j_icmp_ge C 23 dX9_sign_8 (by decide) hf (fun y1 hf => ?_) (fun y1 hf => ?_)
  · refine j_iconst (v := 0) C (by decide) dX9_sign_23 ?_
    obtain rfl := Option.some.inj hf
    exact j_iret C hr hk ⟨Nat.le_of_ble_eq_true rfl, Nat.le_of_ble_eq_true rfl⟩ rfl dX9_sign_24
  · refine j_aload_n C 0 rfl dX9_sign_11 ?_
    refine j_get (q := 100) (kf := 26) (T := TX9) (N := 33) (RC := RX9) C m_100 ce_100 rfl in_X9 (by decide) (fun _ h9 => h9) fl_X9_56 rfl dX9_sign_12 ?_
    refine j_aload_n C 0 rfl dX9_sign_15 ?_
    refine j_get (q := 100) (kf := 28) (T := TX9) (N := 33) (RC := RX9) C m_100 ce_100 rfl in_X9 (by decide) (fun _ h9 => h9) fl_X9_218 rfl dX9_sign_16 ?_
    refine j_iald (q := 126) C m_126 ce_126 hf dX9_sign_19 (fun hf => ?_)
    refine j_goto C 24 dX9_sign_20 (by decide) ?_
    obtain rfl := Option.some.inj hf
    exact j_iret C hr hk ⟨Nat.le_of_ble_eq_true rfl, Nat.le_of_ble_eq_true rfl⟩ rfl dX9_sign_24
set_option maxRecDepth 100000 in
set_option maxHeartbeats 4000000 in
theorem k_X9_readsNumber {l : Launch} {G : GT} {ad : Nat → Nat} {b : MS} {v1 : Int32} {a : KS} {rr : Int32 × MS} (hf : f_X9_readsNumber b v1 = some rr) : MT l G yX9_readsNumber cX9_readsNumber 2 (some .boolean) (RM 1) [.ref (ad 100), .int v1] ad a b (some (.int rr.1)) a rr.2 := by
  refine MT_of (by decide) (Nat.le_of_ble_eq_true rfl) ?_
  intro p e s m args below meth c A C hr hk
  unfold f_X9_readsNumber at hf
  refine j_aload_n C 0 rfl dX9_readsNumber_0 ?_
  obtain ⟨z1, h2, hf⟩ := bnd_some hf
  refine j_callV (q := 100) (As := []) (rest := []) C (k_X9_sign h2) cw_X9_sign ml_X9_221 m_100 ce_100 rfl rfl ⟨Nat.le_of_ble_eq_true rfl, Nat.le_of_ble_eq_true rfl⟩ ⟨Nat.le_of_ble_eq_true rfl, Nat.le_of_ble_eq_true rfl⟩ rfl (Nat.le_of_ble_eq_true rfl) dX9_readsNumber_1 ?_
  refine j_bipush (v := 49) C (by decide) dX9_readsNumber_4 ?_
  refine j_bipush (v := 57) C (by decide) dX9_readsNumber_6 ?_
  obtain ⟨z4, h5, hf⟩ := bnd_some hf
  refine j_callS (As := [.int z1, .int 49, .int 57]) (rest := []) C (k_X9_in h5) cw_X9_in ml_X9_69 rfl ⟨Nat.le_of_ble_eq_true rfl, Nat.le_of_ble_eq_true rfl⟩ ⟨Nat.le_of_ble_eq_true rfl, Nat.le_of_ble_eq_true rfl⟩ rfl (Nat.le_of_ble_eq_true rfl) dX9_readsNumber_8 ?_
  refine j_if_ne C 16 dX9_readsNumber_11 (by decide) hf (fun y7 hf => ?_) (fun y7 hf => ?_)
  · refine j_aload_n C 0 rfl dX9_readsNumber_16 ?_
    refine j_aload_n C 0 rfl dX9_readsNumber_17 ?_
    obtain ⟨z8, h9, hf⟩ := bnd_some hf
    refine j_callV (q := 100) (As := []) (rest := [.ref (ad 100)]) C (k_X9_sign h9) cw_X9_sign ml_X9_221 m_100 ce_100 rfl rfl ⟨Nat.le_of_ble_eq_true rfl, Nat.le_of_ble_eq_true rfl⟩ ⟨Nat.le_of_ble_eq_true rfl, Nat.le_of_ble_eq_true rfl⟩ rfl (Nat.le_of_ble_eq_true rfl) dX9_readsNumber_18 ?_
    refine j_bipush (v := 48) C (by decide) dX9_readsNumber_21 ?_
    refine j_isub C dX9_readsNumber_23 ?_
    refine put_X9_30 C fl_X9_224 rfl rfl dX9_readsNumber_24 ?_
    refine j_aload_n C 0 rfl dX9_readsNumber_27 ?_
    refine j_dup C rfl dX9_readsNumber_28 ?_
    refine j_get (q := 100) (kf := 28) (T := TX9) (N := 33) (RC := RX9) C m_100 ce_100 rfl in_X9 (by decide) (fun _ h9 => h9) fl_X9_218 rfl dX9_readsNumber_29 ?_
    refine j_iconst (v := 1) C (by decide) dX9_readsNumber_32 ?_
    refine j_iadd C dX9_readsNumber_33 ?_
    refine put_X9_28 C fl_X9_218 rfl rfl dX9_readsNumber_34 ?_
    refine j_aload_n C 0 rfl dX9_readsNumber_37 ?_
    obtain ⟨z11, h12, hf⟩ := bnd_some hf
    refine j_callV (q := 100) (As := []) (rest := []) C (k_X9_sign h12) cw_X9_sign ml_X9_221 m_100 ce_100 rfl rfl ⟨Nat.le_of_ble_eq_true rfl, Nat.le_of_ble_eq_true rfl⟩ ⟨Nat.le_of_ble_eq_true rfl, Nat.le_of_ble_eq_true rfl⟩ rfl (Nat.le_of_ble_eq_true rfl) dX9_readsNumber_38 ?_
    refine j_bipush (v := 48) C (by decide) dX9_readsNumber_41 ?_
    refine j_bipush (v := 57) C (by decide) dX9_readsNumber_43 ?_
    obtain ⟨z14, h15, hf⟩ := bnd_some hf
    refine j_callS (As := [.int z11, .int 48, .int 57]) (rest := []) C (k_X9_in h15) cw_X9_in ml_X9_69 rfl ⟨Nat.le_of_ble_eq_true rfl, Nat.le_of_ble_eq_true rfl⟩ ⟨Nat.le_of_ble_eq_true rfl, Nat.le_of_ble_eq_true rfl⟩ rfl (Nat.le_of_ble_eq_true rfl) dX9_readsNumber_45 ?_
    refine j_if_eq C 99 dX9_readsNumber_48 (by decide) hf (fun y17 hf => ?_) (fun y17 hf => ?_)
    · refine j_iconst (v := 1) C (by decide) dX9_readsNumber_99 ?_
      obtain rfl := Option.some.inj hf
      exact j_zret C hr hk (by decide) ⟨Nat.le_of_ble_eq_true rfl, Nat.le_of_ble_eq_true rfl⟩ rfl dX9_readsNumber_100
    · refine j_bipush (v := 10) C (by decide) dX9_readsNumber_51 ?_
      refine j_aload_n C 0 rfl dX9_readsNumber_53 ?_
      refine j_get (q := 100) (kf := 30) (T := TX9) (N := 33) (RC := RX9) C m_100 ce_100 rfl in_X9 (by decide) (fun _ h9 => h9) fl_X9_224 rfl dX9_readsNumber_54 ?_
      refine j_imul C dX9_readsNumber_57 ?_
      refine j_aload_n C 0 rfl dX9_readsNumber_58 ?_
      obtain ⟨z18, h19, hf⟩ := bnd_some hf
      refine j_callV (q := 100) (As := []) (rest := [.int (10 * (Mhi (sMhi (sMhi b 100 30 (z8 - 48)) 100 28 ((Mhi (sMhi b 100 30 (z8 - 48)) 100 28) + 1)) 100 30))]) C (k_X9_sign h19) cw_X9_sign ml_X9_221 m_100 ce_100 rfl rfl ⟨Nat.le_of_ble_eq_true rfl, Nat.le_of_ble_eq_true rfl⟩ ⟨Nat.le_of_ble_eq_true rfl, Nat.le_of_ble_eq_true rfl⟩ rfl (Nat.le_of_ble_eq_true rfl) dX9_readsNumber_59 ?_
      refine j_iadd C dX9_readsNumber_62 ?_
      refine j_bipush (v := 48) C (by decide) dX9_readsNumber_63 ?_
      refine j_isub C dX9_readsNumber_65 ?_
      refine j_iload_n C 1 rfl dX9_readsNumber_66 ?_
      refine j_icmp_gt C 99 dX9_readsNumber_67 (by decide) hf (fun y21 hf => ?_) (fun y21 hf => ?_)
      · refine j_iconst (v := 1) C (by decide) dX9_readsNumber_99 ?_
        obtain rfl := Option.some.inj hf
        exact j_zret C hr hk (by decide) ⟨Nat.le_of_ble_eq_true rfl, Nat.le_of_ble_eq_true rfl⟩ rfl dX9_readsNumber_100
      · refine j_aload_n C 0 rfl dX9_readsNumber_70 ?_
        refine j_bipush (v := 10) C (by decide) dX9_readsNumber_71 ?_
        refine j_aload_n C 0 rfl dX9_readsNumber_73 ?_
        refine j_get (q := 100) (kf := 30) (T := TX9) (N := 33) (RC := RX9) C m_100 ce_100 rfl in_X9 (by decide) (fun _ h9 => h9) fl_X9_224 rfl dX9_readsNumber_74 ?_
        refine j_imul C dX9_readsNumber_77 ?_
        refine j_aload_n C 0 rfl dX9_readsNumber_78 ?_
        obtain ⟨z22, h23, hf⟩ := bnd_some hf
        refine j_callV (q := 100) (As := []) (rest := [.int (10 * (Mhi (sMhi (sMhi b 100 30 (z8 - 48)) 100 28 ((Mhi (sMhi b 100 30 (z8 - 48)) 100 28) + 1)) 100 30)), .ref (ad 100)]) C (k_X9_sign h23) cw_X9_sign ml_X9_221 m_100 ce_100 rfl rfl ⟨Nat.le_of_ble_eq_true rfl, Nat.le_of_ble_eq_true rfl⟩ ⟨Nat.le_of_ble_eq_true rfl, Nat.le_of_ble_eq_true rfl⟩ rfl (Nat.le_of_ble_eq_true rfl) dX9_readsNumber_79 ?_
        refine j_iadd C dX9_readsNumber_82 ?_
        refine j_bipush (v := 48) C (by decide) dX9_readsNumber_83 ?_
        refine j_isub C dX9_readsNumber_85 ?_
        refine put_X9_30 C fl_X9_224 rfl rfl dX9_readsNumber_86 ?_
        refine j_aload_n C 0 rfl dX9_readsNumber_89 ?_
        refine j_dup C rfl dX9_readsNumber_90 ?_
        refine j_get (q := 100) (kf := 28) (T := TX9) (N := 33) (RC := RX9) C m_100 ce_100 rfl in_X9 (by decide) (fun _ h9 => h9) fl_X9_218 rfl dX9_readsNumber_91 ?_
        refine j_iconst (v := 1) C (by decide) dX9_readsNumber_94 ?_
        refine j_iadd C dX9_readsNumber_95 ?_
        refine put_X9_28 C fl_X9_218 rfl rfl dX9_readsNumber_96 ?_
        refine j_iconst (v := 1) C (by decide) dX9_readsNumber_99 ?_
        obtain rfl := Option.some.inj hf
        exact j_zret C hr hk (by decide) ⟨Nat.le_of_ble_eq_true rfl, Nat.le_of_ble_eq_true rfl⟩ rfl dX9_readsNumber_100
  · refine j_iconst (v := 0) C (by decide) dX9_readsNumber_14 ?_
    obtain rfl := Option.some.inj hf
    exact j_zret C hr hk (by decide) ⟨Nat.le_of_ble_eq_true rfl, Nat.le_of_ble_eq_true rfl⟩ rfl dX9_readsNumber_15
set_option maxRecDepth 100000 in
set_option maxHeartbeats 4000000 in
theorem w_X9_readsAction_112 {p : Program} {l : Launch} {e : Env} {s : State} {m : MethodId} {args : Array Value} {below : List Frame} {meth : Method} {c : Code} {G : GT} {A : Nat → Prop} {ad : Nat → Nat} (C : CX G A RX9 cX9_readsAction 3 p s m args c) (hr : meth.sig.returnType = (some .boolean)) (hk : meth.locks = false) {a : KS} {rr : Int32 × MS}   (b : MS) (s1 : Int32) (hf : f_X9_readsAction_112 b s1 = some rr) : J p l e (RM 2) s m args below meth c G A 3 (MQ below (QV (some (.int rr.1)) (PosW G ad a rr.2 A) A) args s 0 0 A) 0 0 ad a b 112 [] [.int s1, .ref (ad 100)] := by
  unfold f_X9_readsAction_112 at hf
  obtain ⟨z1, h2, hf⟩ := bnd_some hf
  refine j_callV (q := 100) (As := [.int s1]) (rest := []) C (k_X9_readsNumber h2) cw_X9_readsNumber ml_X9_230 m_100 ce_100 rfl rfl ⟨Nat.le_of_ble_eq_true rfl, Nat.le_of_ble_eq_true rfl⟩ ⟨Nat.le_of_ble_eq_true rfl, Nat.le_of_ble_eq_true rfl⟩ rfl (Nat.le_of_ble_eq_true rfl) dX9_readsAction_112 ?_
  refine j_if_eq C 122 dX9_readsAction_115 (by decide) hf (fun y4 hf => ?_) (fun y4 hf => ?_)
  · refine j_iconst (v := 0) C (by decide) dX9_readsAction_122 ?_
    obtain rfl := Option.some.inj hf
    exact j_zret C hr hk (by decide) ⟨Nat.le_of_ble_eq_true rfl, Nat.le_of_ble_eq_true rfl⟩ rfl dX9_readsAction_123
  · refine j_iconst (v := 1) C (by decide) dX9_readsAction_118 ?_
    refine j_goto C 123 dX9_readsAction_119 (by decide) ?_
    obtain rfl := Option.some.inj hf
    exact j_zret C hr hk (by decide) ⟨Nat.le_of_ble_eq_true rfl, Nat.le_of_ble_eq_true rfl⟩ rfl dX9_readsAction_123
set_option maxRecDepth 100000 in
set_option maxHeartbeats 4000000 in
theorem w_X9_readsAction_83 {p : Program} {l : Launch} {e : Env} {s : State} {m : MethodId} {args : Array Value} {below : List Frame} {meth : Method} {c : Code} {G : GT} {A : Nat → Prop} {ad : Nat → Nat} (C : CX G A RX9 cX9_readsAction 3 p s m args c) (hr : meth.sig.returnType = (some .boolean)) (hk : meth.locks = false) {a : KS} {rr : Int32 × MS}   (b : MS) (v1 : Int32) (v2 : Int32) (s1 : Int32) (s2 : Int32) (hf : f_X9_readsAction_83 b v1 v2 s1 s2 = some rr) : J p l e (RM 2) s m args below meth c G A 3 (MQ below (QV (some (.int rr.1)) (PosW G ad a rr.2 A) A) args s 0 0 A) 0 0 ad a b 83 [(0, .ref (ad 100)), (1, .int v1), (2, .int v2)] [.int s2, .int s1, .ref (ad 100)] := by
  unfold f_X9_readsAction_83 at hf
  refine j_iadd C dX9_readsAction_83 ?_
  refine put_X9_28 C fl_X9_218 rfl rfl dX9_readsAction_84 ?_
  refine j_iload_n C 1 rfl dX9_readsAction_87 ?_
  refine j_if_ne C 118 dX9_readsAction_88 (by decide) hf (fun y1 hf => ?_) (fun y1 hf => ?_)
  · refine j_iconst (v := 1) C (by decide) dX9_readsAction_118 ?_
    refine j_goto C 123 dX9_readsAction_119 (by decide) ?_
    obtain rfl := Option.some.inj hf
    exact j_zret C hr hk (by decide) ⟨Nat.le_of_ble_eq_true rfl, Nat.le_of_ble_eq_true rfl⟩ rfl dX9_readsAction_123
  · refine j_iload_n C 2 rfl dX9_readsAction_91 ?_
    refine j_if_eq C 122 dX9_readsAction_92 (by decide) hf (fun y2 hf => ?_) (fun y2 hf => ?_)
    · refine j_iconst (v := 0) C (by decide) dX9_readsAction_122 ?_
      obtain rfl := Option.some.inj hf
      exact j_zret C hr hk (by decide) ⟨Nat.le_of_ble_eq_true rfl, Nat.le_of_ble_eq_true rfl⟩ rfl dX9_readsAction_123
    · refine j_aload_n C 0 rfl dX9_readsAction_95 ?_
      refine j_aload_n C 0 rfl dX9_readsAction_96 ?_
      refine j_get (q := 100) (kf := 29) (T := TX9) (N := 33) (RC := RX9) C m_100 ce_100 rfl in_X9 (by decide) (fun _ h9 => h9) fl_X9_227 rfl dX9_readsAction_97 ?_
      refine j_bipush (v := 116) C (by decide) dX9_readsAction_100 ?_
      refine j_icmp_ne C 110 dX9_readsAction_102 (by decide) hf (fun y3 hf => ?_) (fun y3 hf => ?_)
      · refine j_bipush (v := 50) C (by decide) dX9_readsAction_110 ?_
        refine j_sub [] rfl ?_
        exact w_X9_readsAction_112 C hr hk (sMhi b 100 28 (s1 + s2)) 50 hf
      · refine j_bipush (v := 99) C (by decide) dX9_readsAction_105 ?_
        refine j_goto C 112 dX9_readsAction_107 (by decide) ?_
        refine j_sub [] rfl ?_
        exact w_X9_readsAction_112 C hr hk (sMhi b 100 28 (s1 + s2)) 99 hf
set_option maxRecDepth 100000 in
set_option maxHeartbeats 4000000 in
theorem w_X9_readsAction_78 {p : Program} {l : Launch} {e : Env} {s : State} {m : MethodId} {args : Array Value} {below : List Frame} {meth : Method} {c : Code} {G : GT} {A : Nat → Prop} {ad : Nat → Nat} (C : CX G A RX9 cX9_readsAction 3 p s m args c) (hr : meth.sig.returnType = (some .boolean)) (hk : meth.locks = false) {a : KS} {rr : Int32 × MS}   (b : MS) (v1 : Int32) (v2 : Int32) (s1 : Int32) (hf : f_X9_readsAction_78 b v1 v2 s1 = some rr) : J p l e (RM 2) s m args below meth c G A 3 (MQ below (QV (some (.int rr.1)) (PosW G ad a rr.2 A) A) args s 0 0 A) 0 0 ad a b 78 [(0, .ref (ad 100)), (1, .int v1), (2, .int v2)] [.int s1, .ref (ad 100)] := by
  unfold f_X9_readsAction_78 at hf
  refine j_iconst (v := 1) C (by decide) dX9_readsAction_78 ?_
  refine j_goto C 83 dX9_readsAction_79 (by decide) ?_
  refine j_sub [0, 1, 2] rfl ?_
  exact w_X9_readsAction_83 C hr hk b v1 v2 s1 1 hf
set_option maxRecDepth 100000 in
set_option maxHeartbeats 4000000 in
theorem w_X9_readsAction_64 {p : Program} {l : Launch} {e : Env} {s : State} {m : MethodId} {args : Array Value} {below : List Frame} {meth : Method} {c : Code} {G : GT} {A : Nat → Prop} {ad : Nat → Nat} (C : CX G A RX9 cX9_readsAction 3 p s m args c) (hr : meth.sig.returnType = (some .boolean)) (hk : meth.locks = false) {a : KS} {rr : Int32 × MS}   (b : MS) (v1 : Int32) (s0 : Int32) (hf : f_X9_readsAction_64 b v1 s0 = some rr) : J p l e (RM 2) s m args below meth c G A 3 (MQ below (QV (some (.int rr.1)) (PosW G ad a rr.2 A) A) args s 0 0 A) 0 0 ad a b 64 [(0, .ref (ad 100)), (1, .int v1)] [.int s0] := by
  unfold f_X9_readsAction_64 at hf
  refine j_istore_n (i := 2) (lv' := [(2, .int s0), (0, .ref (ad 100)), (1, .int v1)]) C dX9_readsAction_64 rfl (by decide) rfl ?_
  refine j_aload_n C 1 rfl dX9_readsAction_65 ?_
  refine j_dup C rfl dX9_readsAction_66 ?_
  refine j_get (q := 100) (kf := 28) (T := TX9) (N := 33) (RC := RX9) C m_100 ce_100 rfl in_X9 (by decide) (fun _ h9 => h9) fl_X9_218 rfl dX9_readsAction_67 ?_
  refine j_iload_n C 2 rfl dX9_readsAction_70 ?_
  refine j_if_ne C 78 dX9_readsAction_71 (by decide) hf (fun y1 hf => ?_) (fun y1 hf => ?_)
  · refine j_sub [1, 2, 0] rfl ?_
    exact w_X9_readsAction_78 C hr hk b v1 s0 (Mhi b 100 28) hf
  · refine j_iload_n C 0 rfl dX9_readsAction_74 ?_
    refine j_if_eq C 82 dX9_readsAction_75 (by decide) hf (fun y2 hf => ?_) (fun y2 hf => ?_)
    · refine j_iconst (v := 0) C (by decide) dX9_readsAction_82 ?_
      refine j_sub [1, 2, 0] rfl ?_
      exact w_X9_readsAction_83 C hr hk b v1 s0 (Mhi b 100 28) 0 hf
    · refine j_sub [1, 2, 0] rfl ?_
      exact w_X9_readsAction_78 C hr hk b v1 s0 (Mhi b 100 28) hf
set_option maxRecDepth 100000 in
set_option maxHeartbeats 4000000 in
theorem w_X9_readsAction_59 {p : Program} {l : Launch} {e : Env} {s : State} {m : MethodId} {args : Array Value} {below : List Frame} {meth : Method} {c : Code} {G : GT} {A : Nat → Prop} {ad : Nat → Nat} (C : CX G A RX9 cX9_readsAction 3 p s m args c) (hr : meth.sig.returnType = (some .boolean)) (hk : meth.locks = false) {a : KS} {rr : Int32 × MS}   (b : MS) (v1 : Int32) (hf : f_X9_readsAction_59 b v1 = some rr) : J p l e (RM 2) s m args below meth c G A 3 (MQ below (QV (some (.int rr.1)) (PosW G ad a rr.2 A) A) args s 0 0 A) 0 0 ad a b 59 [(0, .ref (ad 100)), (1, .int v1)] [] := by
  unfold f_X9_readsAction_59 at hf
  refine j_iconst (v := 1) C (by decide) dX9_readsAction_59 ?_
  refine j_goto C 64 dX9_readsAction_60 (by decide) ?_
  refine j_sub [0, 1] rfl ?_
  exact w_X9_readsAction_64 C hr hk b v1 1 hf
set_option maxRecDepth 100000 in
set_option maxHeartbeats 4000000 in
theorem w_X9_readsAction_31 {p : Program} {l : Launch} {e : Env} {s : State} {m : MethodId} {args : Array Value} {below : List Frame} {meth : Method} {c : Code} {G : GT} {A : Nat → Prop} {ad : Nat → Nat} (C : CX G A RX9 cX9_readsAction 3 p s m args c) (hr : meth.sig.returnType = (some .boolean)) (hk : meth.locks = false) {a : KS} {rr : Int32 × MS}   (b : MS) (s0 : Int32) (hf : f_X9_readsAction_31 b s0 = some rr) : J p l e (RM 2) s m args below meth c G A 3 (MQ below (QV (some (.int rr.1)) (PosW G ad a rr.2 A) A) args s 0 0 A) 0 0 ad a b 31 [(0, .ref (ad 100))] [.int s0] := by
  unfold f_X9_readsAction_31 at hf
  refine j_istore_n (i := 1) (lv' := [(1, .int s0), (0, .ref (ad 100))]) C dX9_readsAction_31 rfl (by decide) rfl ?_
  refine j_aload_n C 1 rfl dX9_readsAction_32 ?_
  refine j_get (q := 100) (kf := 29) (T := TX9) (N := 33) (RC := RX9) C m_100 ce_100 rfl in_X9 (by decide) (fun _ h9 => h9) fl_X9_227 rfl dX9_readsAction_33 ?_
  refine j_bipush (v := 114) C (by decide) dX9_readsAction_36 ?_
  refine j_icmp_eq C 59 dX9_readsAction_38 (by decide) hf (fun y1 hf => ?_) (fun y1 hf => ?_)
  · refine j_sub [1, 0] rfl ?_
    exact w_X9_readsAction_59 C hr hk b s0 hf
  · refine j_aload_n C 1 rfl dX9_readsAction_41 ?_
    refine j_get (q := 100) (kf := 29) (T := TX9) (N := 33) (RC := RX9) C m_100 ce_100 rfl in_X9 (by decide) (fun _ h9 => h9) fl_X9_227 rfl dX9_readsAction_42 ?_
    refine j_bipush (v := 108) C (by decide) dX9_readsAction_45 ?_
    refine j_icmp_eq C 59 dX9_readsAction_47 (by decide) hf (fun y2 hf => ?_) (fun y2 hf => ?_)
    · refine j_sub [1, 0] rfl ?_
      exact w_X9_readsAction_59 C hr hk b s0 hf
    · refine j_aload_n C 1 rfl dX9_readsAction_50 ?_
      refine j_get (q := 100) (kf := 29) (T := TX9) (N := 33) (RC := RX9) C m_100 ce_100 rfl in_X9 (by decide) (fun _ h9 => h9) fl_X9_227 rfl dX9_readsAction_51 ?_
      refine j_bipush (v := 116) C (by decide) dX9_readsAction_54 ?_
      refine j_icmp_ne C 63 dX9_readsAction_56 (by decide) hf (fun y3 hf => ?_) (fun y3 hf => ?_)
      · refine j_iconst (v := 0) C (by decide) dX9_readsAction_63 ?_
        refine j_sub [1, 0] rfl ?_
        exact w_X9_readsAction_64 C hr hk b s0 0 hf
      · refine j_sub [1, 0] rfl ?_
        exact w_X9_readsAction_59 C hr hk b s0 hf
set_option maxRecDepth 100000 in
set_option maxHeartbeats 4000000 in
theorem w_X9_readsAction_26 {p : Program} {l : Launch} {e : Env} {s : State} {m : MethodId} {args : Array Value} {below : List Frame} {meth : Method} {c : Code} {G : GT} {A : Nat → Prop} {ad : Nat → Nat} (C : CX G A RX9 cX9_readsAction 3 p s m args c) (hr : meth.sig.returnType = (some .boolean)) (hk : meth.locks = false) {a : KS} {rr : Int32 × MS}   (b : MS) (hf : f_X9_readsAction_26 b = some rr) : J p l e (RM 2) s m args below meth c G A 3 (MQ below (QV (some (.int rr.1)) (PosW G ad a rr.2 A) A) args s 0 0 A) 0 0 ad a b 26 [(0, .ref (ad 100))] [] := by
  unfold f_X9_readsAction_26 at hf
  refine j_iconst (v := 1) C (by decide) dX9_readsAction_26 ?_
  refine j_goto C 31 dX9_readsAction_27 (by decide) ?_
  refine j_sub [0] rfl ?_
  exact w_X9_readsAction_31 C hr hk b 1 hf
set_option maxRecDepth 100000 in
set_option maxHeartbeats 4000000 in
theorem k_X9_readsAction {l : Launch} {G : GT} {ad : Nat → Nat} {b : MS} {a : KS} {rr : Int32 × MS} (hf : f_X9_readsAction b = some rr) : MT l G yX9_readsAction cX9_readsAction 3 (some .boolean) (RM 2) [.ref (ad 100)] ad a b (some (.int rr.1)) a rr.2 := by
  refine MT_of (by decide) (Nat.le_of_ble_eq_true rfl) ?_
  intro p e s m args below meth c A C hr hk
  unfold f_X9_readsAction at hf
  refine j_aload_n C 0 rfl dX9_readsAction_0 ?_
  refine j_aload_n C 0 rfl dX9_readsAction_1 ?_
  obtain ⟨z1, h2, hf⟩ := bnd_some hf
  refine j_callV (q := 100) (As := []) (rest := [.ref (ad 100)]) C (k_X9_sign h2) cw_X9_sign ml_X9_221 m_100 ce_100 rfl rfl ⟨Nat.le_of_ble_eq_true rfl, Nat.le_of_ble_eq_true rfl⟩ ⟨Nat.le_of_ble_eq_true rfl, Nat.le_of_ble_eq_true rfl⟩ rfl (Nat.le_of_ble_eq_true rfl) dX9_readsAction_2 ?_
  refine put_X9_29 C fl_X9_227 rfl rfl dX9_readsAction_5 ?_
  refine j_aload_n C 0 rfl dX9_readsAction_8 ?_
  refine j_get (q := 100) (kf := 29) (T := TX9) (N := 33) (RC := RX9) C m_100 ce_100 rfl in_X9 (by decide) (fun _ h9 => h9) fl_X9_227 rfl dX9_readsAction_9 ?_
  refine j_bipush (v := 112) C (by decide) dX9_readsAction_12 ?_
  refine j_icmp_eq C 26 dX9_readsAction_14 (by decide) hf (fun y4 hf => ?_) (fun y4 hf => ?_)
  · refine j_sub [0] rfl ?_
    exact w_X9_readsAction_26 C hr hk (sMhi b 100 29 z1) hf
  · refine j_aload_n C 0 rfl dX9_readsAction_17 ?_
    refine j_get (q := 100) (kf := 29) (T := TX9) (N := 33) (RC := RX9) C m_100 ce_100 rfl in_X9 (by decide) (fun _ h9 => h9) fl_X9_227 rfl dX9_readsAction_18 ?_
    refine j_bipush (v := 104) C (by decide) dX9_readsAction_21 ?_
    refine j_icmp_ne C 30 dX9_readsAction_23 (by decide) hf (fun y5 hf => ?_) (fun y5 hf => ?_)
    · refine j_iconst (v := 0) C (by decide) dX9_readsAction_30 ?_
      refine j_sub [0] rfl ?_
      exact w_X9_readsAction_31 C hr hk (sMhi b 100 29 z1) 0 hf
    · refine j_sub [0] rfl ?_
      exact w_X9_readsAction_26 C hr hk (sMhi b 100 29 z1) hf
set_option maxRecDepth 100000 in
set_option maxHeartbeats 4000000 in
theorem w_X9_isComplete_5 {p : Program} {l : Launch} {e : Env} {s : State} {m : MethodId} {args : Array Value} {below : List Frame} {meth : Method} {c : Code} {G : GT} {A : Nat → Prop} {ad : Nat → Nat} (C : CX G A RX9 cX9_isComplete 1 p s m args c) (hr : meth.sig.returnType = (some .boolean)) (hk : meth.locks = false) {a : KS} {rr : Int32 × MS} (c5 : MS → Option (Int32 × MS)) (K5 : ∀ (b : MS), c5 b = some rr → J p l e (RM 3) s m args below meth c G A 1 (MQ below (QV (some (.int rr.1)) (PosW G ad a rr.2 A) A) args s 0 0 A) 0 0 ad a b 5 [(0, .ref (ad 100))] []) (b : MS) (hf : f_X9_isComplete_5 c5 b = some rr) : J p l e (RM 3) s m args below meth c G A 1 (MQ below (QV (some (.int rr.1)) (PosW G ad a rr.2 A) A) args s 0 0 A) 0 0 ad a b 5 [(0, .ref (ad 100))] [] := by
  unfold f_X9_isComplete_5 at hf
  refine j_aload_n C 0 rfl dX9_isComplete_5 ?_
  obtain ⟨z1, h2, hf⟩ := bnd_some hf
  refine j_callV (q := 100) (As := []) (rest := []) C (k_X9_readsAction h2) cw_X9_readsAction ml_X9_233 m_100 ce_100 rfl rfl ⟨Nat.le_of_ble_eq_true rfl, Nat.le_of_ble_eq_true rfl⟩ ⟨Nat.le_of_ble_eq_true rfl, Nat.le_of_ble_eq_true rfl⟩ rfl (Nat.le_of_ble_eq_true rfl) dX9_isComplete_6 ?_
  refine j_if_eq C 49 dX9_isComplete_9 (by decide) hf (fun y4 hf => ?_) (fun y4 hf => ?_)
  · refine j_iconst (v := 0) C (by decide) dX9_isComplete_49 ?_
    obtain rfl := Option.some.inj hf
    exact j_zret C hr hk (by decide) ⟨Nat.le_of_ble_eq_true rfl, Nat.le_of_ble_eq_true rfl⟩ rfl dX9_isComplete_50
  · refine j_aload_n C 0 rfl dX9_isComplete_12 ?_
    refine j_get (q := 100) (kf := 28) (T := TX9) (N := 33) (RC := RX9) C m_100 ce_100 rfl in_X9 (by decide) (fun _ h9 => h9) fl_X9_218 rfl dX9_isComplete_13 ?_
    refine j_aload_n C 0 rfl dX9_isComplete_16 ?_
    refine j_get (q := 100) (kf := 27) (T := TX9) (N := 33) (RC := RX9) C m_100 ce_100 rfl in_X9 (by decide) (fun _ h9 => h9) fl_X9_215 rfl dX9_isComplete_17 ?_
    refine j_icmp_ne C 25 dX9_isComplete_20 (by decide) hf (fun y5 hf => ?_) (fun y5 hf => ?_)
    · refine j_aload_n C 0 rfl dX9_isComplete_25 ?_
      obtain ⟨z6, h7, hf⟩ := bnd_some hf
      refine j_callV (q := 100) (As := []) (rest := []) C (k_X9_sign h7) cw_X9_sign ml_X9_221 m_100 ce_100 rfl rfl ⟨Nat.le_of_ble_eq_true rfl, Nat.le_of_ble_eq_true rfl⟩ ⟨Nat.le_of_ble_eq_true rfl, Nat.le_of_ble_eq_true rfl⟩ rfl (Nat.le_of_ble_eq_true rfl) dX9_isComplete_26 ?_
      refine j_bipush (v := 44) C (by decide) dX9_isComplete_29 ?_
      refine j_icmp_eq C 36 dX9_isComplete_31 (by decide) hf (fun y9 hf => ?_) (fun y9 hf => ?_)
      · refine j_aload_n C 0 rfl dX9_isComplete_36 ?_
        refine j_dup C rfl dX9_isComplete_37 ?_
        refine j_get (q := 100) (kf := 28) (T := TX9) (N := 33) (RC := RX9) C m_100 ce_100 rfl in_X9 (by decide) (fun _ h9 => h9) fl_X9_218 rfl dX9_isComplete_38 ?_
        refine j_iconst (v := 1) C (by decide) dX9_isComplete_41 ?_
        refine j_iadd C dX9_isComplete_42 ?_
        refine put_X9_28 C fl_X9_218 rfl rfl dX9_isComplete_43 ?_
        refine j_goto C 5 dX9_isComplete_46 (by decide) ?_
        refine j_sub [0] rfl ?_
        exact K5 (sMhi z1.2 100 28 ((Mhi z1.2 100 28) + 1)) hf
      · refine j_iconst (v := 0) C (by decide) dX9_isComplete_34 ?_
        obtain rfl := Option.some.inj hf
        exact j_zret C hr hk (by decide) ⟨Nat.le_of_ble_eq_true rfl, Nat.le_of_ble_eq_true rfl⟩ rfl dX9_isComplete_35
    · refine j_iconst (v := 1) C (by decide) dX9_isComplete_23 ?_
      obtain rfl := Option.some.inj hf
      exact j_zret C hr hk (by decide) ⟨Nat.le_of_ble_eq_true rfl, Nat.le_of_ble_eq_true rfl⟩ rfl dX9_isComplete_24
theorem wl_X9_isComplete_5 {p : Program} {l : Launch} {e : Env} {s : State} {m : MethodId} {args : Array Value} {below : List Frame} {meth : Method} {c : Code} {G : GT} {A : Nat → Prop} {ad : Nat → Nat} (C : CX G A RX9 cX9_isComplete 1 p s m args c) (hr : meth.sig.returnType = (some .boolean)) (hk : meth.locks = false) {a : KS} {rr : Int32 × MS} (fuel : Nat)   : ∀ (b : MS), l_X9_isComplete_5 fuel  b = some rr → J p l e (RM 3) s m args below meth c G A 1 (MQ below (QV (some (.int rr.1)) (PosW G ad a rr.2 A) A) args s 0 0 A) 0 0 ad a b 5 [(0, .ref (ad 100))] [] := by
  induction fuel with
  | zero => intro b hf; cases hf
  | succ n ih =>
    intro b hf
    have hf : f_X9_isComplete_5 (l_X9_isComplete_5 n ) b = some rr := hf
    exact w_X9_isComplete_5 C hr hk (l_X9_isComplete_5 n ) ih b hf
set_option maxRecDepth 100000 in
set_option maxHeartbeats 4000000 in
theorem k_X9_isComplete {l : Launch} {G : GT} {ad : Nat → Nat} {b : MS} {a : KS} {rr : Int32 × MS} (hf : f_X9_isComplete b = some rr) : MT l G yX9_isComplete cX9_isComplete 1 (some .boolean) (RM 3) [.ref (ad 100)] ad a b (some (.int rr.1)) a rr.2 := by
  refine MT_of (by decide) (Nat.le_of_ble_eq_true rfl) ?_
  intro p e s m args below meth c A C hr hk
  unfold f_X9_isComplete at hf
  refine j_aload_n C 0 rfl dX9_isComplete_0 ?_
  refine j_iconst (v := 0) C (by decide) dX9_isComplete_1 ?_
  refine put_X9_28 C fl_X9_218 rfl rfl dX9_isComplete_2 ?_
  refine j_sub [0] rfl ?_
  exact wl_X9_isComplete_5 C hr hk FU (sMhi b 100 28 0) hf
set_option maxRecDepth 100000 in
set_option maxHeartbeats 4000000 in
theorem k_X9_firstError {l : Launch} {G : GT} {ad : Nat → Nat} {b : MS} {a : KS} {rr : Int32 × MS} (hf : f_X9_firstError b = some rr) : MT l G yX9_firstError cX9_firstError 1 (some .int) (RM 4) [.ref (ad 100)] ad a b (some (.int rr.1)) a rr.2 := by
  refine MT_of (by decide) (Nat.le_of_ble_eq_true rfl) ?_
  intro p e s m args below meth c A C hr hk
  unfold f_X9_firstError at hf
  refine j_aload_n C 0 rfl dX9_firstError_0 ?_
  refine j_iconst (v := 0) C (by decide) dX9_firstError_1 ?_
  refine put_X9_0 C fl_X9_66 rfl rfl dX9_firstError_2 ?_
  refine j_aload_n C 0 rfl dX9_firstError_5 ?_
  obtain ⟨z1, h2, hf⟩ := bnd_some hf
  refine j_callV (q := 100) (As := []) (rest := []) C (k_X9_isComplete h2) cw_X9_isComplete ml_X9_236 m_100 ce_100 rfl rfl ⟨Nat.le_of_ble_eq_true rfl, Nat.le_of_ble_eq_true rfl⟩ ⟨Nat.le_of_ble_eq_true rfl, Nat.le_of_ble_eq_true rfl⟩ rfl (Nat.le_of_ble_eq_true rfl) dX9_firstError_6 ?_
  refine j_pop C rfl dX9_firstError_9 ?_
  refine j_aload_n C 0 rfl dX9_firstError_10 ?_
  refine j_get (q := 100) (kf := 28) (T := TX9) (N := 33) (RC := RX9) C m_100 ce_100 rfl in_X9 (by decide) (fun _ h9 => h9) fl_X9_218 rfl dX9_firstError_11 ?_
  obtain rfl := Option.some.inj hf
  exact j_iret C hr hk ⟨Nat.le_of_ble_eq_true rfl, Nat.le_of_ble_eq_true rfl⟩ rfl dX9_firstError_14
set_option maxRecDepth 100000 in
set_option maxHeartbeats 4000000 in
theorem w_X9_does_85 {p : Program} {l : Launch} {e : Env} {s : State} {m : MethodId} {args : Array Value} {below : List Frame} {meth : Method} {c : Code} {G : GT} {A : Nat → Prop} {ad : Nat → Nat} (C : CX G A RX9 cX9_does 1 p s m args c) (hr : meth.sig.returnType = (some .int)) (hk : meth.locks = false) {a : KS} {rr : Int32 × MS}   (b : MS) (s1 : Int32) (hf : f_X9_does_85 b s1 = some rr) : J p l e (RM 4) s m args below meth c G A 1 (MQ below (QV (some (.int rr.1)) (PosW G ad a rr.2 A) A) args s 0 0 A) 0 0 ad a b 85 [] [.int s1, .ref (ad 100)] := by
  unfold f_X9_does_85 at hf
  obtain ⟨z1, h2, hf⟩ := bnd_some hf
  refine j_callV (q := 100) (As := [.int s1]) (rest := []) C (k_X9_turns h2) cw_X9_turns ml_X9_144 m_100 ce_100 rfl rfl ⟨Nat.le_of_ble_eq_true rfl, Nat.le_of_ble_eq_true rfl⟩ ⟨Nat.le_of_ble_eq_true rfl, Nat.le_of_ble_eq_true rfl⟩ rfl (Nat.le_of_ble_eq_true rfl) dX9_does_85 ?_
  refine j_pop C rfl dX9_does_88 ?_
  refine j_iconst (v := 0) C (by decide) dX9_does_89 ?_
  obtain rfl := Option.some.inj hf
  exact j_iret C hr hk ⟨Nat.le_of_ble_eq_true rfl, Nat.le_of_ble_eq_true rfl⟩ rfl dX9_does_90
set_option maxRecDepth 100000 in
set_option maxHeartbeats 4000000 in
theorem k_X9_does {l : Launch} {G : GT} {ad : Nat → Nat} {b : MS} {a : KS} {rr : Int32 × MS} (hf : f_X9_does b = some rr) : MT l G yX9_does cX9_does 1 (some .int) (RM 4) [.ref (ad 100)] ad a b (some (.int rr.1)) a rr.2 := by
  refine MT_of (by decide) (Nat.le_of_ble_eq_true rfl) ?_
  intro p e s m args below meth c A C hr hk
  unfold f_X9_does at hf
  refine j_aload_n C 0 rfl dX9_does_0 ?_
  refine j_get (q := 100) (kf := 29) (T := TX9) (N := 33) (RC := RX9) C m_100 ce_100 rfl in_X9 (by decide) (fun _ h9 => h9) fl_X9_227 rfl dX9_does_1 ?_
  refine j_letI hf (fun x1 hf => ?_)
  refine j_peel (v := 104) hf (fun y2 hf => ?_) (fun y2 hf => ?_)
  · subst y2
    refine j_look (tgt := 45) (off := 41) C dX9_does_4 (by decide) (by decide) (by decide) ?_
    refine j_aload_n C 0 rfl dX9_does_45 ?_
    obtain ⟨z3, h4, hf⟩ := bnd_some hf
    refine j_callV (q := 100) (As := []) (rest := []) C (k_X9_held h4) cw_X9_held ml_X9_173 m_100 ce_100 rfl rfl ⟨Nat.le_of_ble_eq_true rfl, Nat.le_of_ble_eq_true rfl⟩ ⟨Nat.le_of_ble_eq_true rfl, Nat.le_of_ble_eq_true rfl⟩ rfl (Nat.le_of_ble_eq_true rfl) dX9_does_46 ?_
    refine j_pop C rfl dX9_does_49 ?_
    refine j_iconst (v := 0) C (by decide) dX9_does_50 ?_
    obtain rfl := Option.some.inj hf
    exact j_iret C hr hk ⟨Nat.le_of_ble_eq_true rfl, Nat.le_of_ble_eq_true rfl⟩ rfl dX9_does_51
  refine j_peel (v := 112) hf (fun y6 hf => ?_) (fun y6 hf => ?_)
  · subst y6
    refine j_look (tgt := 40) (off := 36) C dX9_does_4 (by decide) (by decide) (by decide) ?_
    refine j_aload_n C 0 rfl dX9_does_40 ?_
    obtain ⟨z7, h8, hf⟩ := bnd_some hf
    refine j_callV (q := 100) (As := []) (rest := []) C (k_X9_presses h8) cw_X9_presses ml_X9_167 m_100 ce_100 rfl rfl ⟨Nat.le_of_ble_eq_true rfl, Nat.le_of_ble_eq_true rfl⟩ ⟨Nat.le_of_ble_eq_true rfl, Nat.le_of_ble_eq_true rfl⟩ rfl (Nat.le_of_ble_eq_true rfl) dX9_does_41 ?_
    obtain rfl := Option.some.inj hf
    exact j_iret C hr hk ⟨Nat.le_of_ble_eq_true rfl, Nat.le_of_ble_eq_true rfl⟩ rfl dX9_does_44
  refine j_peel (v := 116) hf (fun y10 hf => ?_) (fun y10 hf => ?_)
  · subst y10
    refine j_look (tgt := 52) (off := 48) C dX9_does_4 (by decide) (by decide) (by decide) ?_
    refine j_aload_n C 0 rfl dX9_does_52 ?_
    refine j_aload_n C 0 rfl dX9_does_53 ?_
    refine j_get (q := 100) (kf := 30) (T := TX9) (N := 33) (RC := RX9) C m_100 ce_100 rfl in_X9 (by decide) (fun _ h9 => h9) fl_X9_224 rfl dX9_does_54 ?_
    obtain ⟨z11, h12, hf⟩ := bnd_some hf
    refine j_callV (q := 100) (As := [.int (Mhi b 100 30)]) (rest := []) C (k_X9_ticksPass h12) cw_X9_ticksPass ml_X9_176 m_100 ce_100 rfl rfl ⟨Nat.le_of_ble_eq_true rfl, Nat.le_of_ble_eq_true rfl⟩ ⟨Nat.le_of_ble_eq_true rfl, Nat.le_of_ble_eq_true rfl⟩ rfl (Nat.le_of_ble_eq_true rfl) dX9_does_57 ?_
    refine j_pop C rfl dX9_does_60 ?_
    refine j_iconst (v := 0) C (by decide) dX9_does_61 ?_
    obtain rfl := Option.some.inj hf
    exact j_iret C hr hk ⟨Nat.le_of_ble_eq_true rfl, Nat.le_of_ble_eq_true rfl⟩ rfl dX9_does_62
  refine j_look (tgt := 63) (off := 59) C dX9_does_4 (by decide) (sw_look_104_112_116 y2 y6 y10) (by decide) ?_
  refine j_aload_n C 0 rfl dX9_does_63 ?_
  refine j_aload_n C 0 rfl dX9_does_64 ?_
  refine j_get (q := 100) (kf := 29) (T := TX9) (N := 33) (RC := RX9) C m_100 ce_100 rfl in_X9 (by decide) (fun _ h9 => h9) fl_X9_227 rfl dX9_does_65 ?_
  refine j_bipush (v := 114) C (by decide) dX9_does_68 ?_
  refine j_icmp_ne C 80 dX9_does_70 (by decide) hf (fun y14 hf => ?_) (fun y14 hf => ?_)
  · refine j_aload_n C 0 rfl dX9_does_80 ?_
    refine j_get (q := 100) (kf := 30) (T := TX9) (N := 33) (RC := RX9) C m_100 ce_100 rfl in_X9 (by decide) (fun _ h9 => h9) fl_X9_224 rfl dX9_does_81 ?_
    refine j_ineg C dX9_does_84 ?_
    refine j_sub [] rfl ?_
    exact w_X9_does_85 C hr hk b (-(Mhi b 100 30)) hf
  · refine j_aload_n C 0 rfl dX9_does_73 ?_
    refine j_get (q := 100) (kf := 30) (T := TX9) (N := 33) (RC := RX9) C m_100 ce_100 rfl in_X9 (by decide) (fun _ h9 => h9) fl_X9_224 rfl dX9_does_74 ?_
    refine j_goto C 85 dX9_does_77 (by decide) ?_
    refine j_sub [] rfl ?_
    exact w_X9_does_85 C hr hk b (Mhi b 100 30) hf
set_option maxRecDepth 100000 in
set_option maxHeartbeats 4000000 in
theorem w_X9_run_28 {p : Program} {l : Launch} {e : Env} {s : State} {m : MethodId} {args : Array Value} {below : List Frame} {meth : Method} {c : Code} {G : GT} {A : Nat → Prop} {ad : Nat → Nat} (C : CX G A RX9 cX9_run 2 p s m args c) (hr : meth.sig.returnType = (some .int)) (hk : meth.locks = false) {a : KS} {rr : Int32 × MS} (c28 : MS → Int32 → Option (Int32 × MS)) (K28 : ∀ (b : MS) (v1 : Int32), c28 b v1 = some rr → J p l e (RM 5) s m args below meth c G A 2 (MQ below (QV (some (.int rr.1)) (PosW G ad a rr.2 A) A) args s 0 0 A) 0 0 ad a b 28 [(0, .ref (ad 100)), (1, .int v1)] []) (b : MS) (v1 : Int32) (hf : f_X9_run_28 c28 b v1 = some rr) : J p l e (RM 5) s m args below meth c G A 2 (MQ below (QV (some (.int rr.1)) (PosW G ad a rr.2 A) A) args s 0 0 A) 0 0 ad a b 28 [(0, .ref (ad 100)), (1, .int v1)] [] := by
  unfold f_X9_run_28 at hf
  refine j_aload_n C 0 rfl dX9_run_28 ?_
  obtain ⟨z1, h2, hf⟩ := bnd_some hf
  refine j_callV (q := 100) (As := []) (rest := []) C (k_X9_readsAction h2) cw_X9_readsAction ml_X9_233 m_100 ce_100 rfl rfl ⟨Nat.le_of_ble_eq_true rfl, Nat.le_of_ble_eq_true rfl⟩ ⟨Nat.le_of_ble_eq_true rfl, Nat.le_of_ble_eq_true rfl⟩ rfl (Nat.le_of_ble_eq_true rfl) dX9_run_29 ?_
  refine j_if_eq C 55 dX9_run_32 (by decide) hf (fun y4 hf => ?_) (fun y4 hf => ?_)
  · refine j_aload_n C 0 rfl dX9_run_55 ?_
    refine j_iconst (v := 0) C (by decide) dX9_run_56 ?_
    refine put_X9_27 C fl_X9_215 rfl rfl dX9_run_57 ?_
    refine j_iload_n C 1 rfl dX9_run_60 ?_
    obtain rfl := Option.some.inj hf
    exact j_iret C hr hk ⟨Nat.le_of_ble_eq_true rfl, Nat.le_of_ble_eq_true rfl⟩ rfl dX9_run_61
  · refine j_iload_n C 1 rfl dX9_run_35 ?_
    refine j_aload_n C 0 rfl dX9_run_36 ?_
    obtain ⟨z5, h6, hf⟩ := bnd_some hf
    refine j_callV (q := 100) (As := []) (rest := [.int v1]) C (k_X9_does h6) cw_X9_does ml_X9_239 m_100 ce_100 rfl rfl ⟨Nat.le_of_ble_eq_true rfl, Nat.le_of_ble_eq_true rfl⟩ ⟨Nat.le_of_ble_eq_true rfl, Nat.le_of_ble_eq_true rfl⟩ rfl (Nat.le_of_ble_eq_true rfl) dX9_run_37 ?_
    refine j_iadd C dX9_run_40 ?_
    refine j_letI hf (fun x8 hf => ?_)
    refine j_istore_n (i := 1) (lv' := [(1, .int x8), (0, .ref (ad 100))]) C dX9_run_41 rfl (by decide) rfl ?_
    refine j_aload_n C 1 rfl dX9_run_42 ?_
    refine j_dup C rfl dX9_run_43 ?_
    refine j_get (q := 100) (kf := 28) (T := TX9) (N := 33) (RC := RX9) C m_100 ce_100 rfl in_X9 (by decide) (fun _ h9 => h9) fl_X9_218 rfl dX9_run_44 ?_
    refine j_iconst (v := 1) C (by decide) dX9_run_47 ?_
    refine j_iadd C dX9_run_48 ?_
    refine put_X9_28 C fl_X9_218 rfl rfl dX9_run_49 ?_
    refine j_goto C 28 dX9_run_52 (by decide) ?_
    refine j_sub [1, 0] rfl ?_
    exact K28 (sMhi z5.2 100 28 ((Mhi z5.2 100 28) + 1)) x8 hf
theorem wl_X9_run_28 {p : Program} {l : Launch} {e : Env} {s : State} {m : MethodId} {args : Array Value} {below : List Frame} {meth : Method} {c : Code} {G : GT} {A : Nat → Prop} {ad : Nat → Nat} (C : CX G A RX9 cX9_run 2 p s m args c) (hr : meth.sig.returnType = (some .int)) (hk : meth.locks = false) {a : KS} {rr : Int32 × MS} (fuel : Nat)   : ∀ (b : MS) (v1 : Int32), l_X9_run_28 fuel  b v1 = some rr → J p l e (RM 5) s m args below meth c G A 2 (MQ below (QV (some (.int rr.1)) (PosW G ad a rr.2 A) A) args s 0 0 A) 0 0 ad a b 28 [(0, .ref (ad 100)), (1, .int v1)] [] := by
  induction fuel with
  | zero => intro b v1 hf; cases hf
  | succ n ih =>
    intro b v1 hf
    have hf : f_X9_run_28 (l_X9_run_28 n ) b v1 = some rr := hf
    exact w_X9_run_28 C hr hk (l_X9_run_28 n ) ih b v1 hf
set_option maxRecDepth 100000 in
set_option maxHeartbeats 4000000 in
theorem w_X9_run_13 {p : Program} {l : Launch} {e : Env} {s : State} {m : MethodId} {args : Array Value} {below : List Frame} {meth : Method} {c : Code} {G : GT} {A : Nat → Prop} {ad : Nat → Nat} (C : CX G A RX9 cX9_run 2 p s m args c) (hr : meth.sig.returnType = (some .int)) (hk : meth.locks = false) {a : KS} {rr : Int32 × MS}   (b : MS) (s1 : Int32) (hf : f_X9_run_13 b s1 = some rr) : J p l e (RM 5) s m args below meth c G A 2 (MQ below (QV (some (.int rr.1)) (PosW G ad a rr.2 A) A) args s 0 0 A) 0 0 ad a b 13 [(0, .ref (ad 100))] [.int s1, .ref (ad 100)] := by
  unfold f_X9_run_13 at hf
  obtain ⟨z1, h2, hf⟩ := bnd_some hf
  refine j_callV (q := 100) (As := [.int s1]) (rest := []) C (k_X9_holds h2) cw_X9_holds ml_X9_109 m_100 ce_100 rfl rfl ⟨Nat.le_of_ble_eq_true rfl, Nat.le_of_ble_eq_true rfl⟩ ⟨Nat.le_of_ble_eq_true rfl, Nat.le_of_ble_eq_true rfl⟩ rfl (Nat.le_of_ble_eq_true rfl) dX9_run_13 ?_
  refine j_if_ne C 21 dX9_run_16 (by decide) hf (fun y4 hf => ?_) (fun y4 hf => ?_)
  · refine j_aload_n C 0 rfl dX9_run_21 ?_
    refine j_iconst (v := 0) C (by decide) dX9_run_22 ?_
    refine put_X9_28 C fl_X9_218 rfl rfl dX9_run_23 ?_
    refine j_iconst (v := 0) C (by decide) dX9_run_26 ?_
    refine j_istore_n (i := 1) (lv' := [(1, .int 0), (0, .ref (ad 100))]) C dX9_run_27 rfl (by decide) rfl ?_
    refine j_sub [1, 0] rfl ?_
    exact wl_X9_run_28 C hr hk FU (sMhi z1.2 100 28 0) 0 hf
  · refine j_iconst (v := 0) C (by decide) dX9_run_19 ?_
    obtain rfl := Option.some.inj hf
    exact j_iret C hr hk ⟨Nat.le_of_ble_eq_true rfl, Nat.le_of_ble_eq_true rfl⟩ rfl dX9_run_20
set_option maxRecDepth 100000 in
set_option maxHeartbeats 4000000 in
theorem k_X9_run {l : Launch} {G : GT} {ad : Nat → Nat} {b : MS} {a : KS} {rr : Int32 × MS} (hf : f_X9_run b = some rr) : MT l G yX9_run cX9_run 2 (some .int) (RM 5) [.ref (ad 100)] ad a b (some (.int rr.1)) a rr.2 := by
  refine MT_of (by decide) (Nat.le_of_ble_eq_true rfl) ?_
  intro p e s m args below meth c A C hr hk
  unfold f_X9_run at hf
  refine j_aload_n C 0 rfl dX9_run_0 ?_
  refine j_aload_n C 0 rfl dX9_run_1 ?_
  obtain ⟨z1, h2, hf⟩ := bnd_some hf
  refine j_callV (q := 100) (As := []) (rest := [.ref (ad 100)]) C (k_X9_isComplete h2) cw_X9_isComplete ml_X9_236 m_100 ce_100 rfl rfl ⟨Nat.le_of_ble_eq_true rfl, Nat.le_of_ble_eq_true rfl⟩ ⟨Nat.le_of_ble_eq_true rfl, Nat.le_of_ble_eq_true rfl⟩ rfl (Nat.le_of_ble_eq_true rfl) dX9_run_2 ?_
  refine j_if_eq C 12 dX9_run_5 (by decide) hf (fun y4 hf => ?_) (fun y4 hf => ?_)
  · refine j_iconst (v := 1) C (by decide) dX9_run_12 ?_
    refine j_sub [0] rfl ?_
    exact w_X9_run_13 C hr hk z1.2 1 hf
  · refine j_iconst (v := 0) C (by decide) dX9_run_8 ?_
    refine j_goto C 13 dX9_run_9 (by decide) ?_
    refine j_sub [0] rfl ?_
    exact w_X9_run_13 C hr hk z1.2 0 hf
set_option maxRecDepth 100000 in
set_option maxHeartbeats 4000000 in
theorem k_X9_mix {l : Launch} {G : GT} {ad : Nat → Nat} {b : MS} {v1 : Int64} {a : KS} {rr : MS} (hf : f_X9_mix b v1 = some rr) : MT l G yX9_mix cX9_mix 3 none (RM 0) [.ref (ad 100), .long v1] ad a b (none) a rr := by
  refine MT_of (by decide) (Nat.le_of_ble_eq_true rfl) ?_
  intro p e s m args below meth c A C hr hk
  unfold f_X9_mix at hf
  refine j_aload_n C 0 rfl dX9_mix_0 ?_
  refine j_ldc2 C wk_X9_242 dX9_mix_1 ?_
  refine j_aload_n C 0 rfl dX9_mix_4 ?_
  refine j_get (q := 100) (kf := 32) (T := TX9) (N := 33) (RC := RX9) C m_100 ce_100 rfl in_X9 (by decide) (fun _ h9 => h9) fl_X9_244 rfl dX9_mix_5 ?_
  refine j_lmul C dX9_mix_8 ?_
  refine j_lload_n C 1 rfl dX9_mix_9 ?_
  refine j_ladd C dX9_mix_10 ?_
  refine put_X9_32 C fl_X9_244 rfl rfl dX9_mix_11 ?_
  obtain rfl := Option.some.inj hf
  exact j_vret C hr hk ⟨Nat.le_of_ble_eq_true rfl, Nat.le_of_ble_eq_true rfl⟩ rfl dX9_mix_14
set_option maxRecDepth 100000 in
set_option maxHeartbeats 4000000 in
theorem w_X9_bits_13 {p : Program} {l : Launch} {e : Env} {s : State} {m : MethodId} {args : Array Value} {below : List Frame} {meth : Method} {c : Code} {G : GT} {A : Nat → Prop} {ad : Nat → Nat} (C : CX G A RX9 cX9_bits 3 p s m args c) (hr : meth.sig.returnType = (some .int)) (hk : meth.locks = false) {a : KS} {rr : Int32} (c13 : MS → UInt32 → Int32 → Option Int32) (K13 : ∀ (b : MS) (v1 : UInt32) (v2 : Int32), c13 b v1 v2 = some rr → J p l e (RM 0) s m args below meth c G A 3 (MQ below (QV (some (.int rr)) (PosW G ad a b A) A) args s 0 0 A) 0 0 ad a b 13 [(1, .float v1), (2, .int v2)] []) (b : MS) (v1 : UInt32) (v2 : Int32) (hf : f_X9_bits_13 c13 b v1 v2 = some rr) : J p l e (RM 0) s m args below meth c G A 3 (MQ below (QV (some (.int rr)) (PosW G ad a b A) A) args s 0 0 A) 0 0 ad a b 13 [(1, .float v1), (2, .int v2)] [] := by
  unfold f_X9_bits_13 at hf
  refine j_fload_n C 0 rfl dX9_bits_13 ?_
  refine j_fconst1 C dX9_bits_14 ?_
  refine j_fcmp C dX9_bits_15 ?_
  refine j_if_ge C 29 dX9_bits_16 (by decide) hf (fun y1 hf => ?_) (fun y1 hf => ?_)
  · refine j_iload_n C 1 rfl dX9_bits_29 ?_
    refine j_ldc C wk_X9_248 dX9_bits_30 ?_
    refine j_imul C dX9_bits_32 ?_
    refine j_fload_n C 0 rfl dX9_bits_33 ?_
    refine j_fconst1 C dX9_bits_34 ?_
    obtain ⟨h2, hf⟩ := gd_some hf
    refine j_fsub C (nn32_of h2) dX9_bits_35 ?_
    refine j_ldcf C wk_X9_249 dX9_bits_36 ?_
    obtain ⟨h3, hf⟩ := gd_some hf
    refine j_fmul C (nn32_of h3) dX9_bits_38 ?_
    refine j_f2i C dX9_bits_39 ?_
    refine j_iadd C dX9_bits_40 ?_
    obtain rfl := Option.some.inj hf
    exact j_iret C hr hk ⟨Nat.le_of_ble_eq_true rfl, Nat.le_of_ble_eq_true rfl⟩ rfl dX9_bits_41
  · refine j_fload_n C 0 rfl dX9_bits_19 ?_
    refine j_fconst2 C dX9_bits_20 ?_
    obtain ⟨h4, hf⟩ := gd_some hf
    refine j_fmul C (nn32_of h4) dX9_bits_21 ?_
    refine j_letF hf (fun x5 hf => ?_)
    refine j_fstore_n (i := 1) (lv' := [(1, .float x5), (2, .int v2)]) C dX9_bits_22 rfl (by decide) rfl ?_
    refine j_iinc (v := v2 + (-1)) (lv' := [(2, .int (v2 + (-1))), (1, .float x5)]) C 1 rfl (ii_m1 _) (by decide) rfl dX9_bits_23 ?_
    refine j_goto C 13 dX9_bits_26 (by decide) ?_
    refine j_sub [1, 0] rfl ?_
    exact K13 b x5 (v2 + (-1)) hf
theorem wl_X9_bits_13 {p : Program} {l : Launch} {e : Env} {s : State} {m : MethodId} {args : Array Value} {below : List Frame} {meth : Method} {c : Code} {G : GT} {A : Nat → Prop} {ad : Nat → Nat} (C : CX G A RX9 cX9_bits 3 p s m args c) (hr : meth.sig.returnType = (some .int)) (hk : meth.locks = false) {a : KS} {rr : Int32} (fuel : Nat)   : ∀ (b : MS) (v1 : UInt32) (v2 : Int32), l_X9_bits_13 fuel  b v1 v2 = some rr → J p l e (RM 0) s m args below meth c G A 3 (MQ below (QV (some (.int rr)) (PosW G ad a b A) A) args s 0 0 A) 0 0 ad a b 13 [(1, .float v1), (2, .int v2)] [] := by
  induction fuel with
  | zero => intro b v1 v2 hf; cases hf
  | succ n ih =>
    intro b v1 v2 hf
    have hf : f_X9_bits_13 (l_X9_bits_13 n ) b v1 v2 = some rr := hf
    exact w_X9_bits_13 C hr hk (l_X9_bits_13 n ) ih b v1 v2 hf
set_option maxRecDepth 100000 in
set_option maxHeartbeats 4000000 in
theorem k_X9_bits {l : Launch} {G : GT} {ad : Nat → Nat} {b : MS} {v0 : UInt32} {a : KS} {rr : Int32} (hf : f_X9_bits b v0 = some rr) : MT l G yX9_bits cX9_bits 3 (some .int) (RM 0) [.float v0] ad a b (some (.int rr)) a b := by
  refine MT_of (by decide) (Nat.le_of_ble_eq_true rfl) ?_
  intro p e s m args below meth c A C hr hk
  unfold f_X9_bits at hf
  refine j_fload_n C 0 rfl dX9_bits_0 ?_
  refine j_fconst0 C dX9_bits_1 ?_
  refine j_fcmp C dX9_bits_2 ?_
  refine j_if_ne C 8 dX9_bits_3 (by decide) hf (fun y1 hf => ?_) (fun y1 hf => ?_)
  · refine j_fload_n C 0 rfl dX9_bits_8 ?_
    refine j_fstore_n (i := 1) (lv' := [(1, .float v0), (0, .float v0)]) C dX9_bits_9 rfl (by decide) rfl ?_
    refine j_bipush (v := 127) C (by decide) dX9_bits_10 ?_
    refine j_istore_n (i := 2) (lv' := [(2, .int 127), (1, .float v0), (0, .float v0)]) C dX9_bits_12 rfl (by decide) rfl ?_
    refine j_sub [1, 0] rfl ?_
    exact wl_X9_bits_13 C hr hk FU b v0 127 hf
  · refine j_iconst (v := 0) C (by decide) dX9_bits_6 ?_
    obtain rfl := Option.some.inj hf
    exact j_iret C hr hk ⟨Nat.le_of_ble_eq_true rfl, Nat.le_of_ble_eq_true rfl⟩ rfl dX9_bits_7
set_option maxRecDepth 100000 in
set_option maxHeartbeats 4000000 in
theorem w_X9_digest_175 {p : Program} {l : Launch} {e : Env} {s : State} {m : MethodId} {args : Array Value} {below : List Frame} {meth : Method} {c : Code} {G : GT} {A : Nat → Prop} {ad : Nat → Nat} (C : CX G A RX9 cX9_digest 3 p s m args c) (hr : meth.sig.returnType = (some .long)) (hk : meth.locks = false) {a : KS} {rr : Int64 × MS} (c108 : MS → Int32 → Option (Int64 × MS)) (K108 : ∀ (b : MS) (v1 : Int32), c108 b v1 = some rr → J p l e (RM 4) s m args below meth c G A 3 (MQ below (QV (some (.long rr.1)) (PosW G ad a rr.2 A) A) args s 0 0 A) 0 0 ad a b 108 [(0, .ref (ad 100)), (1, .int v1)] []) (b : MS) (v1 : Int32) (s1 : Int64) (hf : f_X9_digest_175 c108 b v1 s1 = some rr) : J p l e (RM 4) s m args below meth c G A 3 (MQ below (QV (some (.long rr.1)) (PosW G ad a rr.2 A) A) args s 0 0 A) 0 0 ad a b 175 [(0, .ref (ad 100)), (1, .int v1)] [.long s1, .ref (ad 100)] := by
  unfold f_X9_digest_175 at hf
  obtain ⟨z1, h2, hf⟩ := bnd_some hf
  refine j_callV (q := 100) (As := [.long s1]) (rest := []) C (k_X9_mix h2) cw_X9_mix ml_X9_252 m_100 ce_100 rfl rfl ⟨Nat.le_of_ble_eq_true rfl, Nat.le_of_ble_eq_true rfl⟩ ⟨Nat.le_of_ble_eq_true rfl, Nat.le_of_ble_eq_true rfl⟩ rfl (Nat.le_of_ble_eq_true rfl) dX9_digest_175 ?_
  refine j_iinc (v := v1 + 1) (lv' := [(1, .int (v1 + 1)), (0, .ref (ad 100))]) C 1 rfl rfl (by decide) rfl dX9_digest_178 ?_
  refine j_goto C 108 dX9_digest_181 (by decide) ?_
  refine j_sub [1, 0] rfl ?_
  exact K108 z1 (v1 + 1) hf
set_option maxRecDepth 100000 in
set_option maxHeartbeats 4000000 in
theorem w_X9_digest_152 {p : Program} {l : Launch} {e : Env} {s : State} {m : MethodId} {args : Array Value} {below : List Frame} {meth : Method} {c : Code} {G : GT} {A : Nat → Prop} {ad : Nat → Nat} (C : CX G A RX9 cX9_digest 3 p s m args c) (hr : meth.sig.returnType = (some .long)) (hk : meth.locks = false) {a : KS} {rr : Int64 × MS} (c108 : MS → Int32 → Option (Int64 × MS)) (K108 : ∀ (b : MS) (v1 : Int32), c108 b v1 = some rr → J p l e (RM 4) s m args below meth c G A 3 (MQ below (QV (some (.long rr.1)) (PosW G ad a rr.2 A) A) args s 0 0 A) 0 0 ad a b 108 [(0, .ref (ad 100)), (1, .int v1)] []) (b : MS) (v1 : Int32) (s1 : Int64) (hf : f_X9_digest_152 c108 b v1 s1 = some rr) : J p l e (RM 4) s m args below meth c G A 3 (MQ below (QV (some (.long rr.1)) (PosW G ad a rr.2 A) A) args s 0 0 A) 0 0 ad a b 152 [(0, .ref (ad 100)), (1, .int v1)] [.long s1, .ref (ad 100)] := by
  unfold f_X9_digest_152 at hf
  obtain ⟨z1, h2, hf⟩ := bnd_some hf
  refine j_callV (q := 100) (As := [.long s1]) (rest := []) C (k_X9_mix h2) cw_X9_mix ml_X9_252 m_100 ce_100 rfl rfl ⟨Nat.le_of_ble_eq_true rfl, Nat.le_of_ble_eq_true rfl⟩ ⟨Nat.le_of_ble_eq_true rfl, Nat.le_of_ble_eq_true rfl⟩ rfl (Nat.le_of_ble_eq_true rfl) dX9_digest_152 ?_
  refine j_aload_n C 0 rfl dX9_digest_155 ?_
  refine j_aload_n C 0 rfl dX9_digest_156 ?_
  refine j_iload_n C 1 rfl dX9_digest_157 ?_
  obtain ⟨z4, h5, hf⟩ := bnd_some hf
  refine j_callV (q := 100) (As := [.int v1]) (rest := [.ref (ad 100)]) C (k_X9_isMenu h5) cw_X9_isMenu ml_X9_100 m_100 ce_100 rfl rfl ⟨Nat.le_of_ble_eq_true rfl, Nat.le_of_ble_eq_true rfl⟩ ⟨Nat.le_of_ble_eq_true rfl, Nat.le_of_ble_eq_true rfl⟩ rfl (Nat.le_of_ble_eq_true rfl) dX9_digest_158 ?_
  refine j_if_eq C 168 dX9_digest_161 (by decide) hf (fun y7 hf => ?_) (fun y7 hf => ?_)
  · refine j_aload_n C 0 rfl dX9_digest_168 ?_
    refine j_get (q := 100) (kf := 7) (T := TX9) (N := 33) (RC := RX9) C m_100 ce_100 rfl in_X9 (by decide) (fun _ h9 => h9) fl_X9_25 rfl dX9_digest_169 ?_
    refine j_iload_n C 1 rfl dX9_digest_172 ?_
    refine j_iald (q := 107) C m_107 ce_107 hf dX9_digest_173 (fun hf => ?_)
    refine j_i2l C dX9_digest_174 ?_
    refine j_sub [0, 1] rfl ?_
    exact w_X9_digest_175 C hr hk c108 K108 z1 v1 ((Mhi z1 107 (v1.toNatClampNeg)).toInt64) hf
  · refine j_lconst (v := 0) C (by decide) dX9_digest_164 ?_
    refine j_goto C 175 dX9_digest_165 (by decide) ?_
    refine j_sub [0, 1] rfl ?_
    exact w_X9_digest_175 C hr hk c108 K108 z1 v1 0 hf
set_option maxRecDepth 100000 in
set_option maxHeartbeats 4000000 in
theorem w_X9_digest_223 {p : Program} {l : Launch} {e : Env} {s : State} {m : MethodId} {args : Array Value} {below : List Frame} {meth : Method} {c : Code} {G : GT} {A : Nat → Prop} {ad : Nat → Nat} (C : CX G A RX9 cX9_digest 3 p s m args c) (hr : meth.sig.returnType = (some .long)) (hk : meth.locks = false) {a : KS} {rr : Int64 × MS} (c211 : MS → Int32 → Option (Int64 × MS)) (c223 : MS → Int32 → Int32 → Option (Int64 × MS)) (K211 : ∀ (b : MS) (v1 : Int32), c211 b v1 = some rr → J p l e (RM 4) s m args below meth c G A 3 (MQ below (QV (some (.long rr.1)) (PosW G ad a rr.2 A) A) args s 0 0 A) 0 0 ad a b 211 [(0, .ref (ad 100)), (1, .int v1)] []) (K223 : ∀ (b : MS) (v1 : Int32) (v2 : Int32), c223 b v1 v2 = some rr → J p l e (RM 4) s m args below meth c G A 3 (MQ below (QV (some (.long rr.1)) (PosW G ad a rr.2 A) A) args s 0 0 A) 0 0 ad a b 223 [(0, .ref (ad 100)), (1, .int v1), (2, .int v2)] []) (b : MS) (v1 : Int32) (v2 : Int32) (hf : f_X9_digest_223 c211 c223 b v1 v2 = some rr) : J p l e (RM 4) s m args below meth c G A 3 (MQ below (QV (some (.long rr.1)) (PosW G ad a rr.2 A) A) args s 0 0 A) 0 0 ad a b 223 [(0, .ref (ad 100)), (1, .int v1), (2, .int v2)] [] := by
  unfold f_X9_digest_223 at hf
  refine j_iload_n C 2 rfl dX9_digest_223 ?_
  refine j_bipush (v := 16) C (by decide) dX9_digest_224 ?_
  refine j_icmp_ge C 246 dX9_digest_226 (by decide) hf (fun y1 hf => ?_) (fun y1 hf => ?_)
  · refine j_iinc (v := v1 + 1) (lv' := [(1, .int (v1 + 1)), (0, .ref (ad 100)), (2, .int v2)]) C 1 rfl rfl (by decide) rfl dX9_digest_246 ?_
    refine j_goto C 211 dX9_digest_249 (by decide) ?_
    refine j_sub [1, 0] rfl ?_
    exact K211 b (v1 + 1) hf
  · refine j_aload_n C 0 rfl dX9_digest_229 ?_
    refine j_aload_n C 0 rfl dX9_digest_230 ?_
    refine j_get (q := 100) (kf := 31) (T := TX9) (N := 33) (RC := RX9) C m_100 ce_100 rfl in_X9 (by decide) (fun _ h9 => h9) fl_X9_59 rfl dX9_digest_231 ?_
    refine j_iload_n C 2 rfl dX9_digest_234 ?_
    refine j_iald (q := 131) C m_131 ce_131 hf dX9_digest_235 (fun hf => ?_)
    refine j_i2l C dX9_digest_236 ?_
    obtain ⟨z2, h3, hf⟩ := bnd_some hf
    refine j_callV (q := 100) (As := [.long ((Mhi b 131 (v2.toNatClampNeg)).toInt64)]) (rest := []) C (k_X9_mix h3) cw_X9_mix ml_X9_252 m_100 ce_100 rfl rfl ⟨Nat.le_of_ble_eq_true rfl, Nat.le_of_ble_eq_true rfl⟩ ⟨Nat.le_of_ble_eq_true rfl, Nat.le_of_ble_eq_true rfl⟩ rfl (Nat.le_of_ble_eq_true rfl) dX9_digest_237 ?_
    refine j_iinc (v := v2 + 1) (lv' := [(2, .int (v2 + 1)), (0, .ref (ad 100)), (1, .int v1)]) C 2 rfl rfl (by decide) rfl dX9_digest_240 ?_
    refine j_goto C 223 dX9_digest_243 (by decide) ?_
    refine j_sub [1, 2, 0] rfl ?_
    exact K223 z2 v1 (v2 + 1) hf
theorem wl_X9_digest_223 {p : Program} {l : Launch} {e : Env} {s : State} {m : MethodId} {args : Array Value} {below : List Frame} {meth : Method} {c : Code} {G : GT} {A : Nat → Prop} {ad : Nat → Nat} (C : CX G A RX9 cX9_digest 3 p s m args c) (hr : meth.sig.returnType = (some .long)) (hk : meth.locks = false) {a : KS} {rr : Int64 × MS} (fuel : Nat) (c211 : MS → Int32 → Option (Int64 × MS)) (K211 : ∀ (b : MS) (v1 : Int32), c211 b v1 = some rr → J p l e (RM 4) s m args below meth c G A 3 (MQ below (QV (some (.long rr.1)) (PosW G ad a rr.2 A) A) args s 0 0 A) 0 0 ad a b 211 [(0, .ref (ad 100)), (1, .int v1)] []) : ∀ (b : MS) (v1 : Int32) (v2 : Int32), l_X9_digest_223 fuel c211 b v1 v2 = some rr → J p l e (RM 4) s m args below meth c G A 3 (MQ below (QV (some (.long rr.1)) (PosW G ad a rr.2 A) A) args s 0 0 A) 0 0 ad a b 223 [(0, .ref (ad 100)), (1, .int v1), (2, .int v2)] [] := by
  induction fuel with
  | zero => intro b v1 v2 hf; cases hf
  | succ n ih =>
    intro b v1 v2 hf
    have hf : f_X9_digest_223 c211 (l_X9_digest_223 n c211) b v1 v2 = some rr := hf
    exact w_X9_digest_223 C hr hk c211 (l_X9_digest_223 n c211) K211 ih b v1 v2 hf
set_option maxRecDepth 100000 in
set_option maxHeartbeats 4000000 in
theorem w_X9_digest_211 {p : Program} {l : Launch} {e : Env} {s : State} {m : MethodId} {args : Array Value} {below : List Frame} {meth : Method} {c : Code} {G : GT} {A : Nat → Prop} {ad : Nat → Nat} (C : CX G A RX9 cX9_digest 3 p s m args c) (hr : meth.sig.returnType = (some .long)) (hk : meth.locks = false) {a : KS} {rr : Int64 × MS} (c211 : MS → Int32 → Option (Int64 × MS)) (K211 : ∀ (b : MS) (v1 : Int32), c211 b v1 = some rr → J p l e (RM 4) s m args below meth c G A 3 (MQ below (QV (some (.long rr.1)) (PosW G ad a rr.2 A) A) args s 0 0 A) 0 0 ad a b 211 [(0, .ref (ad 100)), (1, .int v1)] []) (b : MS) (v1 : Int32) (hf : f_X9_digest_211 c211 b v1 = some rr) : J p l e (RM 4) s m args below meth c G A 3 (MQ below (QV (some (.long rr.1)) (PosW G ad a rr.2 A) A) args s 0 0 A) 0 0 ad a b 211 [(0, .ref (ad 100)), (1, .int v1)] [] := by
  unfold f_X9_digest_211 at hf
  refine j_iload_n C 1 rfl dX9_digest_211 ?_
  refine j_iconst (v := 2) C (by decide) dX9_digest_212 ?_
  refine j_icmp_ge C 252 dX9_digest_213 (by decide) hf (fun y1 hf => ?_) (fun y1 hf => ?_)
  · refine j_aload_n C 0 rfl dX9_digest_252 ?_
    refine j_aload_n C 0 rfl dX9_digest_253 ?_
    obtain ⟨z2, h3, hf⟩ := bnd_some hf
    refine j_callV (q := 100) (As := []) (rest := [.ref (ad 100)]) C (k_X9_share h3) cw_X9_share ml_X9_211 m_100 ce_100 rfl rfl ⟨Nat.le_of_ble_eq_true rfl, Nat.le_of_ble_eq_true rfl⟩ ⟨Nat.le_of_ble_eq_true rfl, Nat.le_of_ble_eq_true rfl⟩ rfl (Nat.le_of_ble_eq_true rfl) dX9_digest_254 ?_
    obtain ⟨h5, hf⟩ := gd_some hf
    refine j_d2f C (nn32_of h5) dX9_digest_257 ?_
    obtain ⟨z6, h7, hf⟩ := bnd_some hf
    refine j_callS (As := [.float (FP.d2f z2)]) (rest := [.ref (ad 100)]) C (k_X9_bits h7) cw_X9_bits ml_X9_256 rfl ⟨Nat.le_of_ble_eq_true rfl, Nat.le_of_ble_eq_true rfl⟩ ⟨Nat.le_of_ble_eq_true rfl, Nat.le_of_ble_eq_true rfl⟩ rfl (Nat.le_of_ble_eq_true rfl) dX9_digest_258 ?_
    refine j_i2l C dX9_digest_261 ?_
    obtain ⟨z9, h10, hf⟩ := bnd_some hf
    refine j_callV (q := 100) (As := [.long z6.toInt64]) (rest := []) C (k_X9_mix h10) cw_X9_mix ml_X9_252 m_100 ce_100 rfl rfl ⟨Nat.le_of_ble_eq_true rfl, Nat.le_of_ble_eq_true rfl⟩ ⟨Nat.le_of_ble_eq_true rfl, Nat.le_of_ble_eq_true rfl⟩ rfl (Nat.le_of_ble_eq_true rfl) dX9_digest_262 ?_
    refine j_aload_n C 0 rfl dX9_digest_265 ?_
    refine j_get (q := 100) (kf := 32) (T := TX9) (N := 33) (RC := RX9) C m_100 ce_100 rfl in_X9 (by decide) (fun _ h9 => h9) fl_X9_244 rfl dX9_digest_266 ?_
    obtain rfl := Option.some.inj hf
    exact j_lret C hr hk ⟨Nat.le_of_ble_eq_true rfl, Nat.le_of_ble_eq_true rfl⟩ rfl dX9_digest_269
  · refine j_aload_n C 0 rfl dX9_digest_216 ?_
    refine j_iload_n C 1 rfl dX9_digest_217 ?_
    obtain ⟨z12, h13, hf⟩ := bnd_some hf
    refine j_callV (q := 100) (As := [.int v1]) (rest := []) C (k_X9_lays h13) cw_X9_lays ml_X9_205 m_100 ce_100 rfl rfl ⟨Nat.le_of_ble_eq_true rfl, Nat.le_of_ble_eq_true rfl⟩ ⟨Nat.le_of_ble_eq_true rfl, Nat.le_of_ble_eq_true rfl⟩ rfl (Nat.le_of_ble_eq_true rfl) dX9_digest_218 ?_
    refine j_iconst (v := 0) C (by decide) dX9_digest_221 ?_
    refine j_istore_n (i := 2) (lv' := [(2, .int 0), (0, .ref (ad 100)), (1, .int v1)]) C dX9_digest_222 rfl (by decide) rfl ?_
    refine j_sub [1, 2, 0] rfl ?_
    exact wl_X9_digest_223 C hr hk FU c211 K211 z12 v1 0 hf
theorem wl_X9_digest_211 {p : Program} {l : Launch} {e : Env} {s : State} {m : MethodId} {args : Array Value} {below : List Frame} {meth : Method} {c : Code} {G : GT} {A : Nat → Prop} {ad : Nat → Nat} (C : CX G A RX9 cX9_digest 3 p s m args c) (hr : meth.sig.returnType = (some .long)) (hk : meth.locks = false) {a : KS} {rr : Int64 × MS} (fuel : Nat)   : ∀ (b : MS) (v1 : Int32), l_X9_digest_211 fuel  b v1 = some rr → J p l e (RM 4) s m args below meth c G A 3 (MQ below (QV (some (.long rr.1)) (PosW G ad a rr.2 A) A) args s 0 0 A) 0 0 ad a b 211 [(0, .ref (ad 100)), (1, .int v1)] [] := by
  induction fuel with
  | zero => intro b v1 hf; cases hf
  | succ n ih =>
    intro b v1 hf
    have hf : f_X9_digest_211 (l_X9_digest_211 n ) b v1 = some rr := hf
    exact w_X9_digest_211 C hr hk (l_X9_digest_211 n ) ih b v1 hf
set_option maxRecDepth 100000 in
set_option maxHeartbeats 4000000 in
theorem w_X9_digest_186 {p : Program} {l : Launch} {e : Env} {s : State} {m : MethodId} {args : Array Value} {below : List Frame} {meth : Method} {c : Code} {G : GT} {A : Nat → Prop} {ad : Nat → Nat} (C : CX G A RX9 cX9_digest 3 p s m args c) (hr : meth.sig.returnType = (some .long)) (hk : meth.locks = false) {a : KS} {rr : Int64 × MS} (c186 : MS → Int32 → Option (Int64 × MS)) (K186 : ∀ (b : MS) (v1 : Int32), c186 b v1 = some rr → J p l e (RM 4) s m args below meth c G A 3 (MQ below (QV (some (.long rr.1)) (PosW G ad a rr.2 A) A) args s 0 0 A) 0 0 ad a b 186 [(0, .ref (ad 100)), (1, .int v1)] []) (b : MS) (v1 : Int32) (hf : f_X9_digest_186 c186 b v1 = some rr) : J p l e (RM 4) s m args below meth c G A 3 (MQ below (QV (some (.long rr.1)) (PosW G ad a rr.2 A) A) args s 0 0 A) 0 0 ad a b 186 [(0, .ref (ad 100)), (1, .int v1)] [] := by
  unfold f_X9_digest_186 at hf
  refine j_iload_n C 1 rfl dX9_digest_186 ?_
  refine j_bipush (v := 8) C (by decide) dX9_digest_187 ?_
  refine j_icmp_ge C 209 dX9_digest_189 (by decide) hf (fun y1 hf => ?_) (fun y1 hf => ?_)
  · refine j_iconst (v := 0) C (by decide) dX9_digest_209 ?_
    refine j_istore_n (i := 1) (lv' := [(1, .int 0), (0, .ref (ad 100))]) C dX9_digest_210 rfl (by decide) rfl ?_
    refine j_sub [1, 0] rfl ?_
    exact wl_X9_digest_211 C hr hk FU b 0 hf
  · refine j_aload_n C 0 rfl dX9_digest_192 ?_
    refine j_aload_n C 0 rfl dX9_digest_193 ?_
    refine j_get (q := 100) (kf := 20) (T := TX9) (N := 33) (RC := RX9) C m_100 ce_100 rfl in_X9 (by decide) (fun _ h9 => h9) fl_X9_41 rfl dX9_digest_194 ?_
    refine j_iload_n C 1 rfl dX9_digest_197 ?_
    refine j_iald (q := 120) C m_120 ce_120 hf dX9_digest_198 (fun hf => ?_)
    refine j_i2l C dX9_digest_199 ?_
    obtain ⟨z2, h3, hf⟩ := bnd_some hf
    refine j_callV (q := 100) (As := [.long ((Mhi b 120 (v1.toNatClampNeg)).toInt64)]) (rest := []) C (k_X9_mix h3) cw_X9_mix ml_X9_252 m_100 ce_100 rfl rfl ⟨Nat.le_of_ble_eq_true rfl, Nat.le_of_ble_eq_true rfl⟩ ⟨Nat.le_of_ble_eq_true rfl, Nat.le_of_ble_eq_true rfl⟩ rfl (Nat.le_of_ble_eq_true rfl) dX9_digest_200 ?_
    refine j_iinc (v := v1 + 1) (lv' := [(1, .int (v1 + 1)), (0, .ref (ad 100))]) C 1 rfl rfl (by decide) rfl dX9_digest_203 ?_
    refine j_goto C 186 dX9_digest_206 (by decide) ?_
    refine j_sub [1, 0] rfl ?_
    exact K186 z2 (v1 + 1) hf
theorem wl_X9_digest_186 {p : Program} {l : Launch} {e : Env} {s : State} {m : MethodId} {args : Array Value} {below : List Frame} {meth : Method} {c : Code} {G : GT} {A : Nat → Prop} {ad : Nat → Nat} (C : CX G A RX9 cX9_digest 3 p s m args c) (hr : meth.sig.returnType = (some .long)) (hk : meth.locks = false) {a : KS} {rr : Int64 × MS} (fuel : Nat)   : ∀ (b : MS) (v1 : Int32), l_X9_digest_186 fuel  b v1 = some rr → J p l e (RM 4) s m args below meth c G A 3 (MQ below (QV (some (.long rr.1)) (PosW G ad a rr.2 A) A) args s 0 0 A) 0 0 ad a b 186 [(0, .ref (ad 100)), (1, .int v1)] [] := by
  induction fuel with
  | zero => intro b v1 hf; cases hf
  | succ n ih =>
    intro b v1 hf
    have hf : f_X9_digest_186 (l_X9_digest_186 n ) b v1 = some rr := hf
    exact w_X9_digest_186 C hr hk (l_X9_digest_186 n ) ih b v1 hf
set_option maxRecDepth 100000 in
set_option maxHeartbeats 4000000 in
theorem w_X9_digest_108 {p : Program} {l : Launch} {e : Env} {s : State} {m : MethodId} {args : Array Value} {below : List Frame} {meth : Method} {c : Code} {G : GT} {A : Nat → Prop} {ad : Nat → Nat} (C : CX G A RX9 cX9_digest 3 p s m args c) (hr : meth.sig.returnType = (some .long)) (hk : meth.locks = false) {a : KS} {rr : Int64 × MS} (c108 : MS → Int32 → Option (Int64 × MS)) (K108 : ∀ (b : MS) (v1 : Int32), c108 b v1 = some rr → J p l e (RM 4) s m args below meth c G A 3 (MQ below (QV (some (.long rr.1)) (PosW G ad a rr.2 A) A) args s 0 0 A) 0 0 ad a b 108 [(0, .ref (ad 100)), (1, .int v1)] []) (b : MS) (v1 : Int32) (hf : f_X9_digest_108 c108 b v1 = some rr) : J p l e (RM 4) s m args below meth c G A 3 (MQ below (QV (some (.long rr.1)) (PosW G ad a rr.2 A) A) args s 0 0 A) 0 0 ad a b 108 [(0, .ref (ad 100)), (1, .int v1)] [] := by
  unfold f_X9_digest_108 at hf
  refine j_iload_n C 1 rfl dX9_digest_108 ?_
  refine j_aload_n C 0 rfl dX9_digest_109 ?_
  refine j_get (q := 100) (kf := 1) (T := TX9) (N := 33) (RC := RX9) C m_100 ce_100 rfl in_X9 (by decide) (fun _ h9 => h9) fl_X9_62 rfl dX9_digest_110 ?_
  refine j_icmp_ge C 184 dX9_digest_113 (by decide) hf (fun y1 hf => ?_) (fun y1 hf => ?_)
  · refine j_iconst (v := 0) C (by decide) dX9_digest_184 ?_
    refine j_istore_n (i := 1) (lv' := [(1, .int 0), (0, .ref (ad 100))]) C dX9_digest_185 rfl (by decide) rfl ?_
    refine j_sub [1, 0] rfl ?_
    exact wl_X9_digest_186 C hr hk FU b 0 hf
  · refine j_aload_n C 0 rfl dX9_digest_116 ?_
    refine j_aload_n C 0 rfl dX9_digest_117 ?_
    refine j_get (q := 100) (kf := 2) (T := TX9) (N := 33) (RC := RX9) C m_100 ce_100 rfl in_X9 (by decide) (fun _ h9 => h9) fl_X9_7 rfl dX9_digest_118 ?_
    refine j_iload_n C 1 rfl dX9_digest_121 ?_
    refine j_iald (q := 102) C m_102 ce_102 hf dX9_digest_122 (fun hf => ?_)
    refine j_i2l C dX9_digest_123 ?_
    obtain ⟨z2, h3, hf⟩ := bnd_some hf
    refine j_callV (q := 100) (As := [.long ((Mhi b 102 (v1.toNatClampNeg)).toInt64)]) (rest := []) C (k_X9_mix h3) cw_X9_mix ml_X9_252 m_100 ce_100 rfl rfl ⟨Nat.le_of_ble_eq_true rfl, Nat.le_of_ble_eq_true rfl⟩ ⟨Nat.le_of_ble_eq_true rfl, Nat.le_of_ble_eq_true rfl⟩ rfl (Nat.le_of_ble_eq_true rfl) dX9_digest_124 ?_
    refine j_aload_n C 0 rfl dX9_digest_127 ?_
    refine j_aload_n C 0 rfl dX9_digest_128 ?_
    refine j_get (q := 100) (kf := 3) (T := TX9) (N := 33) (RC := RX9) C m_100 ce_100 rfl in_X9 (by decide) (fun _ h9 => h9) fl_X9_13 rfl dX9_digest_129 ?_
    refine j_iload_n C 1 rfl dX9_digest_132 ?_
    refine j_iald (q := 103) C m_103 ce_103 hf dX9_digest_133 (fun hf => ?_)
    refine j_i2l C dX9_digest_134 ?_
    obtain ⟨z5, h6, hf⟩ := bnd_some hf
    refine j_callV (q := 100) (As := [.long ((Mhi z2 103 (v1.toNatClampNeg)).toInt64)]) (rest := []) C (k_X9_mix h6) cw_X9_mix ml_X9_252 m_100 ce_100 rfl rfl ⟨Nat.le_of_ble_eq_true rfl, Nat.le_of_ble_eq_true rfl⟩ ⟨Nat.le_of_ble_eq_true rfl, Nat.le_of_ble_eq_true rfl⟩ rfl (Nat.le_of_ble_eq_true rfl) dX9_digest_135 ?_
    refine j_aload_n C 0 rfl dX9_digest_138 ?_
    refine j_aload_n C 0 rfl dX9_digest_139 ?_
    refine j_iload_n C 1 rfl dX9_digest_140 ?_
    obtain ⟨z8, h9, hf⟩ := bnd_some hf
    refine j_callV (q := 100) (As := [.int v1]) (rest := [.ref (ad 100)]) C (k_X9_isShut h9) cw_X9_isShut ml_X9_116 m_100 ce_100 rfl rfl ⟨Nat.le_of_ble_eq_true rfl, Nat.le_of_ble_eq_true rfl⟩ ⟨Nat.le_of_ble_eq_true rfl, Nat.le_of_ble_eq_true rfl⟩ rfl (Nat.le_of_ble_eq_true rfl) dX9_digest_141 ?_
    refine j_if_eq C 151 dX9_digest_144 (by decide) hf (fun y11 hf => ?_) (fun y11 hf => ?_)
    · refine j_lconst (v := 0) C (by decide) dX9_digest_151 ?_
      refine j_sub [0, 1] rfl ?_
      exact w_X9_digest_152 C hr hk c108 K108 z5 v1 0 hf
    · refine j_lconst (v := 1) C (by decide) dX9_digest_147 ?_
      refine j_goto C 152 dX9_digest_148 (by decide) ?_
      refine j_sub [0, 1] rfl ?_
      exact w_X9_digest_152 C hr hk c108 K108 z5 v1 1 hf
theorem wl_X9_digest_108 {p : Program} {l : Launch} {e : Env} {s : State} {m : MethodId} {args : Array Value} {below : List Frame} {meth : Method} {c : Code} {G : GT} {A : Nat → Prop} {ad : Nat → Nat} (C : CX G A RX9 cX9_digest 3 p s m args c) (hr : meth.sig.returnType = (some .long)) (hk : meth.locks = false) {a : KS} {rr : Int64 × MS} (fuel : Nat)   : ∀ (b : MS) (v1 : Int32), l_X9_digest_108 fuel  b v1 = some rr → J p l e (RM 4) s m args below meth c G A 3 (MQ below (QV (some (.long rr.1)) (PosW G ad a rr.2 A) A) args s 0 0 A) 0 0 ad a b 108 [(0, .ref (ad 100)), (1, .int v1)] [] := by
  induction fuel with
  | zero => intro b v1 hf; cases hf
  | succ n ih =>
    intro b v1 hf
    have hf : f_X9_digest_108 (l_X9_digest_108 n ) b v1 = some rr := hf
    exact w_X9_digest_108 C hr hk (l_X9_digest_108 n ) ih b v1 hf
set_option maxRecDepth 100000 in
set_option maxHeartbeats 4000000 in
theorem k_X9_digest {l : Launch} {G : GT} {ad : Nat → Nat} {b : MS} {a : KS} {rr : Int64 × MS} (hf : f_X9_digest b = some rr) : MT l G yX9_digest cX9_digest 3 (some .long) (RM 4) [.ref (ad 100)] ad a b (some (.long rr.1)) a rr.2 := by
  refine MT_of (by decide) (Nat.le_of_ble_eq_true rfl) ?_
  intro p e s m args below meth c A C hr hk
  unfold f_X9_digest at hf
  refine j_aload_n C 0 rfl dX9_digest_0 ?_
  refine j_iconst (v := 0) C (by decide) dX9_digest_1 ?_
  refine put_X9_0 C fl_X9_66 rfl rfl dX9_digest_2 ?_
  refine j_aload_n C 0 rfl dX9_digest_5 ?_
  refine j_ldc2 C wk_X9_250 dX9_digest_6 ?_
  refine put_X9_32 C fl_X9_244 rfl rfl dX9_digest_9 ?_
  refine j_aload_n C 0 rfl dX9_digest_12 ?_
  refine j_aload_n C 0 rfl dX9_digest_13 ?_
  refine j_get (q := 100) (kf := 1) (T := TX9) (N := 33) (RC := RX9) C m_100 ce_100 rfl in_X9 (by decide) (fun _ h9 => h9) fl_X9_62 rfl dX9_digest_14 ?_
  refine j_i2l C dX9_digest_17 ?_
  obtain ⟨z1, h2, hf⟩ := bnd_some hf
  refine j_callV (q := 100) (As := [.long ((Mhi (sMhs (sMhi b 100 0 0) 4364) 100 1).toInt64)]) (rest := []) C (k_X9_mix h2) cw_X9_mix ml_X9_252 m_100 ce_100 rfl rfl ⟨Nat.le_of_ble_eq_true rfl, Nat.le_of_ble_eq_true rfl⟩ ⟨Nat.le_of_ble_eq_true rfl, Nat.le_of_ble_eq_true rfl⟩ rfl (Nat.le_of_ble_eq_true rfl) dX9_digest_18 ?_
  refine j_aload_n C 0 rfl dX9_digest_21 ?_
  refine j_aload_n C 0 rfl dX9_digest_22 ?_
  refine j_get (q := 100) (kf := 10) (T := TX9) (N := 33) (RC := RX9) C m_100 ce_100 rfl in_X9 (by decide) (fun _ h9 => h9) fl_X9_83 rfl dX9_digest_23 ?_
  refine j_i2l C dX9_digest_26 ?_
  obtain ⟨z4, h5, hf⟩ := bnd_some hf
  refine j_callV (q := 100) (As := [.long ((Mhi z1 100 10).toInt64)]) (rest := []) C (k_X9_mix h5) cw_X9_mix ml_X9_252 m_100 ce_100 rfl rfl ⟨Nat.le_of_ble_eq_true rfl, Nat.le_of_ble_eq_true rfl⟩ ⟨Nat.le_of_ble_eq_true rfl, Nat.le_of_ble_eq_true rfl⟩ rfl (Nat.le_of_ble_eq_true rfl) dX9_digest_27 ?_
  refine j_aload_n C 0 rfl dX9_digest_30 ?_
  refine j_aload_n C 0 rfl dX9_digest_31 ?_
  refine j_get (q := 100) (kf := 11) (T := TX9) (N := 33) (RC := RX9) C m_100 ce_100 rfl in_X9 (by decide) (fun _ h9 => h9) fl_X9_77 rfl dX9_digest_32 ?_
  refine j_i2l C dX9_digest_35 ?_
  obtain ⟨z7, h8, hf⟩ := bnd_some hf
  refine j_callV (q := 100) (As := [.long ((Mhi z4 100 11).toInt64)]) (rest := []) C (k_X9_mix h8) cw_X9_mix ml_X9_252 m_100 ce_100 rfl rfl ⟨Nat.le_of_ble_eq_true rfl, Nat.le_of_ble_eq_true rfl⟩ ⟨Nat.le_of_ble_eq_true rfl, Nat.le_of_ble_eq_true rfl⟩ rfl (Nat.le_of_ble_eq_true rfl) dX9_digest_36 ?_
  refine j_aload_n C 0 rfl dX9_digest_39 ?_
  refine j_aload_n C 0 rfl dX9_digest_40 ?_
  refine j_get (q := 100) (kf := 12) (T := TX9) (N := 33) (RC := RX9) C m_100 ce_100 rfl in_X9 (by decide) (fun _ h9 => h9) fl_X9_86 rfl dX9_digest_41 ?_
  refine j_i2l C dX9_digest_44 ?_
  obtain ⟨z10, h11, hf⟩ := bnd_some hf
  refine j_callV (q := 100) (As := [.long ((Mhi z7 100 12).toInt64)]) (rest := []) C (k_X9_mix h11) cw_X9_mix ml_X9_252 m_100 ce_100 rfl rfl ⟨Nat.le_of_ble_eq_true rfl, Nat.le_of_ble_eq_true rfl⟩ ⟨Nat.le_of_ble_eq_true rfl, Nat.le_of_ble_eq_true rfl⟩ rfl (Nat.le_of_ble_eq_true rfl) dX9_digest_45 ?_
  refine j_aload_n C 0 rfl dX9_digest_48 ?_
  refine j_aload_n C 0 rfl dX9_digest_49 ?_
  refine j_aload_n C 0 rfl dX9_digest_50 ?_
  refine j_get (q := 100) (kf := 12) (T := TX9) (N := 33) (RC := RX9) C m_100 ce_100 rfl in_X9 (by decide) (fun _ h9 => h9) fl_X9_86 rfl dX9_digest_51 ?_
  obtain ⟨z13, h14, hf⟩ := bnd_some hf
  refine j_callV (q := 100) (As := [.int (Mhi z10 100 12)]) (rest := [.ref (ad 100)]) C (k_X9_itemAt h14) cw_X9_itemAt ml_X9_125 m_100 ce_100 rfl rfl ⟨Nat.le_of_ble_eq_true rfl, Nat.le_of_ble_eq_true rfl⟩ ⟨Nat.le_of_ble_eq_true rfl, Nat.le_of_ble_eq_true rfl⟩ rfl (Nat.le_of_ble_eq_true rfl) dX9_digest_54 ?_
  refine j_i2l C dX9_digest_57 ?_
  obtain ⟨z16, h17, hf⟩ := bnd_some hf
  refine j_callV (q := 100) (As := [.long z13.toInt64]) (rest := []) C (k_X9_mix h17) cw_X9_mix ml_X9_252 m_100 ce_100 rfl rfl ⟨Nat.le_of_ble_eq_true rfl, Nat.le_of_ble_eq_true rfl⟩ ⟨Nat.le_of_ble_eq_true rfl, Nat.le_of_ble_eq_true rfl⟩ rfl (Nat.le_of_ble_eq_true rfl) dX9_digest_58 ?_
  refine j_aload_n C 0 rfl dX9_digest_61 ?_
  refine j_aload_n C 0 rfl dX9_digest_62 ?_
  obtain ⟨z19, h20, hf⟩ := bnd_some hf
  refine j_callV (q := 100) (As := []) (rest := [.ref (ad 100)]) C (k_X9_draftNow h20) cw_X9_draftNow ml_X9_179 m_100 ce_100 rfl rfl ⟨Nat.le_of_ble_eq_true rfl, Nat.le_of_ble_eq_true rfl⟩ ⟨Nat.le_of_ble_eq_true rfl, Nat.le_of_ble_eq_true rfl⟩ rfl (Nat.le_of_ble_eq_true rfl) dX9_digest_63 ?_
  refine j_i2l C dX9_digest_66 ?_
  obtain ⟨z22, h23, hf⟩ := bnd_some hf
  refine j_callV (q := 100) (As := [.long z19.toInt64]) (rest := []) C (k_X9_mix h23) cw_X9_mix ml_X9_252 m_100 ce_100 rfl rfl ⟨Nat.le_of_ble_eq_true rfl, Nat.le_of_ble_eq_true rfl⟩ ⟨Nat.le_of_ble_eq_true rfl, Nat.le_of_ble_eq_true rfl⟩ rfl (Nat.le_of_ble_eq_true rfl) dX9_digest_67 ?_
  refine j_aload_n C 0 rfl dX9_digest_70 ?_
  refine j_aload_n C 0 rfl dX9_digest_71 ?_
  refine j_get (q := 100) (kf := 16) (T := TX9) (N := 33) (RC := RX9) C m_100 ce_100 rfl in_X9 (by decide) (fun _ h9 => h9) fl_X9_141 rfl dX9_digest_72 ?_
  refine j_i2l C dX9_digest_75 ?_
  obtain ⟨z25, h26, hf⟩ := bnd_some hf
  refine j_callV (q := 100) (As := [.long ((Mhi z22 100 16).toInt64)]) (rest := []) C (k_X9_mix h26) cw_X9_mix ml_X9_252 m_100 ce_100 rfl rfl ⟨Nat.le_of_ble_eq_true rfl, Nat.le_of_ble_eq_true rfl⟩ ⟨Nat.le_of_ble_eq_true rfl, Nat.le_of_ble_eq_true rfl⟩ rfl (Nat.le_of_ble_eq_true rfl) dX9_digest_76 ?_
  refine j_aload_n C 0 rfl dX9_digest_79 ?_
  refine j_aload_n C 0 rfl dX9_digest_80 ?_
  refine j_get (q := 100) (kf := 17) (T := TX9) (N := 33) (RC := RX9) C m_100 ce_100 rfl in_X9 (by decide) (fun _ h9 => h9) fl_X9_150 rfl dX9_digest_81 ?_
  refine j_i2l C dX9_digest_84 ?_
  obtain ⟨z28, h29, hf⟩ := bnd_some hf
  refine j_callV (q := 100) (As := [.long ((Mhi z25 100 17).toInt64)]) (rest := []) C (k_X9_mix h29) cw_X9_mix ml_X9_252 m_100 ce_100 rfl rfl ⟨Nat.le_of_ble_eq_true rfl, Nat.le_of_ble_eq_true rfl⟩ ⟨Nat.le_of_ble_eq_true rfl, Nat.le_of_ble_eq_true rfl⟩ rfl (Nat.le_of_ble_eq_true rfl) dX9_digest_85 ?_
  refine j_aload_n C 0 rfl dX9_digest_88 ?_
  refine j_aload_n C 0 rfl dX9_digest_89 ?_
  refine j_get (q := 100) (kf := 23) (T := TX9) (N := 33) (RC := RX9) C m_100 ce_100 rfl in_X9 (by decide) (fun _ h9 => h9) fl_X9_147 rfl dX9_digest_90 ?_
  refine j_i2l C dX9_digest_93 ?_
  obtain ⟨z31, h32, hf⟩ := bnd_some hf
  refine j_callV (q := 100) (As := [.long ((Mhi z28 100 23).toInt64)]) (rest := []) C (k_X9_mix h32) cw_X9_mix ml_X9_252 m_100 ce_100 rfl rfl ⟨Nat.le_of_ble_eq_true rfl, Nat.le_of_ble_eq_true rfl⟩ ⟨Nat.le_of_ble_eq_true rfl, Nat.le_of_ble_eq_true rfl⟩ rfl (Nat.le_of_ble_eq_true rfl) dX9_digest_94 ?_
  refine j_aload_n C 0 rfl dX9_digest_97 ?_
  refine j_aload_n C 0 rfl dX9_digest_98 ?_
  obtain ⟨z34, h35, hf⟩ := bnd_some hf
  refine j_callV (q := 100) (As := []) (rest := [.ref (ad 100)]) C (k_X9_ticksLeft h35) cw_X9_ticksLeft ml_X9_208 m_100 ce_100 rfl rfl ⟨Nat.le_of_ble_eq_true rfl, Nat.le_of_ble_eq_true rfl⟩ ⟨Nat.le_of_ble_eq_true rfl, Nat.le_of_ble_eq_true rfl⟩ rfl (Nat.le_of_ble_eq_true rfl) dX9_digest_99 ?_
  refine j_i2l C dX9_digest_102 ?_
  obtain ⟨z37, h38, hf⟩ := bnd_some hf
  refine j_callV (q := 100) (As := [.long z34.toInt64]) (rest := []) C (k_X9_mix h38) cw_X9_mix ml_X9_252 m_100 ce_100 rfl rfl ⟨Nat.le_of_ble_eq_true rfl, Nat.le_of_ble_eq_true rfl⟩ ⟨Nat.le_of_ble_eq_true rfl, Nat.le_of_ble_eq_true rfl⟩ rfl (Nat.le_of_ble_eq_true rfl) dX9_digest_103 ?_
  refine j_iconst (v := 0) C (by decide) dX9_digest_106 ?_
  refine j_istore_n (i := 1) (lv' := [(1, .int 0), (0, .ref (ad 100))]) C dX9_digest_107 rfl (by decide) rfl ?_
  refine j_sub [1, 0] rfl ?_
  exact wl_X9_digest_108 C hr hk FU z37 0 hf
