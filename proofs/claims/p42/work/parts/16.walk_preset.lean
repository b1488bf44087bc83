set_option maxRecDepth 100000 in
set_option maxHeartbeats 4000000 in
theorem w_X5_save_55 {b : MS} {p : Program} {l : Launch} {e : Env} {s : State} {m : MethodId} {args : Array Value} {below : List Frame} {meth : Method} {c : Code} {G : GT} {A : Nat → Prop} {ad : Nat → Nat} (C : CX G A RX5 cX5_save 5 p s m args c) (hr : meth.sig.returnType = (some .int)) (hk : meth.locks = false) {rr : Int32 × KS} (c4 : KS → Nat → Int32 → Int32 → Option (Int32 × KS)) (K4 : ∀ (a : KS) (v0 : Nat) (v2 : Int32) (v3 : Int32), c4 a v0 v2 v3 = some rr → J p l e (RM 1) s m args below meth c G A 5 (MQ below (QV (some (.int rr.1)) (PosW G ad rr.2 b A) A) args s 0 0 A) 0 0 ad a b 4 [(0, .ref (ad v0)), (1, .ref (ad 1)), (2, .int v2), (3, .int v3)] []) (a : KS) (v0 : Nat) (v2 : Int32) (v3 : Int32) (hf : f_X5_save_55 c4 a v0 v2 v3 = some rr) : J p l e (RM 1) s m args below meth c G A 5 (MQ below (QV (some (.int rr.1)) (PosW G ad rr.2 b A) A) args s 0 0 A) 0 0 ad a b 55 [(0, .ref (ad v0)), (1, .ref (ad 1)), (2, .int v2), (3, .int v3)] [] := by
  unfold f_X5_save_55 at hf
  refine j_iinc (v := v3 + 1) (lv' := [(3, .int (v3 + 1)), (0, .ref (ad v0)), (1, .ref (ad 1)), (2, .int v2)]) C 3 rfl rfl (by decide) rfl dX5_save_55 ?_
  refine j_goto C 4 dX5_save_58 (by decide) ?_
  refine j_sub [1, 2, 3, 0] rfl ?_
  exact K4 a v0 v2 (v3 + 1) hf
set_option maxRecDepth 100000 in
set_option maxHeartbeats 4000000 in
theorem w_X5_save_61 {b : MS} {p : Program} {l : Launch} {e : Env} {s : State} {m : MethodId} {args : Array Value} {below : List Frame} {meth : Method} {c : Code} {G : GT} {A : Nat → Prop} {ad : Nat → Nat} (C : CX G A RX5 cX5_save 5 p s m args c) (hr : meth.sig.returnType = (some .int)) (hk : meth.locks = false) {rr : Int32 × KS}   (a : KS) (v0 : Nat) (v2 : Int32) (hf : f_X5_save_61 a v0 v2 = some rr) : J p l e (RM 1) s m args below meth c G A 5 (MQ below (QV (some (.int rr.1)) (PosW G ad rr.2 b A) A) args s 0 0 A) 0 0 ad a b 61 [(0, .ref (ad v0)), (1, .ref (ad 1)), (2, .int v2)] [] := by
  unfold f_X5_save_61 at hf
  refine j_aload_n C 0 rfl dX5_save_61 ?_
  refine j_aload_n C 1 rfl dX5_save_62 ?_
  refine j_get (q := 1) (kf := 2) (T := TX7) (N := 3) (RC := RX7) C m_1 ce_1 rfl in_X7 (by decide) (fun _ h9 => h9) fl_X5_15 rfl dX5_save_63 ?_
  obtain ⟨h1, hf⟩ := gd_some hf
  refine put_X5_1 C h1 fl_X5_33 rfl rfl dX5_save_66 ?_
  refine j_aload_n C 0 rfl dX5_save_69 ?_
  refine j_iconst (v := 1) C (by decide) dX5_save_70 ?_
  obtain ⟨h2, hf⟩ := gd_some hf
  refine put_X5_2 C h1 fl_X5_34 (okz_n h2) (okz_f h2) dX5_save_71 ?_
  refine j_iload_n C 2 rfl dX5_save_74 ?_
  obtain rfl := Option.some.inj hf
  exact j_iret C hr hk ⟨Nat.le_of_ble_eq_true rfl, Nat.le_of_ble_eq_true rfl⟩ rfl dX5_save_75
set_option maxRecDepth 100000 in
set_option maxHeartbeats 4000000 in
theorem w_X5_save_4 {b : MS} {p : Program} {l : Launch} {e : Env} {s : State} {m : MethodId} {args : Array Value} {below : List Frame} {meth : Method} {c : Code} {G : GT} {A : Nat → Prop} {ad : Nat → Nat} (C : CX G A RX5 cX5_save 5 p s m args c) (hr : meth.sig.returnType = (some .int)) (hk : meth.locks = false) {rr : Int32 × KS} (c4 : KS → Nat → Int32 → Int32 → Option (Int32 × KS)) (K4 : ∀ (a : KS) (v0 : Nat) (v2 : Int32) (v3 : Int32), c4 a v0 v2 v3 = some rr → J p l e (RM 1) s m args below meth c G A 5 (MQ below (QV (some (.int rr.1)) (PosW G ad rr.2 b A) A) args s 0 0 A) 0 0 ad a b 4 [(0, .ref (ad v0)), (1, .ref (ad 1)), (2, .int v2), (3, .int v3)] []) (a : KS) (v0 : Nat) (v2 : Int32) (v3 : Int32) (hf : f_X5_save_4 c4 a v0 v2 v3 = some rr) : J p l e (RM 1) s m args below meth c G A 5 (MQ below (QV (some (.int rr.1)) (PosW G ad rr.2 b A) A) args s 0 0 A) 0 0 ad a b 4 [(0, .ref (ad v0)), (1, .ref (ad 1)), (2, .int v2), (3, .int v3)] [] := by
  unfold f_X5_save_4 at hf
  refine j_iload_n C 3 rfl dX5_save_4 ?_
  refine j_aload_n C 1 rfl dX5_save_5 ?_
  refine j_get (q := 1) (kf := 2) (T := TX7) (N := 3) (RC := RX7) C m_1 ce_1 rfl in_X7 (by decide) (fun _ h9 => h9) fl_X5_15 rfl dX5_save_6 ?_
  refine j_icmp_ge C 61 dX5_save_9 (by decide) hf (fun y1 hf => ?_) (fun y1 hf => ?_)
  · refine j_sub [0, 1, 2] rfl ?_
    exact w_X5_save_61 C hr hk a v0 v2 hf
  · refine j_iload_n C 3 rfl dX5_save_12 ?_
    refine j_aload_n C 0 rfl dX5_save_13 ?_
    obtain ⟨h2, hf⟩ := gd_some hf
    refine j_get (q := v0) (kf := 0) (T := TX5) (N := 3) (RC := RX5) C (m_pre h2) (ce_pre h2) rfl in_X5 (by decide) (fun _ h9 => h9) fl_X5_9 rfl dX5_save_14 ?_
    refine j_alen (q := (v0 + 1)) (t0 := 0) (v := 24) C (m_prea h2) (ce_prea h2) rfl rfl dX5_save_17 ?_
    refine j_icmp_ge C 61 dX5_save_18 (by decide) hf (fun y3 hf => ?_) (fun y3 hf => ?_)
    · refine j_sub [0, 1, 2] rfl ?_
      exact w_X5_save_61 C hr hk a v0 v2 hf
    · refine j_aload_n C 1 rfl dX5_save_21 ?_
      refine j_iload_n C 3 rfl dX5_save_22 ?_
      obtain ⟨z4, h5, hf⟩ := bnd_some hf
      refine j_callV (q := 1) (As := [.int v3]) (rest := []) C (k_X7_find h5) cw_X7_find ml_X5_21 m_1 ce_1 rfl rfl ⟨Nat.le_of_ble_eq_true rfl, Nat.le_of_ble_eq_true rfl⟩ ⟨Nat.le_of_ble_eq_true rfl, Nat.le_of_ble_eq_true rfl⟩ rfl (Nat.le_of_ble_eq_true rfl) dX5_save_23 ?_
      refine j_astoreq (lv' := [(4, itv ad z4), (0, .ref (ad v0)), (1, .ref (ad 1)), (2, .int v2), (3, .int v3)]) (o := z4) C dX5_save_26 (by decide) rfl ?_
      refine j_aloadq C 0 rfl dX5_save_28 ?_
      refine j_ifnull C 55 dX5_save_30 (by decide) hf (fun e9 hg => ?_) (fun i8 e9 hg => ?_)
      · clear hf
        subst e9
        have hf := hg
        clear hg
        refine j_sub [1, 2, 3, 4] rfl ?_
        exact w_X5_save_55 C hr hk c4 K4 a v0 v2 v3 hf
      · clear hf
        subst e9
        have hf := hg
        clear hg
        refine j_aload C 0 rfl dX5_save_33 ?_
        obtain ⟨h10, hf⟩ := gd_some hf
        have h10 := of_decide_eq_true h10
        refine j_get (q := (ip i8)) (kf := 1) (T := TX4) (N := 13) (RC := RX4) C (mem_ip h10) ce_item rfl in_X4 (by decide) (fun _ h9 => h9) fl_X5_25 rfl dX5_save_35 ?_
        refine j_if_eq C 55 dX5_save_38 (by decide) hf (fun y11 hf => ?_) (fun y11 hf => ?_)
        · refine j_sub [1, 2, 3, 4] rfl ?_
          exact w_X5_save_55 C hr hk c4 K4 a v0 v2 v3 hf
        · refine j_aload_n C 1 rfl dX5_save_41 ?_
          refine j_get (q := v0) (kf := 0) (T := TX5) (N := 3) (RC := RX5) C (m_pre h2) (ce_pre h2) rfl in_X5 (by decide) (fun _ h9 => h9) fl_X5_9 rfl dX5_save_42 ?_
          refine j_iload_n C 4 rfl dX5_save_45 ?_
          refine j_aload C 0 rfl dX5_save_46 ?_
          refine j_get (q := (ip i8)) (kf := 10) (T := TX4) (N := 13) (RC := RX4) C (mem_ip h10) ce_item rfl in_X4 (by decide) (fun _ h9 => h9) fl_X5_30 rfl dX5_save_48 ?_
          refine ast_prea C h2 hf dX5_save_51 (fun hf => ?_)
          refine j_iinc (v := v2 + 1) (lv' := [(2, .int (v2 + 1)), (4, .ref (ad (ip i8))), (0, .ref (ad v0)), (1, .ref (ad 1)), (3, .int v3)]) C 3 rfl rfl (by decide) rfl dX5_save_52 ?_
          refine j_sub [2, 3, 0, 4] rfl ?_
          exact w_X5_save_55 C hr hk c4 K4 (sKhi a (v0 + 1) (v3.toNatClampNeg) (Kit a i8 10)) v0 (v2 + 1) v3 hf
theorem wl_X5_save_4 {b : MS} {p : Program} {l : Launch} {e : Env} {s : State} {m : MethodId} {args : Array Value} {below : List Frame} {meth : Method} {c : Code} {G : GT} {A : Nat → Prop} {ad : Nat → Nat} (C : CX G A RX5 cX5_save 5 p s m args c) (hr : meth.sig.returnType = (some .int)) (hk : meth.locks = false) {rr : Int32 × KS} (fuel : Nat)   : ∀ (a : KS) (v0 : Nat) (v2 : Int32) (v3 : Int32), l_X5_save_4 fuel  a v0 v2 v3 = some rr → J p l e (RM 1) s m args below meth c G A 5 (MQ below (QV (some (.int rr.1)) (PosW G ad rr.2 b A) A) args s 0 0 A) 0 0 ad a b 4 [(0, .ref (ad v0)), (1, .ref (ad 1)), (2, .int v2), (3, .int v3)] [] := by
  induction fuel with
  | zero => intro a v0 v2 v3 hf; cases hf
  | succ n ih =>
    intro a v0 v2 v3 hf
    have hf : f_X5_save_4 (l_X5_save_4 n ) a v0 v2 v3 = some rr := hf
    exact w_X5_save_4 C hr hk (l_X5_save_4 n ) ih a v0 v2 v3 hf
set_option maxRecDepth 100000 in
set_option maxHeartbeats 4000000 in
theorem k_X5_save {l : Launch} {G : GT} {ad : Nat → Nat} {a : KS} {v0 : Nat} {b : MS} {rr : Int32 × KS} (hf : f_X5_save a v0 = some rr) : MT l G yX5_save cX5_save 5 (some .int) (RM 1) [.ref (ad v0), .ref (ad 1)] ad a b (some (.int rr.1)) rr.2 b := by
  refine MT_of (by decide) (Nat.le_of_ble_eq_true rfl) ?_
  intro p e s m args below meth c A C hr hk
  unfold f_X5_save at hf
  refine j_iconst (v := 0) C (by decide) dX5_save_0 ?_
  refine j_istore_n (i := 2) (lv' := [(2, .int 0), (0, .ref (ad v0)), (1, .ref (ad 1))]) C dX5_save_1 rfl (by decide) rfl ?_
  refine j_iconst (v := 0) C (by decide) dX5_save_2 ?_
  refine j_istore_n (i := 3) (lv' := [(3, .int 0), (2, .int 0), (0, .ref (ad v0)), (1, .ref (ad 1))]) C dX5_save_3 rfl (by decide) rfl ?_
  refine j_sub [2, 3, 1, 0] rfl ?_
  exact wl_X5_save_4 C hr hk FU a v0 0 0 hf
set_option maxRecDepth 100000 in
set_option maxHeartbeats 4000000 in
theorem w_X5_load_69 {b : MS} {p : Program} {l : Launch} {e : Env} {s : State} {m : MethodId} {args : Array Value} {below : List Frame} {meth : Method} {c : Code} {G : GT} {A : Nat → Prop} {ad : Nat → Nat} (C : CX G A RX5 cX5_load 5 p s m args c) (hr : meth.sig.returnType = (some .int)) (hk : meth.locks = false) {rr : Int32 × KS} (c4 : KS → Nat → Int32 → Int32 → Option (Int32 × KS)) (K4 : ∀ (a : KS) (v0 : Nat) (v2 : Int32) (v3 : Int32), c4 a v0 v2 v3 = some rr → J p l e (RM 1) s m args below meth c G A 5 (MQ below (QV (some (.int rr.1)) (PosW G ad rr.2 b A) A) args s 0 0 A) 0 0 ad a b 4 [(0, .ref (ad v0)), (1, .ref (ad 1)), (2, .int v2), (3, .int v3)] []) (a : KS) (v0 : Nat) (v2 : Int32) (v3 : Int32) (hf : f_X5_load_69 c4 a v0 v2 v3 = some rr) : J p l e (RM 1) s m args below meth c G A 5 (MQ below (QV (some (.int rr.1)) (PosW G ad rr.2 b A) A) args s 0 0 A) 0 0 ad a b 69 [(0, .ref (ad v0)), (1, .ref (ad 1)), (2, .int v2), (3, .int v3)] [] := by
  unfold f_X5_load_69 at hf
  refine j_iinc (v := v3 + 1) (lv' := [(3, .int (v3 + 1)), (0, .ref (ad v0)), (1, .ref (ad 1)), (2, .int v2)]) C 3 rfl rfl (by decide) rfl dX5_load_69 ?_
  refine j_goto C 4 dX5_load_72 (by decide) ?_
  refine j_sub [1, 2, 3, 0] rfl ?_
  exact K4 a v0 v2 (v3 + 1) hf
set_option maxRecDepth 100000 in
set_option maxHeartbeats 4000000 in
theorem w_X5_load_4 {b : MS} {p : Program} {l : Launch} {e : Env} {s : State} {m : MethodId} {args : Array Value} {below : List Frame} {meth : Method} {c : Code} {G : GT} {A : Nat → Prop} {ad : Nat → Nat} (C : CX G A RX5 cX5_load 5 p s m args c) (hr : meth.sig.returnType = (some .int)) (hk : meth.locks = false) {rr : Int32 × KS} (c4 : KS → Nat → Int32 → Int32 → Option (Int32 × KS)) (K4 : ∀ (a : KS) (v0 : Nat) (v2 : Int32) (v3 : Int32), c4 a v0 v2 v3 = some rr → J p l e (RM 1) s m args below meth c G A 5 (MQ below (QV (some (.int rr.1)) (PosW G ad rr.2 b A) A) args s 0 0 A) 0 0 ad a b 4 [(0, .ref (ad v0)), (1, .ref (ad 1)), (2, .int v2), (3, .int v3)] []) (a : KS) (v0 : Nat) (v2 : Int32) (v3 : Int32) (hf : f_X5_load_4 c4 a v0 v2 v3 = some rr) : J p l e (RM 1) s m args below meth c G A 5 (MQ below (QV (some (.int rr.1)) (PosW G ad rr.2 b A) A) args s 0 0 A) 0 0 ad a b 4 [(0, .ref (ad v0)), (1, .ref (ad 1)), (2, .int v2), (3, .int v3)] [] := by
  unfold f_X5_load_4 at hf
  refine j_iload_n C 3 rfl dX5_load_4 ?_
  refine j_aload_n C 0 rfl dX5_load_5 ?_
  obtain ⟨h1, hf⟩ := gd_some hf
  refine j_get (q := v0) (kf := 1) (T := TX5) (N := 3) (RC := RX5) C (m_pre h1) (ce_pre h1) rfl in_X5 (by decide) (fun _ h9 => h9) fl_X5_33 rfl dX5_load_6 ?_
  refine j_icmp_ge C 75 dX5_load_9 (by decide) hf (fun y2 hf => ?_) (fun y2 hf => ?_)
  · refine j_iload_n C 2 rfl dX5_load_75 ?_
    obtain rfl := Option.some.inj hf
    exact j_iret C hr hk ⟨Nat.le_of_ble_eq_true rfl, Nat.le_of_ble_eq_true rfl⟩ rfl dX5_load_76
  · refine j_iload_n C 3 rfl dX5_load_12 ?_
    refine j_aload_n C 0 rfl dX5_load_13 ?_
    refine j_get (q := v0) (kf := 0) (T := TX5) (N := 3) (RC := RX5) C (m_pre h1) (ce_pre h1) rfl in_X5 (by decide) (fun _ h9 => h9) fl_X5_9 rfl dX5_load_14 ?_
    refine j_alen (q := (v0 + 1)) (t0 := 0) (v := 24) C (m_prea h1) (ce_prea h1) rfl rfl dX5_load_17 ?_
    refine j_icmp_ge C 75 dX5_load_18 (by decide) hf (fun y3 hf => ?_) (fun y3 hf => ?_)
    · refine j_iload_n C 2 rfl dX5_load_75 ?_
      obtain rfl := Option.some.inj hf
      exact j_iret C hr hk ⟨Nat.le_of_ble_eq_true rfl, Nat.le_of_ble_eq_true rfl⟩ rfl dX5_load_76
    · refine j_aload_n C 1 rfl dX5_load_21 ?_
      refine j_iload_n C 3 rfl dX5_load_22 ?_
      obtain ⟨z4, h5, hf⟩ := bnd_some hf
      refine j_callV (q := 1) (As := [.int v3]) (rest := []) C (k_X7_find h5) cw_X7_find ml_X5_21 m_1 ce_1 rfl rfl ⟨Nat.le_of_ble_eq_true rfl, Nat.le_of_ble_eq_true rfl⟩ ⟨Nat.le_of_ble_eq_true rfl, Nat.le_of_ble_eq_true rfl⟩ rfl (Nat.le_of_ble_eq_true rfl) dX5_load_23 ?_
      refine j_astoreq (lv' := [(4, itv ad z4), (0, .ref (ad v0)), (1, .ref (ad 1)), (2, .int v2), (3, .int v3)]) (o := z4) C dX5_load_26 (by decide) rfl ?_
      refine j_aloadq C 0 rfl dX5_load_28 ?_
      refine j_ifnull C 69 dX5_load_30 (by decide) hf (fun e9 hg => ?_) (fun i8 e9 hg => ?_)
      · clear hf
        subst e9
        have hf := hg
        clear hg
        refine j_sub [1, 2, 3, 4] rfl ?_
        exact w_X5_load_69 C hr hk c4 K4 a v0 v2 v3 hf
      · clear hf
        subst e9
        have hf := hg
        clear hg
        refine j_aload C 0 rfl dX5_load_33 ?_
        obtain ⟨h10, hf⟩ := gd_some hf
        have h10 := of_decide_eq_true h10
        refine j_get (q := (ip i8)) (kf := 1) (T := TX4) (N := 13) (RC := RX4) C (mem_ip h10) ce_item rfl in_X4 (by decide) (fun _ h9 => h9) fl_X5_25 rfl dX5_load_35 ?_
        refine j_if_eq C 69 dX5_load_38 (by decide) hf (fun y11 hf => ?_) (fun y11 hf => ?_)
        · refine j_sub [1, 2, 3, 4] rfl ?_
          exact w_X5_load_69 C hr hk c4 K4 a v0 v2 v3 hf
        · refine j_aload C 0 rfl dX5_load_41 ?_
          refine j_get (q := (ip i8)) (kf := 10) (T := TX4) (N := 13) (RC := RX4) C (mem_ip h10) ce_item rfl in_X4 (by decide) (fun _ h9 => h9) fl_X5_30 rfl dX5_load_43 ?_
          refine j_aload_n C 1 rfl dX5_load_46 ?_
          refine j_get (q := v0) (kf := 0) (T := TX5) (N := 3) (RC := RX5) C (m_pre h1) (ce_pre h1) rfl in_X5 (by decide) (fun _ h9 => h9) fl_X5_9 rfl dX5_load_47 ?_
          refine j_iload_n C 4 rfl dX5_load_50 ?_
          refine j_iald (q := (v0 + 1)) C (m_prea h1) (ce_prea h1) hf dX5_load_51 (fun hf => ?_)
          refine j_icmp_eq C 69 dX5_load_52 (by decide) hf (fun y12 hf => ?_) (fun y12 hf => ?_)
          · refine j_sub [1, 2, 3, 4] rfl ?_
            exact w_X5_load_69 C hr hk c4 K4 a v0 v2 v3 hf
          · refine j_aload C 0 rfl dX5_load_55 ?_
            refine j_aload_n C 1 rfl dX5_load_57 ?_
            refine j_get (q := v0) (kf := 0) (T := TX5) (N := 3) (RC := RX5) C (m_pre h1) (ce_pre h1) rfl in_X5 (by decide) (fun _ h9 => h9) fl_X5_9 rfl dX5_load_58 ?_
            refine j_iload_n C 4 rfl dX5_load_61 ?_
            refine j_iald (q := (v0 + 1)) C (m_prea h1) (ce_prea h1) hf dX5_load_62 (fun hf => ?_)
            refine put_X4_10 C h10 fl_X5_30 rfl rfl dX5_load_63 ?_
            refine j_iinc (v := v2 + 1) (lv' := [(2, .int (v2 + 1)), (4, .ref (ad (ip i8))), (0, .ref (ad v0)), (1, .ref (ad 1)), (3, .int v3)]) C 3 rfl rfl (by decide) rfl dX5_load_66 ?_
            refine j_sub [2, 3, 0, 4] rfl ?_
            exact w_X5_load_69 C hr hk c4 K4 (sKit a i8 10 (Khi a (v0 + 1) (v3.toNatClampNeg))) v0 (v2 + 1) v3 hf
theorem wl_X5_load_4 {b : MS} {p : Program} {l : Launch} {e : Env} {s : State} {m : MethodId} {args : Array Value} {below : List Frame} {meth : Method} {c : Code} {G : GT} {A : Nat → Prop} {ad : Nat → Nat} (C : CX G A RX5 cX5_load 5 p s m args c) (hr : meth.sig.returnType = (some .int)) (hk : meth.locks = false) {rr : Int32 × KS} (fuel : Nat)   : ∀ (a : KS) (v0 : Nat) (v2 : Int32) (v3 : Int32), l_X5_load_4 fuel  a v0 v2 v3 = some rr → J p l e (RM 1) s m args below meth c G A 5 (MQ below (QV (some (.int rr.1)) (PosW G ad rr.2 b A) A) args s 0 0 A) 0 0 ad a b 4 [(0, .ref (ad v0)), (1, .ref (ad 1)), (2, .int v2), (3, .int v3)] [] := by
  induction fuel with
  | zero => intro a v0 v2 v3 hf; cases hf
  | succ n ih =>
    intro a v0 v2 v3 hf
    have hf : f_X5_load_4 (l_X5_load_4 n ) a v0 v2 v3 = some rr := hf
    exact w_X5_load_4 C hr hk (l_X5_load_4 n ) ih a v0 v2 v3 hf
set_option maxRecDepth 100000 in
set_option maxHeartbeats 4000000 in
theorem k_X5_load {l : Launch} {G : GT} {ad : Nat → Nat} {a : KS} {v0 : Nat} {b : MS} {rr : Int32 × KS} (hf : f_X5_load a v0 = some rr) : MT l G yX5_load cX5_load 5 (some .int) (RM 1) [.ref (ad v0), .ref (ad 1)] ad a b (some (.int rr.1)) rr.2 b := by
  refine MT_of (by decide) (Nat.le_of_ble_eq_true rfl) ?_
  intro p e s m args below meth c A C hr hk
  unfold f_X5_load at hf
  refine j_iconst (v := 0) C (by decide) dX5_load_0 ?_
  refine j_istore_n (i := 2) (lv' := [(2, .int 0), (0, .ref (ad v0)), (1, .ref (ad 1))]) C dX5_load_1 rfl (by decide) rfl ?_
  refine j_iconst (v := 0) C (by decide) dX5_load_2 ?_
  refine j_istore_n (i := 3) (lv' := [(3, .int 0), (2, .int 0), (0, .ref (ad v0)), (1, .ref (ad 1))]) C dX5_load_3 rfl (by decide) rfl ?_
  refine j_sub [2, 3, 1, 0] rfl ?_
  exact wl_X5_load_4 C hr hk FU a v0 0 0 hf
