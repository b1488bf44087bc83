set_option maxRecDepth 100000 in
set_option maxHeartbeats 4000000 in
theorem k_X7_keep {l : Launch} {G : GT} {ad : Nat → Nat} {a : KS} {v1 : Option Nat} {b : MS} {rr : KS} (hf : f_X7_keep a v1 = some rr) : MT l G yX7_keep cX7_keep 2 none (RM 0) [.ref (ad 1), itv ad v1] ad a b (none) rr b := by
  refine MT_of2 (lv := [(0, .ref (ad 1)), (1, itv ad v1)]) (by decide) (by simp only [lg_sl, List.flatMap_cons, List.flatMap_nil, itv_cat]; exact Nat.le_of_ble_eq_true rfl) (by simp only [lv_args, itv_cat] <;> rfl) ?_
  intro p e s m args below meth c A C hr hk
  unfold f_X7_keep at hf
  refine j_aload_n C 0 rfl dX7_keep_0 ?_
  refine j_get (q := 1) (kf := 2) (T := TX7) (N := 3) (RC := RX7) C m_1 ce_1 rfl in_X7 (by decide) (fun _ h9 => h9) fl_X7_28 rfl dX7_keep_1 ?_
  refine j_if_lt C 39 dX7_keep_4 (by decide) hf (fun y1 hf => ?_) (fun y1 hf => ?_)
  · obtain rfl := Option.some.inj hf
    exact j_vret C hr hk ⟨Nat.le_of_ble_eq_true rfl, Nat.le_of_ble_eq_true rfl⟩ rfl dX7_keep_39
  · refine j_aload_n C 0 rfl dX7_keep_7 ?_
    refine j_get (q := 1) (kf := 2) (T := TX7) (N := 3) (RC := RX7) C m_1 ce_1 rfl in_X7 (by decide) (fun _ h9 => h9) fl_X7_28 rfl dX7_keep_8 ?_
    refine j_aload_n C 0 rfl dX7_keep_11 ?_
    refine j_get (q := 1) (kf := 1) (T := TX7) (N := 3) (RC := RX7) C m_1 ce_1 rfl in_X7 (by decide) (fun _ h9 => h9) fl_X7_20 rfl dX7_keep_12 ?_
    refine j_alen (q := 2) (t0 := 4) (v := 24) C m_2 ce_2 rfl rfl dX7_keep_15 ?_
    refine j_icmp_ge C 39 dX7_keep_16 (by decide) hf (fun y2 hf => ?_) (fun y2 hf => ?_)
    · obtain rfl := Option.some.inj hf
      exact j_vret C hr hk ⟨Nat.le_of_ble_eq_true rfl, Nat.le_of_ble_eq_true rfl⟩ rfl dX7_keep_39
    · refine j_aload_n C 0 rfl dX7_keep_19 ?_
      refine j_get (q := 1) (kf := 1) (T := TX7) (N := 3) (RC := RX7) C m_1 ce_1 rfl in_X7 (by decide) (fun _ h9 => h9) fl_X7_20 rfl dX7_keep_20 ?_
      refine j_aload_n C 0 rfl dX7_keep_23 ?_
      refine j_get (q := 1) (kf := 2) (T := TX7) (N := 3) (RC := RX7) C m_1 ce_1 rfl in_X7 (by decide) (fun _ h9 => h9) fl_X7_28 rfl dX7_keep_24 ?_
      refine j_aload_nq C 1 rfl dX7_keep_27 ?_
      obtain ⟨i3, e5, h4, hg⟩ := odr_some hf
      clear hf
      subst e5
      have hf := hg
      clear hg
      refine ast_2 C h4 hf dX7_keep_28 (fun hf => ?_)
      refine j_aload_n C 0 rfl dX7_keep_29 ?_
      refine j_dup C rfl dX7_keep_30 ?_
      refine j_get (q := 1) (kf := 2) (T := TX7) (N := 3) (RC := RX7) C m_1 ce_1 rfl in_X7 (by decide) (fun _ h9 => h9) fl_X7_28 rfl dX7_keep_31 ?_
      refine j_iconst (v := 1) C (by decide) dX7_keep_34 ?_
      refine j_iadd C dX7_keep_35 ?_
      refine put_X7_2 C fl_X7_28 rfl rfl dX7_keep_36 ?_
      obtain rfl := Option.some.inj hf
      exact j_vret C hr hk ⟨Nat.le_of_ble_eq_true rfl, Nat.le_of_ble_eq_true rfl⟩ rfl dX7_keep_39
set_option maxRecDepth 100000 in
set_option maxHeartbeats 4000000 in
theorem k_X7_find {l : Launch} {G : GT} {ad : Nat → Nat} {a : KS} {v1 : Int32} {b : MS} {rr : Option Nat} (hf : f_X7_find a v1 = some rr) : MT l G yX7_find cX7_find 2 (some (.object "KnobMenu$Item")) (RM 0) [.ref (ad 1), .int v1] ad a b (some (itv ad rr)) a b := by
  refine MT_of (by decide) (Nat.le_of_ble_eq_true rfl) ?_
  intro p e s m args below meth c A C hr hk
  unfold f_X7_find at hf
  refine j_iload_n C 1 rfl dX7_find_0 ?_
  refine j_if_lt C 30 dX7_find_1 (by decide) hf (fun y1 hf => ?_) (fun y1 hf => ?_)
  · refine j_null C dX7_find_30 ?_
    obtain rfl := Option.some.inj hf
    exact j_aret C hr hk (Or.inl ⟨_, rfl⟩) (itv_nr (ad := ad) none) ⟨Nat.le_of_ble_eq_true rfl, Nat.le_of_ble_eq_true rfl⟩ rfl dX7_find_31
  · refine j_iload_n C 1 rfl dX7_find_4 ?_
    refine j_aload_n C 0 rfl dX7_find_5 ?_
    refine j_get (q := 1) (kf := 2) (T := TX7) (N := 3) (RC := RX7) C m_1 ce_1 rfl in_X7 (by decide) (fun _ h9 => h9) fl_X7_28 rfl dX7_find_6 ?_
    refine j_icmp_ge C 30 dX7_find_9 (by decide) hf (fun y2 hf => ?_) (fun y2 hf => ?_)
    · refine j_null C dX7_find_30 ?_
      obtain rfl := Option.some.inj hf
      exact j_aret C hr hk (Or.inl ⟨_, rfl⟩) (itv_nr (ad := ad) none) ⟨Nat.le_of_ble_eq_true rfl, Nat.le_of_ble_eq_true rfl⟩ rfl dX7_find_31
    · refine j_iload_n C 1 rfl dX7_find_12 ?_
      refine j_aload_n C 0 rfl dX7_find_13 ?_
      refine j_get (q := 1) (kf := 1) (T := TX7) (N := 3) (RC := RX7) C m_1 ce_1 rfl in_X7 (by decide) (fun _ h9 => h9) fl_X7_20 rfl dX7_find_14 ?_
      refine j_alen (q := 2) (t0 := 4) (v := 24) C m_2 ce_2 rfl rfl dX7_find_17 ?_
      refine j_icmp_ge C 30 dX7_find_18 (by decide) hf (fun y3 hf => ?_) (fun y3 hf => ?_)
      · refine j_null C dX7_find_30 ?_
        obtain rfl := Option.some.inj hf
        exact j_aret C hr hk (Or.inl ⟨_, rfl⟩) (itv_nr (ad := ad) none) ⟨Nat.le_of_ble_eq_true rfl, Nat.le_of_ble_eq_true rfl⟩ rfl dX7_find_31
      · refine j_aload_n C 0 rfl dX7_find_21 ?_
        refine j_get (q := 1) (kf := 1) (T := TX7) (N := 3) (RC := RX7) C m_1 ce_1 rfl in_X7 (by decide) (fun _ h9 => h9) fl_X7_20 rfl dX7_find_22 ?_
        refine j_iload_n C 1 rfl dX7_find_25 ?_
        refine j_aald (q := 2) C m_2 ce_2 hf dX7_find_26 (fun hf => ?_)
        refine j_letO hf (fun o4 hf => ?_)
        refine j_goto C 31 dX7_find_27 (by decide) ?_
        obtain rfl := Option.some.inj hf
        exact j_aret C hr hk (Or.inl ⟨_, rfl⟩) (itv_nr (ad := ad) o4) ⟨Nat.le_of_ble_eq_true rfl, Nat.le_of_ble_eq_true rfl⟩ rfl dX7_find_31
set_option maxRecDepth 100000 in
set_option maxHeartbeats 4000000 in
theorem w_X7_anyOpen_36 {b : MS} {p : Program} {l : Launch} {e : Env} {s : State} {m : MethodId} {args : Array Value} {below : List Frame} {meth : Method} {c : Code} {G : GT} {A : Nat → Prop} {ad : Nat → Nat} (C : CX G A RX7 cX7_anyOpen 3 p s m args c) (hr : meth.sig.returnType = (some .boolean)) (hk : meth.locks = false) {rr : Int32} (c2 : KS → Int32 → Option Int32) (K2 : ∀ (a : KS) (v1 : Int32), c2 a v1 = some rr → J p l e (RM 1) s m args below meth c G A 3 (MQ below (QV (some (.int rr)) (PosW G ad a b A) A) args s 0 0 A) 0 0 ad a b 2 [(0, .ref (ad 1)), (1, .int v1)] []) (a : KS) (v1 : Int32) (hf : f_X7_anyOpen_36 c2 a v1 = some rr) : J p l e (RM 1) s m args below meth c G A 3 (MQ below (QV (some (.int rr)) (PosW G ad a b A) A) args s 0 0 A) 0 0 ad a b 36 [(0, .ref (ad 1)), (1, .int v1)] [] := by
  unfold f_X7_anyOpen_36 at hf
  refine j_iinc (v := v1 + 1) (lv' := [(1, .int (v1 + 1)), (0, .ref (ad 1))]) C 1 rfl rfl (by decide) rfl dX7_anyOpen_36 ?_
  refine j_goto C 2 dX7_anyOpen_39 (by decide) ?_
  refine j_sub [1, 0] rfl ?_
  exact K2 a (v1 + 1) hf
set_option maxRecDepth 100000 in
set_option maxHeartbeats 4000000 in
theorem w_X7_anyOpen_2 {b : MS} {p : Program} {l : Launch} {e : Env} {s : State} {m : MethodId} {args : Array Value} {below : List Frame} {meth : Method} {c : Code} {G : GT} {A : Nat → Prop} {ad : Nat → Nat} (C : CX G A RX7 cX7_anyOpen 3 p s m args c) (hr : meth.sig.returnType = (some .boolean)) (hk : meth.locks = false) {rr : Int32} (c2 : KS → Int32 → Option Int32) (K2 : ∀ (a : KS) (v1 : Int32), c2 a v1 = some rr → J p l e (RM 1) s m args below meth c G A 3 (MQ below (QV (some (.int rr)) (PosW G ad a b A) A) args s 0 0 A) 0 0 ad a b 2 [(0, .ref (ad 1)), (1, .int v1)] []) (a : KS) (v1 : Int32) (hf : f_X7_anyOpen_2 c2 a v1 = some rr) : J p l e (RM 1) s m args below meth c G A 3 (MQ below (QV (some (.int rr)) (PosW G ad a b A) A) args s 0 0 A) 0 0 ad a b 2 [(0, .ref (ad 1)), (1, .int v1)] [] := by
  unfold f_X7_anyOpen_2 at hf
  refine j_iload_n C 1 rfl dX7_anyOpen_2 ?_
  refine j_aload_n C 0 rfl dX7_anyOpen_3 ?_
  refine j_get (q := 1) (kf := 2) (T := TX7) (N := 3) (RC := RX7) C m_1 ce_1 rfl in_X7 (by decide) (fun _ h9 => h9) fl_X7_28 rfl dX7_anyOpen_4 ?_
  refine j_icmp_ge C 42 dX7_anyOpen_7 (by decide) hf (fun y1 hf => ?_) (fun y1 hf => ?_)
  · refine j_iconst (v := 0) C (by decide) dX7_anyOpen_42 ?_
    obtain rfl := Option.some.inj hf
    exact j_zret C hr hk (by decide) ⟨Nat.le_of_ble_eq_true rfl, Nat.le_of_ble_eq_true rfl⟩ rfl dX7_anyOpen_43
  · refine j_aload_n C 0 rfl dX7_anyOpen_10 ?_
    refine j_iload_n C 1 rfl dX7_anyOpen_11 ?_
    obtain ⟨z2, h3, hf⟩ := bnd_some hf
    refine j_callV (q := 1) (As := [.int v1]) (rest := []) C (k_X7_find h3) cw_X7_find ml_X7_32 m_1 ce_1 rfl rfl ⟨Nat.le_of_ble_eq_true rfl, Nat.le_of_ble_eq_true rfl⟩ ⟨Nat.le_of_ble_eq_true rfl, Nat.le_of_ble_eq_true rfl⟩ rfl (Nat.le_of_ble_eq_true rfl) dX7_anyOpen_12 ?_
    refine j_astore_nq (i := 2) (lv' := [(2, itv ad z2), (0, .ref (ad 1)), (1, .int v1)]) (o := z2) C dX7_anyOpen_15 rfl (by decide) rfl ?_
    refine j_aload_nq C 0 rfl dX7_anyOpen_16 ?_
    refine j_ifnull C 36 dX7_anyOpen_17 (by decide) hf (fun e7 hg => ?_) (fun i6 e7 hg => ?_)
    · clear hf
      subst e7
      have hf := hg
      clear hg
      refine j_sub [1, 2] rfl ?_
      exact w_X7_anyOpen_36 C hr hk c2 K2 a v1 hf
    · clear hf
      subst e7
      have hf := hg
      clear hg
      refine j_aload_n C 0 rfl dX7_anyOpen_20 ?_
      obtain ⟨h8, hf⟩ := gd_some hf
      have h8 := of_decide_eq_true h8
      obtain ⟨z9, h10, hf⟩ := bnd_some hf
      refine j_callV (q := (ip i6)) (As := []) (rest := []) C (k_X4_locked h10) cw_X4_locked ml_X7_36 (mem_ip h8) ce_item rfl rfl ⟨Nat.le_of_ble_eq_true rfl, Nat.le_of_ble_eq_true rfl⟩ ⟨Nat.le_of_ble_eq_true rfl, Nat.le_of_ble_eq_true rfl⟩ rfl (Nat.le_of_ble_eq_true rfl) dX7_anyOpen_21 ?_
      refine j_if_eq C 36 dX7_anyOpen_24 (by decide) hf (fun y12 hf => ?_) (fun y12 hf => ?_)
      · refine j_sub [1, 2] rfl ?_
        exact w_X7_anyOpen_36 C hr hk c2 K2 a v1 hf
      · refine j_aload_n C 0 rfl dX7_anyOpen_27 ?_
        refine j_get (q := (ip i6)) (kf := 12) (T := TX4) (N := 13) (RC := RX4) C (mem_ip h8) ce_item rfl in_X4 (by decide) (fun _ h9 => h9) fl_X7_40 rfl dX7_anyOpen_28 ?_
        refine j_if_eq C 36 dX7_anyOpen_31 (by decide) hf (fun y13 hf => ?_) (fun y13 hf => ?_)
        · refine j_sub [1, 2] rfl ?_
          exact w_X7_anyOpen_36 C hr hk c2 K2 a v1 hf
        · refine j_iconst (v := 1) C (by decide) dX7_anyOpen_34 ?_
          obtain rfl := Option.some.inj hf
          exact j_zret C hr hk (by decide) ⟨Nat.le_of_ble_eq_true rfl, Nat.le_of_ble_eq_true rfl⟩ rfl dX7_anyOpen_35
theorem wl_X7_anyOpen_2 {b : MS} {p : Program} {l : Launch} {e : Env} {s : State} {m : MethodId} {args : Array Value} {below : List Frame} {meth : Method} {c : Code} {G : GT} {A : Nat → Prop} {ad : Nat → Nat} (C : CX G A RX7 cX7_anyOpen 3 p s m args c) (hr : meth.sig.returnType = (some .boolean)) (hk : meth.locks = false) {rr : Int32} (fuel : Nat)   : ∀ (a : KS) (v1 : Int32), l_X7_anyOpen_2 fuel  a v1 = some rr → J p l e (RM 1) s m args below meth c G A 3 (MQ below (QV (some (.int rr)) (PosW G ad a b A) A) args s 0 0 A) 0 0 ad a b 2 [(0, .ref (ad 1)), (1, .int v1)] [] := by
  induction fuel with
  | zero => intro a v1 hf; cases hf
  | succ n ih =>
    intro a v1 hf
    have hf : f_X7_anyOpen_2 (l_X7_anyOpen_2 n ) a v1 = some rr := hf
    exact w_X7_anyOpen_2 C hr hk (l_X7_anyOpen_2 n ) ih a v1 hf
set_option maxRecDepth 100000 in
set_option maxHeartbeats 4000000 in
theorem k_X7_anyOpen {l : Launch} {G : GT} {ad : Nat → Nat} {a : KS} {b : MS} {rr : Int32} (hf : f_X7_anyOpen a = some rr) : MT l G yX7_anyOpen cX7_anyOpen 3 (some .boolean) (RM 1) [.ref (ad 1)] ad a b (some (.int rr)) a b := by
  refine MT_of (by decide) (Nat.le_of_ble_eq_true rfl) ?_
  intro p e s m args below meth c A C hr hk
  unfold f_X7_anyOpen at hf
  refine j_iconst (v := 0) C (by decide) dX7_anyOpen_0 ?_
  refine j_istore_n (i := 1) (lv' := [(1, .int 0), (0, .ref (ad 1))]) C dX7_anyOpen_1 rfl (by decide) rfl ?_
  refine j_sub [1, 0] rfl ?_
  exact wl_X7_anyOpen_2 C hr hk FU a 0 hf
set_option maxRecDepth 100000 in
set_option maxHeartbeats 4000000 in
theorem w_X7_closeAll_25 {b : MS} {p : Program} {l : Launch} {e : Env} {s : State} {m : MethodId} {args : Array Value} {below : List Frame} {meth : Method} {c : Code} {G : GT} {A : Nat → Prop} {ad : Nat → Nat} (C : CX G A RX7 cX7_closeAll 3 p s m args c) (hr : meth.sig.returnType = none) (hk : meth.locks = false) {rr : KS} (c2 : KS → Int32 → Option KS) (K2 : ∀ (a : KS) (v1 : Int32), c2 a v1 = some rr → J p l e (RM 1) s m args below meth c G A 3 (MQ below (QV (none) (PosW G ad rr b A) A) args s 0 0 A) 0 0 ad a b 2 [(0, .ref (ad 1)), (1, .int v1)] []) (a : KS) (v1 : Int32) (hf : f_X7_closeAll_25 c2 a v1 = some rr) : J p l e (RM 1) s m args below meth c G A 3 (MQ below (QV (none) (PosW G ad rr b A) A) args s 0 0 A) 0 0 ad a b 25 [(0, .ref (ad 1)), (1, .int v1)] [] := by
  unfold f_X7_closeAll_25 at hf
  refine j_iinc (v := v1 + 1) (lv' := [(1, .int (v1 + 1)), (0, .ref (ad 1))]) C 1 rfl rfl (by decide) rfl dX7_closeAll_25 ?_
  refine j_goto C 2 dX7_closeAll_28 (by decide) ?_
  refine j_sub [1, 0] rfl ?_
  exact K2 a (v1 + 1) hf
set_option maxRecDepth 100000 in
set_option maxHeartbeats 4000000 in
theorem w_X7_closeAll_2 {b : MS} {p : Program} {l : Launch} {e : Env} {s : State} {m : MethodId} {args : Array Value} {below : List Frame} {meth : Method} {c : Code} {G : GT} {A : Nat → Prop} {ad : Nat → Nat} (C : CX G A RX7 cX7_closeAll 3 p s m args c) (hr : meth.sig.returnType = none) (hk : meth.locks = false) {rr : KS} (c2 : KS → Int32 → Option KS) (K2 : ∀ (a : KS) (v1 : Int32), c2 a v1 = some rr → J p l e (RM 1) s m args below meth c G A 3 (MQ below (QV (none) (PosW G ad rr b A) A) args s 0 0 A) 0 0 ad a b 2 [(0, .ref (ad 1)), (1, .int v1)] []) (a : KS) (v1 : Int32) (hf : f_X7_closeAll_2 c2 a v1 = some rr) : J p l e (RM 1) s m args below meth c G A 3 (MQ below (QV (none) (PosW G ad rr b A) A) args s 0 0 A) 0 0 ad a b 2 [(0, .ref (ad 1)), (1, .int v1)] [] := by
  unfold f_X7_closeAll_2 at hf
  refine j_iload_n C 1 rfl dX7_closeAll_2 ?_
  refine j_aload_n C 0 rfl dX7_closeAll_3 ?_
  refine j_get (q := 1) (kf := 2) (T := TX7) (N := 3) (RC := RX7) C m_1 ce_1 rfl in_X7 (by decide) (fun _ h9 => h9) fl_X7_28 rfl dX7_closeAll_4 ?_
  refine j_icmp_ge C 31 dX7_closeAll_7 (by decide) hf (fun y1 hf => ?_) (fun y1 hf => ?_)
  · obtain rfl := Option.some.inj hf
    exact j_vret C hr hk ⟨Nat.le_of_ble_eq_true rfl, Nat.le_of_ble_eq_true rfl⟩ rfl dX7_closeAll_31
  · refine j_aload_n C 0 rfl dX7_closeAll_10 ?_
    refine j_iload_n C 1 rfl dX7_closeAll_11 ?_
    obtain ⟨z2, h3, hf⟩ := bnd_some hf
    refine j_callV (q := 1) (As := [.int v1]) (rest := []) C (k_X7_find h3) cw_X7_find ml_X7_32 m_1 ce_1 rfl rfl ⟨Nat.le_of_ble_eq_true rfl, Nat.le_of_ble_eq_true rfl⟩ ⟨Nat.le_of_ble_eq_true rfl, Nat.le_of_ble_eq_true rfl⟩ rfl (Nat.le_of_ble_eq_true rfl) dX7_closeAll_12 ?_
    refine j_astore_nq (i := 2) (lv' := [(2, itv ad z2), (0, .ref (ad 1)), (1, .int v1)]) (o := z2) C dX7_closeAll_15 rfl (by decide) rfl ?_
    refine j_aload_nq C 0 rfl dX7_closeAll_16 ?_
    refine j_ifnull C 25 dX7_closeAll_17 (by decide) hf (fun e7 hg => ?_) (fun i6 e7 hg => ?_)
    · clear hf
      subst e7
      have hf := hg
      clear hg
      refine j_sub [1, 2] rfl ?_
      exact w_X7_closeAll_25 C hr hk c2 K2 a v1 hf
    · clear hf
      subst e7
      have hf := hg
      clear hg
      refine j_aload_n C 0 rfl dX7_closeAll_20 ?_
      refine j_iconst (v := 0) C (by decide) dX7_closeAll_21 ?_
      obtain ⟨h8, hf⟩ := gd_some hf
      have h8 := of_decide_eq_true h8
      obtain ⟨h9, hf⟩ := gd_some hf
      refine put_X4_12 C h8 fl_X7_40 (okz_n h9) (okz_f h9) dX7_closeAll_22 ?_
      refine j_sub [1, 2] rfl ?_
      exact w_X7_closeAll_25 C hr hk c2 K2 (sKit a i6 12 0) v1 hf
theorem wl_X7_closeAll_2 {b : MS} {p : Program} {l : Launch} {e : Env} {s : State} {m : MethodId} {args : Array Value} {below : List Frame} {meth : Method} {c : Code} {G : GT} {A : Nat → Prop} {ad : Nat → Nat} (C : CX G A RX7 cX7_closeAll 3 p s m args c) (hr : meth.sig.returnType = none) (hk : meth.locks = false) {rr : KS} (fuel : Nat)   : ∀ (a : KS) (v1 : Int32), l_X7_closeAll_2 fuel  a v1 = some rr → J p l e (RM 1) s m args below meth c G A 3 (MQ below (QV (none) (PosW G ad rr b A) A) args s 0 0 A) 0 0 ad a b 2 [(0, .ref (ad 1)), (1, .int v1)] [] := by
  induction fuel with
  | zero => intro a v1 hf; cases hf
  | succ n ih =>
    intro a v1 hf
    have hf : f_X7_closeAll_2 (l_X7_closeAll_2 n ) a v1 = some rr := hf
    exact w_X7_closeAll_2 C hr hk (l_X7_closeAll_2 n ) ih a v1 hf
set_option maxRecDepth 100000 in
set_option maxHeartbeats 4000000 in
theorem k_X7_closeAll {l : Launch} {G : GT} {ad : Nat → Nat} {a : KS} {b : MS} {rr : KS} (hf : f_X7_closeAll a = some rr) : MT l G yX7_closeAll cX7_closeAll 3 none (RM 1) [.ref (ad 1)] ad a b (none) rr b := by
  refine MT_of (by decide) (Nat.le_of_ble_eq_true rfl) ?_
  intro p e s m args below meth c A C hr hk
  unfold f_X7_closeAll at hf
  refine j_iconst (v := 0) C (by decide) dX7_closeAll_0 ?_
  refine j_istore_n (i := 1) (lv' := [(1, .int 0), (0, .ref (ad 1))]) C dX7_closeAll_1 rfl (by decide) rfl ?_
  refine j_sub [1, 0] rfl ?_
  exact wl_X7_closeAll_2 C hr hk FU a 0 hf
