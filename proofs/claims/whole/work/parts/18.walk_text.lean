set_option maxRecDepth 100000 in
set_option maxHeartbeats 4000000 in
theorem k_X1_keep {l : Launch} {G : GT} {ad : Nat → Nat} {a : KS} {v1 : Int32} {b : MS} {rr : KS} (hf : f_X1_keep a v1 = some rr) : MT l G yX1_keep cX1_keep 2 none (RM 0) [.ref (ad 16), .int v1] ad a b (none) rr b := by
  refine MT_of (by decide) (Nat.le_of_ble_eq_true rfl) ?_
  intro p e s m args below meth c A C hr hk
  unfold f_X1_keep at hf
  refine j_aload_n C 0 rfl dX1_keep_0 ?_
  refine j_get (q := 16) (kf := 2) (T := TX1) (N := 4) (RC := RX1) C m_16 ce_16 rfl in_X1 (by decide) (fun _ h9 => h9) fl_X1_22 rfl dX1_keep_1 ?_
  refine j_if_lt C 39 dX1_keep_4 (by decide) hf (fun y1 hf => ?_) (fun y1 hf => ?_)
  · obtain rfl := Option.some.inj hf
    exact j_vret C hr hk ⟨Nat.le_of_ble_eq_true rfl, Nat.le_of_ble_eq_true rfl⟩ rfl dX1_keep_39
  · refine j_aload_n C 0 rfl dX1_keep_7 ?_
    refine j_get (q := 16) (kf := 2) (T := TX1) (N := 4) (RC := RX1) C m_16 ce_16 rfl in_X1 (by decide) (fun _ h9 => h9) fl_X1_22 rfl dX1_keep_8 ?_
    refine j_aload_n C 0 rfl dX1_keep_11 ?_
    refine j_get (q := 16) (kf := 0) (T := TX1) (N := 4) (RC := RX1) C m_16 ce_16 rfl in_X1 (by decide) (fun _ h9 => h9) fl_X1_9 rfl dX1_keep_12 ?_
    refine j_alen (q := 17) (t0 := 1) (v := 60) C m_17 ce_17 rfl rfl dX1_keep_15 ?_
    refine j_icmp_ge C 39 dX1_keep_16 (by decide) hf (fun y2 hf => ?_) (fun y2 hf => ?_)
    · obtain rfl := Option.some.inj hf
      exact j_vret C hr hk ⟨Nat.le_of_ble_eq_true rfl, Nat.le_of_ble_eq_true rfl⟩ rfl dX1_keep_39
    · refine j_aload_n C 0 rfl dX1_keep_19 ?_
      refine j_get (q := 16) (kf := 0) (T := TX1) (N := 4) (RC := RX1) C m_16 ce_16 rfl in_X1 (by decide) (fun _ h9 => h9) fl_X1_9 rfl dX1_keep_20 ?_
      refine j_aload_n C 0 rfl dX1_keep_23 ?_
      refine j_get (q := 16) (kf := 2) (T := TX1) (N := 4) (RC := RX1) C m_16 ce_16 rfl in_X1 (by decide) (fun _ h9 => h9) fl_X1_22 rfl dX1_keep_24 ?_
      refine j_iload_n C 1 rfl dX1_keep_27 ?_
      refine ast_17 C hf dX1_keep_28 (fun hf => ?_)
      refine j_aload_n C 0 rfl dX1_keep_29 ?_
      refine j_dup C rfl dX1_keep_30 ?_
      refine j_get (q := 16) (kf := 2) (T := TX1) (N := 4) (RC := RX1) C m_16 ce_16 rfl in_X1 (by decide) (fun _ h9 => h9) fl_X1_22 rfl dX1_keep_31 ?_
      refine j_iconst (v := 1) C (by decide) dX1_keep_34 ?_
      refine j_iadd C dX1_keep_35 ?_
      refine put_X1_2 C fl_X1_22 rfl rfl dX1_keep_36 ?_
      obtain rfl := Option.some.inj hf
      exact j_vret C hr hk ⟨Nat.le_of_ble_eq_true rfl, Nat.le_of_ble_eq_true rfl⟩ rfl dX1_keep_39
set_option maxRecDepth 100000 in
set_option maxHeartbeats 4000000 in
theorem k_X1_empty {l : Launch} {G : GT} {ad : Nat → Nat} {a : KS} {b : MS} {rr : KS} (hf : f_X1_empty a = some rr) : MT l G yX1_empty cX1_empty 1 none (RM 0) [.ref (ad 16)] ad a b (none) rr b := by
  refine MT_of (by decide) (Nat.le_of_ble_eq_true rfl) ?_
  intro p e s m args below meth c A C hr hk
  unfold f_X1_empty at hf
  refine j_aload_n C 0 rfl dX1_empty_0 ?_
  refine j_iconst (v := 0) C (by decide) dX1_empty_1 ?_
  refine put_X1_2 C fl_X1_22 rfl rfl dX1_empty_2 ?_
  obtain rfl := Option.some.inj hf
  exact j_vret C hr hk ⟨Nat.le_of_ble_eq_true rfl, Nat.le_of_ble_eq_true rfl⟩ rfl dX1_empty_5
set_option maxRecDepth 100000 in
set_option maxHeartbeats 4000000 in
theorem k_X1_signAt {l : Launch} {G : GT} {ad : Nat → Nat} {a : KS} {v1 : Int32} {b : MS} {rr : Int32} (hf : f_X1_signAt a v1 = some rr) : MT l G yX1_signAt cX1_signAt 2 (some .char) (RM 0) [.ref (ad 16), .int v1] ad a b (some (.int rr)) a b := by
  refine MT_of (by decide) (Nat.le_of_ble_eq_true rfl) ?_
  intro p e s m args below meth c A C hr hk
  unfold f_X1_signAt at hf
  refine j_iload_n C 1 rfl dX1_signAt_0 ?_
  refine j_if_lt C 22 dX1_signAt_1 (by decide) hf (fun y1 hf => ?_) (fun y1 hf => ?_)
  · refine j_bipush (v := 32) C (by decide) dX1_signAt_22 ?_
    obtain ⟨h2, hf⟩ := gd_some hf
    obtain rfl := Option.some.inj hf
    exact j_zret C hr hk (okc_n h2) ⟨Nat.le_of_ble_eq_true rfl, Nat.le_of_ble_eq_true rfl⟩ rfl dX1_signAt_24
  · refine j_iload_n C 1 rfl dX1_signAt_4 ?_
    refine j_aload_n C 0 rfl dX1_signAt_5 ?_
    refine j_get (q := 16) (kf := 0) (T := TX1) (N := 4) (RC := RX1) C m_16 ce_16 rfl in_X1 (by decide) (fun _ h9 => h9) fl_X1_9 rfl dX1_signAt_6 ?_
    refine j_alen (q := 17) (t0 := 1) (v := 60) C m_17 ce_17 rfl rfl dX1_signAt_9 ?_
    refine j_icmp_ge C 22 dX1_signAt_10 (by decide) hf (fun y3 hf => ?_) (fun y3 hf => ?_)
    · refine j_bipush (v := 32) C (by decide) dX1_signAt_22 ?_
      obtain ⟨h4, hf⟩ := gd_some hf
      obtain rfl := Option.some.inj hf
      exact j_zret C hr hk (okc_n h4) ⟨Nat.le_of_ble_eq_true rfl, Nat.le_of_ble_eq_true rfl⟩ rfl dX1_signAt_24
    · refine j_aload_n C 0 rfl dX1_signAt_13 ?_
      refine j_get (q := 16) (kf := 0) (T := TX1) (N := 4) (RC := RX1) C m_16 ce_16 rfl in_X1 (by decide) (fun _ h9 => h9) fl_X1_9 rfl dX1_signAt_14 ?_
      refine j_iload_n C 1 rfl dX1_signAt_17 ?_
      refine j_cald (q := 17) C m_17 ce_17 hf dX1_signAt_18 (fun hf => ?_)
      refine j_goto C 24 dX1_signAt_19 (by decide) ?_
      obtain ⟨h5, hf⟩ := gd_some hf
      obtain rfl := Option.some.inj hf
      exact j_zret C hr hk (okc_n h5) ⟨Nat.le_of_ble_eq_true rfl, Nat.le_of_ble_eq_true rfl⟩ rfl dX1_signAt_24
set_option maxRecDepth 100000 in
set_option maxHeartbeats 4000000 in
theorem w_X1_errorIndex_9 {p : Program} {l : Launch} {e : Env} {s : State} {m : MethodId} {args : Array Value} {below : List Frame} {meth : Method} {c : Code} {G : GT} {A : Nat → Prop} {ad : Nat → Nat} (C : CX G A RX1 cX1_errorIndex 2 p s m args c) (hr : meth.sig.returnType = (some .int)) (hk : meth.locks = false) {b : MS} {rr : Int32 × KS} (c9 : KS → Int32 → Option (Int32 × KS)) (K9 : ∀ (a : KS) (v1 : Int32), c9 a v1 = some rr → J p l e (RM 4) s m args below meth c G A 2 (MQ below (QV (some (.int rr.1)) (PosW G ad rr.2 b A) A) args s 0 0 A) 0 0 ad a b 9 [(0, .ref (ad 16)), (1, .int v1)] []) (a : KS) (v1 : Int32) (hf : f_X1_errorIndex_9 c9 a v1 = some rr) : J p l e (RM 4) s m args below meth c G A 2 (MQ below (QV (some (.int rr.1)) (PosW G ad rr.2 b A) A) args s 0 0 A) 0 0 ad a b 9 [(0, .ref (ad 16)), (1, .int v1)] [] := by
  unfold f_X1_errorIndex_9 at hf
  refine j_iload_n C 1 rfl dX1_errorIndex_9 ?_
  refine j_aload_n C 0 rfl dX1_errorIndex_10 ?_
  refine j_get (q := 16) (kf := 2) (T := TX1) (N := 4) (RC := RX1) C m_16 ce_16 rfl in_X1 (by decide) (fun _ h9 => h9) fl_X1_22 rfl dX1_errorIndex_11 ?_
  refine j_icmp_ge C 40 dX1_errorIndex_14 (by decide) hf (fun y1 hf => ?_) (fun y1 hf => ?_)
  · refine j_aload_n C 0 rfl dX1_errorIndex_40 ?_
    refine j_get (q := 16) (kf := 2) (T := TX1) (N := 4) (RC := RX1) C m_16 ce_16 rfl in_X1 (by decide) (fun _ h9 => h9) fl_X1_22 rfl dX1_errorIndex_41 ?_
    obtain rfl := Option.some.inj hf
    exact j_iret C hr hk ⟨Nat.le_of_ble_eq_true rfl, Nat.le_of_ble_eq_true rfl⟩ rfl dX1_errorIndex_44
  · refine j_aload_n C 0 rfl dX1_errorIndex_17 ?_
    refine j_get (q := 16) (kf := 1) (T := TX1) (N := 4) (RC := RX1) C m_16 ce_16 rfl in_X1 (by decide) (fun _ h9 => h9) fl_X1_18 rfl dX1_errorIndex_18 ?_
    refine j_aload_n C 0 rfl dX1_errorIndex_21 ?_
    refine j_iload_n C 1 rfl dX1_errorIndex_22 ?_
    obtain ⟨z2, h3, hf⟩ := bnd_some hf
    refine j_callV (q := 16) (As := [.int v1]) (rest := [.ref (ad 18)]) C (k_X1_signAt h3) cw_X1_signAt ml_X1_29 m_16 ce_16 rfl rfl ⟨Nat.le_of_ble_eq_true rfl, Nat.le_of_ble_eq_true rfl⟩ ⟨Nat.le_of_ble_eq_true rfl, Nat.le_of_ble_eq_true rfl⟩ rfl (Nat.le_of_ble_eq_true rfl) dX1_errorIndex_23 ?_
    obtain ⟨z5, h6, hf⟩ := bnd_some hf
    refine j_callV (q := 18) (As := [.int z2]) (rest := []) C (k_X0_takes h6) cw_X0_takes ml_X1_33 m_18 ce_18 rfl rfl ⟨Nat.le_of_ble_eq_true rfl, Nat.le_of_ble_eq_true rfl⟩ ⟨Nat.le_of_ble_eq_true rfl, Nat.le_of_ble_eq_true rfl⟩ rfl (Nat.le_of_ble_eq_true rfl) dX1_errorIndex_26 ?_
    refine j_if_ne C 34 dX1_errorIndex_29 (by decide) hf (fun y10 hf => ?_) (fun y10 hf => ?_)
    · refine j_iinc (v := v1 + 1) (lv' := [(1, .int (v1 + 1)), (0, .ref (ad 16))]) C 1 rfl rfl (by decide) rfl dX1_errorIndex_34 ?_
      refine j_goto C 9 dX1_errorIndex_37 (by decide) ?_
      refine j_sub [1, 0] rfl ?_
      exact K9 z5.2 (v1 + 1) hf
    · refine j_iload_n C 1 rfl dX1_errorIndex_32 ?_
      obtain rfl := Option.some.inj hf
      exact j_iret C hr hk ⟨Nat.le_of_ble_eq_true rfl, Nat.le_of_ble_eq_true rfl⟩ rfl dX1_errorIndex_33
theorem wl_X1_errorIndex_9 {p : Program} {l : Launch} {e : Env} {s : State} {m : MethodId} {args : Array Value} {below : List Frame} {meth : Method} {c : Code} {G : GT} {A : Nat → Prop} {ad : Nat → Nat} (C : CX G A RX1 cX1_errorIndex 2 p s m args c) (hr : meth.sig.returnType = (some .int)) (hk : meth.locks = false) {b : MS} {rr : Int32 × KS} (fuel : Nat)   : ∀ (a : KS) (v1 : Int32), l_X1_errorIndex_9 fuel  a v1 = some rr → J p l e (RM 4) s m args below meth c G A 2 (MQ below (QV (some (.int rr.1)) (PosW G ad rr.2 b A) A) args s 0 0 A) 0 0 ad a b 9 [(0, .ref (ad 16)), (1, .int v1)] [] := by
  induction fuel with
  | zero => intro a v1 hf; cases hf
  | succ n ih =>
    intro a v1 hf
    have hf : f_X1_errorIndex_9 (l_X1_errorIndex_9 n ) a v1 = some rr := hf
    exact w_X1_errorIndex_9 C hr hk (l_X1_errorIndex_9 n ) ih a v1 hf
set_option maxRecDepth 100000 in
set_option maxHeartbeats 4000000 in
theorem k_X1_errorIndex {l : Launch} {G : GT} {ad : Nat → Nat} {a : KS} {b : MS} {rr : Int32 × KS} (hf : f_X1_errorIndex a = some rr) : MT l G yX1_errorIndex cX1_errorIndex 2 (some .int) (RM 4) [.ref (ad 16)] ad a b (some (.int rr.1)) rr.2 b := by
  refine MT_of (by decide) (Nat.le_of_ble_eq_true rfl) ?_
  intro p e s m args below meth c A C hr hk
  unfold f_X1_errorIndex at hf
  refine j_aload_n C 0 rfl dX1_errorIndex_0 ?_
  refine j_get (q := 16) (kf := 1) (T := TX1) (N := 4) (RC := RX1) C m_16 ce_16 rfl in_X1 (by decide) (fun _ h9 => h9) fl_X1_18 rfl dX1_errorIndex_1 ?_
  obtain ⟨z1, h2, hf⟩ := bnd_some hf
  refine j_callV (q := 18) (As := []) (rest := []) C (k_X0_begin h2) cw_X0_begin ml_X1_26 m_18 ce_18 rfl rfl ⟨Nat.le_of_ble_eq_true rfl, Nat.le_of_ble_eq_true rfl⟩ ⟨Nat.le_of_ble_eq_true rfl, Nat.le_of_ble_eq_true rfl⟩ rfl (Nat.le_of_ble_eq_true rfl) dX1_errorIndex_4 ?_
  refine j_iconst (v := 0) C (by decide) dX1_errorIndex_7 ?_
  refine j_istore_n (i := 1) (lv' := [(1, .int 0), (0, .ref (ad 16))]) C dX1_errorIndex_8 rfl (by decide) rfl ?_
  refine j_sub [1, 0] rfl ?_
  exact wl_X1_errorIndex_9 C hr hk FU z1 0 hf
set_option maxRecDepth 100000 in
set_option maxHeartbeats 4000000 in
theorem k_X1_complete {l : Launch} {G : GT} {ad : Nat → Nat} {a : KS} {b : MS} {rr : Int32 × KS} (hf : f_X1_complete a = some rr) : MT l G yX1_complete cX1_complete 1 (some .boolean) (RM 5) [.ref (ad 16)] ad a b (some (.int rr.1)) rr.2 b := by
  refine MT_of (by decide) (Nat.le_of_ble_eq_true rfl) ?_
  intro p e s m args below meth c A C hr hk
  unfold f_X1_complete at hf
  refine j_aload_n C 0 rfl dX1_complete_0 ?_
  obtain ⟨z1, h2, hf⟩ := bnd_some hf
  refine j_callV (q := 16) (As := []) (rest := []) C (k_X1_errorIndex h2) cw_X1_errorIndex ml_X1_37 m_16 ce_16 rfl rfl ⟨Nat.le_of_ble_eq_true rfl, Nat.le_of_ble_eq_true rfl⟩ ⟨Nat.le_of_ble_eq_true rfl, Nat.le_of_ble_eq_true rfl⟩ rfl (Nat.le_of_ble_eq_true rfl) dX1_complete_1 ?_
  refine j_aload_n C 0 rfl dX1_complete_4 ?_
  refine j_get (q := 16) (kf := 2) (T := TX1) (N := 4) (RC := RX1) C m_16 ce_16 rfl in_X1 (by decide) (fun _ h9 => h9) fl_X1_22 rfl dX1_complete_5 ?_
  refine j_icmp_ne C 25 dX1_complete_8 (by decide) hf (fun y6 hf => ?_) (fun y6 hf => ?_)
  · refine j_iconst (v := 0) C (by decide) dX1_complete_25 ?_
    obtain rfl := Option.some.inj hf
    exact j_zret C hr hk (by decide) ⟨Nat.le_of_ble_eq_true rfl, Nat.le_of_ble_eq_true rfl⟩ rfl dX1_complete_26
  · refine j_aload_n C 0 rfl dX1_complete_11 ?_
    refine j_get (q := 16) (kf := 1) (T := TX1) (N := 4) (RC := RX1) C m_16 ce_16 rfl in_X1 (by decide) (fun _ h9 => h9) fl_X1_18 rfl dX1_complete_12 ?_
    obtain ⟨z7, h8, hf⟩ := bnd_some hf
    refine j_callV (q := 18) (As := []) (rest := []) C (k_X0_atEnd h8) cw_X0_atEnd ml_X1_41 m_18 ce_18 rfl rfl ⟨Nat.le_of_ble_eq_true rfl, Nat.le_of_ble_eq_true rfl⟩ ⟨Nat.le_of_ble_eq_true rfl, Nat.le_of_ble_eq_true rfl⟩ rfl (Nat.le_of_ble_eq_true rfl) dX1_complete_15 ?_
    refine j_if_eq C 25 dX1_complete_18 (by decide) hf (fun y10 hf => ?_) (fun y10 hf => ?_)
    · refine j_iconst (v := 0) C (by decide) dX1_complete_25 ?_
      obtain rfl := Option.some.inj hf
      exact j_zret C hr hk (by decide) ⟨Nat.le_of_ble_eq_true rfl, Nat.le_of_ble_eq_true rfl⟩ rfl dX1_complete_26
    · refine j_iconst (v := 1) C (by decide) dX1_complete_21 ?_
      refine j_goto C 26 dX1_complete_22 (by decide) ?_
      obtain rfl := Option.some.inj hf
      exact j_zret C hr hk (by decide) ⟨Nat.le_of_ble_eq_true rfl, Nat.le_of_ble_eq_true rfl⟩ rfl dX1_complete_26
set_option maxRecDepth 100000 in
set_option maxHeartbeats 4000000 in
theorem k_X1_restart {l : Launch} {G : GT} {ad : Nat → Nat} {a : KS} {b : MS} {rr : KS} (hf : f_X1_restart a = some rr) : MT l G yX1_restart cX1_restart 1 none (RM 0) [.ref (ad 16)] ad a b (none) rr b := by
  refine MT_of (by decide) (Nat.le_of_ble_eq_true rfl) ?_
  intro p e s m args below meth c A C hr hk
  unfold f_X1_restart at hf
  refine j_aload_n C 0 rfl dX1_restart_0 ?_
  refine j_iconst (v := 0) C (by decide) dX1_restart_1 ?_
  refine put_X1_3 C fl_X1_45 rfl rfl dX1_restart_2 ?_
  obtain rfl := Option.some.inj hf
  exact j_vret C hr hk ⟨Nat.le_of_ble_eq_true rfl, Nat.le_of_ble_eq_true rfl⟩ rfl dX1_restart_5
set_option maxRecDepth 100000 in
set_option maxHeartbeats 4000000 in
theorem w_X1_readAction_73 {p : Program} {l : Launch} {e : Env} {s : State} {m : MethodId} {args : Array Value} {below : List Frame} {meth : Method} {c : Code} {G : GT} {A : Nat → Prop} {ad : Nat → Nat} (C : CX G A RX1 cX1_readAction 1 p s m args c) (hr : meth.sig.returnType = (some .boolean)) (hk : meth.locks = false) {b : MS} {rr : Int32 × KS}   (a : KS) (hf : f_X1_readAction_73 a = some rr) : J p l e (RM 4) s m args below meth c G A 1 (MQ below (QV (some (.int rr.1)) (PosW G ad rr.2 b A) A) args s 0 0 A) 0 0 ad a b 73 [(0, .ref (ad 16))] [] := by
  unfold f_X1_readAction_73 at hf
  refine j_aload_n C 0 rfl dX1_readAction_73 ?_
  refine j_dup C rfl dX1_readAction_74 ?_
  refine j_get (q := 16) (kf := 3) (T := TX1) (N := 4) (RC := RX1) C m_16 ce_16 rfl in_X1 (by decide) (fun _ h9 => h9) fl_X1_45 rfl dX1_readAction_75 ?_
  refine j_iconst (v := 1) C (by decide) dX1_readAction_78 ?_
  refine j_iadd C dX1_readAction_79 ?_
  refine put_X1_3 C fl_X1_45 rfl rfl dX1_readAction_80 ?_
  refine j_iconst (v := 1) C (by decide) dX1_readAction_83 ?_
  obtain rfl := Option.some.inj hf
  exact j_zret C hr hk (by decide) ⟨Nat.le_of_ble_eq_true rfl, Nat.le_of_ble_eq_true rfl⟩ rfl dX1_readAction_84
set_option maxRecDepth 100000 in
set_option maxHeartbeats 4000000 in
theorem w_X1_readAction_20 {p : Program} {l : Launch} {e : Env} {s : State} {m : MethodId} {args : Array Value} {below : List Frame} {meth : Method} {c : Code} {G : GT} {A : Nat → Prop} {ad : Nat → Nat} (C : CX G A RX1 cX1_readAction 1 p s m args c) (hr : meth.sig.returnType = (some .boolean)) (hk : meth.locks = false) {b : MS} {rr : Int32 × KS} (c20 : KS → Option (Int32 × KS)) (K20 : ∀ (a : KS), c20 a = some rr → J p l e (RM 4) s m args below meth c G A 1 (MQ below (QV (some (.int rr.1)) (PosW G ad rr.2 b A) A) args s 0 0 A) 0 0 ad a b 20 [(0, .ref (ad 16))] []) (a : KS) (hf : f_X1_readAction_20 c20 a = some rr) : J p l e (RM 4) s m args below meth c G A 1 (MQ below (QV (some (.int rr.1)) (PosW G ad rr.2 b A) A) args s 0 0 A) 0 0 ad a b 20 [(0, .ref (ad 16))] [] := by
  unfold f_X1_readAction_20 at hf
  refine j_aload_n C 0 rfl dX1_readAction_20 ?_
  refine j_get (q := 16) (kf := 3) (T := TX1) (N := 4) (RC := RX1) C m_16 ce_16 rfl in_X1 (by decide) (fun _ h9 => h9) fl_X1_45 rfl dX1_readAction_21 ?_
  refine j_aload_n C 0 rfl dX1_readAction_24 ?_
  refine j_get (q := 16) (kf := 2) (T := TX1) (N := 4) (RC := RX1) C m_16 ce_16 rfl in_X1 (by decide) (fun _ h9 => h9) fl_X1_22 rfl dX1_readAction_25 ?_
  refine j_icmp_ge C 73 dX1_readAction_28 (by decide) hf (fun y1 hf => ?_) (fun y1 hf => ?_)
  · refine j_sub [0] rfl ?_
    exact w_X1_readAction_73 C hr hk a hf
  · refine j_aload_n C 0 rfl dX1_readAction_31 ?_
    refine j_aload_n C 0 rfl dX1_readAction_32 ?_
    refine j_get (q := 16) (kf := 3) (T := TX1) (N := 4) (RC := RX1) C m_16 ce_16 rfl in_X1 (by decide) (fun _ h9 => h9) fl_X1_45 rfl dX1_readAction_33 ?_
    obtain ⟨z2, h3, hf⟩ := bnd_some hf
    refine j_callV (q := 16) (As := [.int (Khi a 16 3)]) (rest := []) C (k_X1_signAt h3) cw_X1_signAt ml_X1_29 m_16 ce_16 rfl rfl ⟨Nat.le_of_ble_eq_true rfl, Nat.le_of_ble_eq_true rfl⟩ ⟨Nat.le_of_ble_eq_true rfl, Nat.le_of_ble_eq_true rfl⟩ rfl (Nat.le_of_ble_eq_true rfl) dX1_readAction_36 ?_
    refine j_bipush (v := 44) C (by decide) dX1_readAction_39 ?_
    refine j_icmp_eq C 73 dX1_readAction_41 (by decide) hf (fun y5 hf => ?_) (fun y5 hf => ?_)
    · refine j_sub [0] rfl ?_
      exact w_X1_readAction_73 C hr hk a hf
    · refine j_aload_n C 0 rfl dX1_readAction_44 ?_
      refine j_get (q := 16) (kf := 1) (T := TX1) (N := 4) (RC := RX1) C m_16 ce_16 rfl in_X1 (by decide) (fun _ h9 => h9) fl_X1_18 rfl dX1_readAction_45 ?_
      refine j_aload_n C 0 rfl dX1_readAction_48 ?_
      refine j_aload_n C 0 rfl dX1_readAction_49 ?_
      refine j_get (q := 16) (kf := 3) (T := TX1) (N := 4) (RC := RX1) C m_16 ce_16 rfl in_X1 (by decide) (fun _ h9 => h9) fl_X1_45 rfl dX1_readAction_50 ?_
      obtain ⟨z6, h7, hf⟩ := bnd_some hf
      refine j_callV (q := 16) (As := [.int (Khi a 16 3)]) (rest := [.ref (ad 18)]) C (k_X1_signAt h7) cw_X1_signAt ml_X1_29 m_16 ce_16 rfl rfl ⟨Nat.le_of_ble_eq_true rfl, Nat.le_of_ble_eq_true rfl⟩ ⟨Nat.le_of_ble_eq_true rfl, Nat.le_of_ble_eq_true rfl⟩ rfl (Nat.le_of_ble_eq_true rfl) dX1_readAction_53 ?_
      obtain ⟨z9, h10, hf⟩ := bnd_some hf
      refine j_callV (q := 18) (As := [.int z6]) (rest := []) C (k_X0_takes h10) cw_X0_takes ml_X1_33 m_18 ce_18 rfl rfl ⟨Nat.le_of_ble_eq_true rfl, Nat.le_of_ble_eq_true rfl⟩ ⟨Nat.le_of_ble_eq_true rfl, Nat.le_of_ble_eq_true rfl⟩ rfl (Nat.le_of_ble_eq_true rfl) dX1_readAction_56 ?_
      refine j_pop C rfl dX1_readAction_59 ?_
      refine j_aload_n C 0 rfl dX1_readAction_60 ?_
      refine j_dup C rfl dX1_readAction_61 ?_
      refine j_get (q := 16) (kf := 3) (T := TX1) (N := 4) (RC := RX1) C m_16 ce_16 rfl in_X1 (by decide) (fun _ h9 => h9) fl_X1_45 rfl dX1_readAction_62 ?_
      refine j_iconst (v := 1) C (by decide) dX1_readAction_65 ?_
      refine j_iadd C dX1_readAction_66 ?_
      refine put_X1_3 C fl_X1_45 rfl rfl dX1_readAction_67 ?_
      refine j_goto C 20 dX1_readAction_70 (by decide) ?_
      refine j_sub [0] rfl ?_
      exact K20 (sKhi z9.2 16 3 ((Khi z9.2 16 3) + 1)) hf
theorem wl_X1_readAction_20 {p : Program} {l : Launch} {e : Env} {s : State} {m : MethodId} {args : Array Value} {below : List Frame} {meth : Method} {c : Code} {G : GT} {A : Nat → Prop} {ad : Nat → Nat} (C : CX G A RX1 cX1_readAction 1 p s m args c) (hr : meth.sig.returnType = (some .boolean)) (hk : meth.locks = false) {b : MS} {rr : Int32 × KS} (fuel : Nat)   : ∀ (a : KS), l_X1_readAction_20 fuel  a = some rr → J p l e (RM 4) s m args below meth c G A 1 (MQ below (QV (some (.int rr.1)) (PosW G ad rr.2 b A) A) args s 0 0 A) 0 0 ad a b 20 [(0, .ref (ad 16))] [] := by
  induction fuel with
  | zero => intro a hf; cases hf
  | succ n ih =>
    intro a hf
    have hf : f_X1_readAction_20 (l_X1_readAction_20 n ) a = some rr := hf
    exact w_X1_readAction_20 C hr hk (l_X1_readAction_20 n ) ih a hf
set_option maxRecDepth 100000 in
set_option maxHeartbeats 4000000 in
theorem k_X1_readAction {l : Launch} {G : GT} {ad : Nat → Nat} {a : KS} {b : MS} {rr : Int32 × KS} (hf : f_X1_readAction a = some rr) : MT l G yX1_readAction cX1_readAction 1 (some .boolean) (RM 4) [.ref (ad 16)] ad a b (some (.int rr.1)) rr.2 b := by
  refine MT_of (by decide) (Nat.le_of_ble_eq_true rfl) ?_
  intro p e s m args below meth c A C hr hk
  unfold f_X1_readAction at hf
  refine j_aload_n C 0 rfl dX1_readAction_0 ?_
  refine j_get (q := 16) (kf := 3) (T := TX1) (N := 4) (RC := RX1) C m_16 ce_16 rfl in_X1 (by decide) (fun _ h9 => h9) fl_X1_45 rfl dX1_readAction_1 ?_
  refine j_aload_n C 0 rfl dX1_readAction_4 ?_
  refine j_get (q := 16) (kf := 2) (T := TX1) (N := 4) (RC := RX1) C m_16 ce_16 rfl in_X1 (by decide) (fun _ h9 => h9) fl_X1_22 rfl dX1_readAction_5 ?_
  refine j_icmp_lt C 13 dX1_readAction_8 (by decide) hf (fun y1 hf => ?_) (fun y1 hf => ?_)
  · refine j_aload_n C 0 rfl dX1_readAction_13 ?_
    refine j_get (q := 16) (kf := 1) (T := TX1) (N := 4) (RC := RX1) C m_16 ce_16 rfl in_X1 (by decide) (fun _ h9 => h9) fl_X1_18 rfl dX1_readAction_14 ?_
    obtain ⟨z2, h3, hf⟩ := bnd_some hf
    refine j_callV (q := 18) (As := []) (rest := []) C (k_X0_begin h3) cw_X0_begin ml_X1_26 m_18 ce_18 rfl rfl ⟨Nat.le_of_ble_eq_true rfl, Nat.le_of_ble_eq_true rfl⟩ ⟨Nat.le_of_ble_eq_true rfl, Nat.le_of_ble_eq_true rfl⟩ rfl (Nat.le_of_ble_eq_true rfl) dX1_readAction_17 ?_
    refine j_sub [0] rfl ?_
    exact wl_X1_readAction_20 C hr hk FU z2 hf
  · refine j_iconst (v := 0) C (by decide) dX1_readAction_11 ?_
    obtain rfl := Option.some.inj hf
    exact j_zret C hr hk (by decide) ⟨Nat.le_of_ble_eq_true rfl, Nat.le_of_ble_eq_true rfl⟩ rfl dX1_readAction_12
set_option maxRecDepth 100000 in
set_option maxHeartbeats 4000000 in
theorem k_X1_verb {l : Launch} {G : GT} {ad : Nat → Nat} {a : KS} {b : MS} {rr : Int32} (hf : f_X1_verb a = some rr) : MT l G yX1_verb cX1_verb 1 (some .char) (RM 0) [.ref (ad 16)] ad a b (some (.int rr)) a b := by
  refine MT_of (by decide) (Nat.le_of_ble_eq_true rfl) ?_
  intro p e s m args below meth c A C hr hk
  unfold f_X1_verb at hf
  refine j_aload_n C 0 rfl dX1_verb_0 ?_
  refine j_get (q := 16) (kf := 1) (T := TX1) (N := 4) (RC := RX1) C m_16 ce_16 rfl in_X1 (by decide) (fun _ h9 => h9) fl_X1_18 rfl dX1_verb_1 ?_
  refine j_get (q := 18) (kf := 0) (T := TX0) (N := 2) (RC := RX0) C m_18 ce_18 rfl in_X0 (by decide) (fun _ h9 => h9) fl_X1_48 rfl dX1_verb_4 ?_
  obtain ⟨h1, hf⟩ := gd_some hf
  obtain rfl := Option.some.inj hf
  exact j_zret C hr hk (okc_n h1) ⟨Nat.le_of_ble_eq_true rfl, Nat.le_of_ble_eq_true rfl⟩ rfl dX1_verb_7
set_option maxRecDepth 100000 in
set_option maxHeartbeats 4000000 in
theorem k_X1_amount {l : Launch} {G : GT} {ad : Nat → Nat} {a : KS} {b : MS} {rr : Int32} (hf : f_X1_amount a = some rr) : MT l G yX1_amount cX1_amount 1 (some .int) (RM 0) [.ref (ad 16)] ad a b (some (.int rr)) a b := by
  refine MT_of (by decide) (Nat.le_of_ble_eq_true rfl) ?_
  intro p e s m args below meth c A C hr hk
  unfold f_X1_amount at hf
  refine j_aload_n C 0 rfl dX1_amount_0 ?_
  refine j_get (q := 16) (kf := 1) (T := TX1) (N := 4) (RC := RX1) C m_16 ce_16 rfl in_X1 (by decide) (fun _ h9 => h9) fl_X1_18 rfl dX1_amount_1 ?_
  refine j_get (q := 18) (kf := 1) (T := TX0) (N := 2) (RC := RX0) C m_18 ce_18 rfl in_X0 (by decide) (fun _ h9 => h9) fl_X1_52 rfl dX1_amount_4 ?_
  obtain rfl := Option.some.inj hf
  exact j_iret C hr hk ⟨Nat.le_of_ble_eq_true rfl, Nat.le_of_ble_eq_true rfl⟩ rfl dX1_amount_7
