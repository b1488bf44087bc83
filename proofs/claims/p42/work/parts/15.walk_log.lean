set_option maxRecDepth 100000 in
set_option maxHeartbeats 4000000 in
theorem k_X3_removeLatest {l : Launch} {G : GT} {ad : Nat → Nat} {a : KS} {b : MS} {rr : KS} (hf : f_X3_removeLatest a = some rr) : MT l G yX3_removeLatest cX3_removeLatest 1 none (RM 0) [.ref (ad 3)] ad a b (none) rr b := by
  refine MT_of (by decide) (Nat.le_of_ble_eq_true rfl) ?_
  intro p e s m args below meth c A C hr hk
  unfold f_X3_removeLatest at hf
  refine j_aload_n C 0 rfl dX3_removeLatest_0 ?_
  refine j_get (q := 3) (kf := 2) (T := TX3) (N := 3) (RC := RX3) C m_3 ce_3 rfl in_X3 (by decide) (fun _ h9 => h9) fl_X3_21 rfl dX3_removeLatest_1 ?_
  refine j_if_le C 17 dX3_removeLatest_4 (by decide) hf (fun y1 hf => ?_) (fun y1 hf => ?_)
  · obtain rfl := Option.some.inj hf
    exact j_vret C hr hk ⟨Nat.le_of_ble_eq_true rfl, Nat.le_of_ble_eq_true rfl⟩ rfl dX3_removeLatest_17
  · refine j_aload_n C 0 rfl dX3_removeLatest_7 ?_
    refine j_dup C rfl dX3_removeLatest_8 ?_
    refine j_get (q := 3) (kf := 2) (T := TX3) (N := 3) (RC := RX3) C m_3 ce_3 rfl in_X3 (by decide) (fun _ h9 => h9) fl_X3_21 rfl dX3_removeLatest_9 ?_
    refine j_iconst (v := 1) C (by decide) dX3_removeLatest_12 ?_
    refine j_isub C dX3_removeLatest_13 ?_
    refine put_X3_2 C fl_X3_21 rfl rfl dX3_removeLatest_14 ?_
    obtain rfl := Option.some.inj hf
    exact j_vret C hr hk ⟨Nat.le_of_ble_eq_true rfl, Nat.le_of_ble_eq_true rfl⟩ rfl dX3_removeLatest_17
set_option maxRecDepth 100000 in
set_option maxHeartbeats 4000000 in
theorem w_X3_removeOldest_54 {b : MS} {p : Program} {l : Launch} {e : Env} {s : State} {m : MethodId} {args : Array Value} {below : List Frame} {meth : Method} {c : Code} {G : GT} {A : Nat → Prop} {ad : Nat → Nat} (C : CX G A RX3 cX3_removeOldest 2 p s m args c) (hr : meth.sig.returnType = none) (hk : meth.locks = false) {rr : KS}   (a : KS) (hf : f_X3_removeOldest_54 a = some rr) : J p l e (RM 1) s m args below meth c G A 2 (MQ below (QV (none) (PosW G ad rr b A) A) args s 0 0 A) 0 0 ad a b 54 [(0, .ref (ad 3))] [] := by
  unfold f_X3_removeOldest_54 at hf
  refine j_aload_n C 0 rfl dX3_removeOldest_54 ?_
  obtain ⟨z1, h2, hf⟩ := bnd_some hf
  refine j_callV (q := 3) (As := []) (rest := []) C (k_X3_removeLatest h2) cw_X3_removeLatest ml_X3_28 m_3 ce_3 rfl rfl ⟨Nat.le_of_ble_eq_true rfl, Nat.le_of_ble_eq_true rfl⟩ ⟨Nat.le_of_ble_eq_true rfl, Nat.le_of_ble_eq_true rfl⟩ rfl (Nat.le_of_ble_eq_true rfl) dX3_removeOldest_55 ?_
  obtain rfl := Option.some.inj hf
  exact j_vret C hr hk ⟨Nat.le_of_ble_eq_true rfl, Nat.le_of_ble_eq_true rfl⟩ rfl dX3_removeOldest_58
set_option maxRecDepth 100000 in
set_option maxHeartbeats 4000000 in
theorem w_X3_removeOldest_2 {b : MS} {p : Program} {l : Launch} {e : Env} {s : State} {m : MethodId} {args : Array Value} {below : List Frame} {meth : Method} {c : Code} {G : GT} {A : Nat → Prop} {ad : Nat → Nat} (C : CX G A RX3 cX3_removeOldest 2 p s m args c) (hr : meth.sig.returnType = none) (hk : meth.locks = false) {rr : KS} (c2 : KS → Int32 → Option KS) (K2 : ∀ (a : KS) (v1 : Int32), c2 a v1 = some rr → J p l e (RM 1) s m args below meth c G A 2 (MQ below (QV (none) (PosW G ad rr b A) A) args s 0 0 A) 0 0 ad a b 2 [(0, .ref (ad 3)), (1, .int v1)] []) (a : KS) (v1 : Int32) (hf : f_X3_removeOldest_2 c2 a v1 = some rr) : J p l e (RM 1) s m args below meth c G A 2 (MQ below (QV (none) (PosW G ad rr b A) A) args s 0 0 A) 0 0 ad a b 2 [(0, .ref (ad 3)), (1, .int v1)] [] := by
  unfold f_X3_removeOldest_2 at hf
  refine j_iload_n C 1 rfl dX3_removeOldest_2 ?_
  refine j_aload_n C 0 rfl dX3_removeOldest_3 ?_
  refine j_get (q := 3) (kf := 0) (T := TX3) (N := 3) (RC := RX3) C m_3 ce_3 rfl in_X3 (by decide) (fun _ h9 => h9) fl_X3_11 rfl dX3_removeOldest_4 ?_
  refine j_alen (q := 4) (t0 := 4) (v := 8) C m_4 ce_4 rfl rfl dX3_removeOldest_7 ?_
  refine j_icmp_ge C 54 dX3_removeOldest_8 (by decide) hf (fun y1 hf => ?_) (fun y1 hf => ?_)
  · refine j_sub [0] rfl ?_
    exact w_X3_removeOldest_54 C hr hk a hf
  · refine j_iload_n C 1 rfl dX3_removeOldest_11 ?_
    refine j_aload_n C 0 rfl dX3_removeOldest_12 ?_
    refine j_get (q := 3) (kf := 1) (T := TX3) (N := 3) (RC := RX3) C m_3 ce_3 rfl in_X3 (by decide) (fun _ h9 => h9) fl_X3_17 rfl dX3_removeOldest_13 ?_
    refine j_alen (q := 5) (t0 := 0) (v := 8) C m_5 ce_5 rfl rfl dX3_removeOldest_16 ?_
    refine j_icmp_ge C 54 dX3_removeOldest_17 (by decide) hf (fun y2 hf => ?_) (fun y2 hf => ?_)
    · refine j_sub [0] rfl ?_
      exact w_X3_removeOldest_54 C hr hk a hf
    · refine j_aload_n C 0 rfl dX3_removeOldest_20 ?_
      refine j_get (q := 3) (kf := 0) (T := TX3) (N := 3) (RC := RX3) C m_3 ce_3 rfl in_X3 (by decide) (fun _ h9 => h9) fl_X3_11 rfl dX3_removeOldest_21 ?_
      refine j_iload_n C 1 rfl dX3_removeOldest_24 ?_
      refine j_iconst (v := 1) C (by decide) dX3_removeOldest_25 ?_
      refine j_isub C dX3_removeOldest_26 ?_
      refine j_aload_n C 0 rfl dX3_removeOldest_27 ?_
      refine j_get (q := 3) (kf := 0) (T := TX3) (N := 3) (RC := RX3) C m_3 ce_3 rfl in_X3 (by decide) (fun _ h9 => h9) fl_X3_11 rfl dX3_removeOldest_28 ?_
      refine j_iload_n C 1 rfl dX3_removeOldest_31 ?_
      refine j_aald (q := 4) C m_4 ce_4 hf dX3_removeOldest_32 (fun hf => ?_)
      refine j_letO hf (fun o3 hf => ?_)
      obtain ⟨i4, e6, h5, hg⟩ := odr_some hf
      clear hf
      subst e6
      have hf := hg
      clear hg
      refine ast_4 C h5 hf dX3_removeOldest_33 (fun hf => ?_)
      refine j_aload_n C 0 rfl dX3_removeOldest_34 ?_
      refine j_get (q := 3) (kf := 1) (T := TX3) (N := 3) (RC := RX3) C m_3 ce_3 rfl in_X3 (by decide) (fun _ h9 => h9) fl_X3_17 rfl dX3_removeOldest_35 ?_
      refine j_iload_n C 1 rfl dX3_removeOldest_38 ?_
      refine j_iconst (v := 1) C (by decide) dX3_removeOldest_39 ?_
      refine j_isub C dX3_removeOldest_40 ?_
      refine j_aload_n C 0 rfl dX3_removeOldest_41 ?_
      refine j_get (q := 3) (kf := 1) (T := TX3) (N := 3) (RC := RX3) C m_3 ce_3 rfl in_X3 (by decide) (fun _ h9 => h9) fl_X3_17 rfl dX3_removeOldest_42 ?_
      refine j_iload_n C 1 rfl dX3_removeOldest_45 ?_
      refine j_iald (q := 5) C m_5 ce_5 hf dX3_removeOldest_46 (fun hf => ?_)
      refine ast_5 C hf dX3_removeOldest_47 (fun hf => ?_)
      refine j_iinc (v := v1 + 1) (lv' := [(1, .int (v1 + 1)), (0, .ref (ad 3))]) C 1 rfl rfl (by decide) rfl dX3_removeOldest_48 ?_
      refine j_goto C 2 dX3_removeOldest_51 (by decide) ?_
      refine j_sub [1, 0] rfl ?_
      exact K2 (sKhi (sKlg a ((v1 - 1).toNatClampNeg) (some i4)) 5 ((v1 - 1).toNatClampNeg) (Khi (sKlg a ((v1 - 1).toNatClampNeg) (some i4)) 5 (v1.toNatClampNeg))) (v1 + 1) hf
theorem wl_X3_removeOldest_2 {b : MS} {p : Program} {l : Launch} {e : Env} {s : State} {m : MethodId} {args : Array Value} {below : List Frame} {meth : Method} {c : Code} {G : GT} {A : Nat → Prop} {ad : Nat → Nat} (C : CX G A RX3 cX3_removeOldest 2 p s m args c) (hr : meth.sig.returnType = none) (hk : meth.locks = false) {rr : KS} (fuel : Nat)   : ∀ (a : KS) (v1 : Int32), l_X3_removeOldest_2 fuel  a v1 = some rr → J p l e (RM 1) s m args below meth c G A 2 (MQ below (QV (none) (PosW G ad rr b A) A) args s 0 0 A) 0 0 ad a b 2 [(0, .ref (ad 3)), (1, .int v1)] [] := by
  induction fuel with
  | zero => intro a v1 hf; cases hf
  | succ n ih =>
    intro a v1 hf
    have hf : f_X3_removeOldest_2 (l_X3_removeOldest_2 n ) a v1 = some rr := hf
    exact w_X3_removeOldest_2 C hr hk (l_X3_removeOldest_2 n ) ih a v1 hf
set_option maxRecDepth 100000 in
set_option maxHeartbeats 4000000 in
theorem k_X3_removeOldest {l : Launch} {G : GT} {ad : Nat → Nat} {a : KS} {b : MS} {rr : KS} (hf : f_X3_removeOldest a = some rr) : MT l G yX3_removeOldest cX3_removeOldest 2 none (RM 1) [.ref (ad 3)] ad a b (none) rr b := by
  refine MT_of (by decide) (Nat.le_of_ble_eq_true rfl) ?_
  intro p e s m args below meth c A C hr hk
  unfold f_X3_removeOldest at hf
  refine j_iconst (v := 1) C (by decide) dX3_removeOldest_0 ?_
  refine j_istore_n (i := 1) (lv' := [(1, .int 1), (0, .ref (ad 3))]) C dX3_removeOldest_1 rfl (by decide) rfl ?_
  refine j_sub [1, 0] rfl ?_
  exact wl_X3_removeOldest_2 C hr hk FU a 1 hf
set_option maxRecDepth 100000 in
set_option maxHeartbeats 4000000 in
theorem w_X3_keep_13 {b : MS} {p : Program} {l : Launch} {e : Env} {s : State} {m : MethodId} {args : Array Value} {below : List Frame} {meth : Method} {c : Code} {G : GT} {A : Nat → Prop} {ad : Nat → Nat} (C : CX G A RX3 cX3_keep 3 p s m args c) (hr : meth.sig.returnType = none) (hk : meth.locks = false) {rr : KS}   (a : KS) (v1 : Option Nat) (v2 : Int32) (hf : f_X3_keep_13 a v1 v2 = some rr) : J p l e (RM 2) s m args below meth c G A 3 (MQ below (QV (none) (PosW G ad rr b A) A) args s 0 0 A) 0 0 ad a b 13 [(0, .ref (ad 3)), (1, itv ad v1), (2, .int v2)] [] := by
  unfold f_X3_keep_13 at hf
  refine j_aload_n C 0 rfl dX3_keep_13 ?_
  refine j_get (q := 3) (kf := 2) (T := TX3) (N := 3) (RC := RX3) C m_3 ce_3 rfl in_X3 (by decide) (fun _ h9 => h9) fl_X3_21 rfl dX3_keep_14 ?_
  refine j_if_lt C 74 dX3_keep_17 (by decide) hf (fun y1 hf => ?_) (fun y1 hf => ?_)
  · obtain rfl := Option.some.inj hf
    exact j_vret C hr hk ⟨Nat.le_of_ble_eq_true rfl, Nat.le_of_ble_eq_true rfl⟩ rfl dX3_keep_74
  · refine j_aload_n C 0 rfl dX3_keep_20 ?_
    refine j_get (q := 3) (kf := 2) (T := TX3) (N := 3) (RC := RX3) C m_3 ce_3 rfl in_X3 (by decide) (fun _ h9 => h9) fl_X3_21 rfl dX3_keep_21 ?_
    refine j_aload_n C 0 rfl dX3_keep_24 ?_
    refine j_get (q := 3) (kf := 0) (T := TX3) (N := 3) (RC := RX3) C m_3 ce_3 rfl in_X3 (by decide) (fun _ h9 => h9) fl_X3_11 rfl dX3_keep_25 ?_
    refine j_alen (q := 4) (t0 := 4) (v := 8) C m_4 ce_4 rfl rfl dX3_keep_28 ?_
    refine j_icmp_ge C 74 dX3_keep_29 (by decide) hf (fun y2 hf => ?_) (fun y2 hf => ?_)
    · obtain rfl := Option.some.inj hf
      exact j_vret C hr hk ⟨Nat.le_of_ble_eq_true rfl, Nat.le_of_ble_eq_true rfl⟩ rfl dX3_keep_74
    · refine j_aload_n C 0 rfl dX3_keep_32 ?_
      refine j_get (q := 3) (kf := 2) (T := TX3) (N := 3) (RC := RX3) C m_3 ce_3 rfl in_X3 (by decide) (fun _ h9 => h9) fl_X3_21 rfl dX3_keep_33 ?_
      refine j_aload_n C 0 rfl dX3_keep_36 ?_
      refine j_get (q := 3) (kf := 1) (T := TX3) (N := 3) (RC := RX3) C m_3 ce_3 rfl in_X3 (by decide) (fun _ h9 => h9) fl_X3_17 rfl dX3_keep_37 ?_
      refine j_alen (q := 5) (t0 := 0) (v := 8) C m_5 ce_5 rfl rfl dX3_keep_40 ?_
      refine j_icmp_ge C 74 dX3_keep_41 (by decide) hf (fun y3 hf => ?_) (fun y3 hf => ?_)
      · obtain rfl := Option.some.inj hf
        exact j_vret C hr hk ⟨Nat.le_of_ble_eq_true rfl, Nat.le_of_ble_eq_true rfl⟩ rfl dX3_keep_74
      · refine j_aload_n C 0 rfl dX3_keep_44 ?_
        refine j_get (q := 3) (kf := 0) (T := TX3) (N := 3) (RC := RX3) C m_3 ce_3 rfl in_X3 (by decide) (fun _ h9 => h9) fl_X3_11 rfl dX3_keep_45 ?_
        refine j_aload_n C 0 rfl dX3_keep_48 ?_
        refine j_get (q := 3) (kf := 2) (T := TX3) (N := 3) (RC := RX3) C m_3 ce_3 rfl in_X3 (by decide) (fun _ h9 => h9) fl_X3_21 rfl dX3_keep_49 ?_
        refine j_aload_nq C 1 rfl dX3_keep_52 ?_
        obtain ⟨i4, e6, h5, hg⟩ := odr_some hf
        clear hf
        subst e6
        have hf := hg
        clear hg
        refine ast_4 C h5 hf dX3_keep_53 (fun hf => ?_)
        refine j_aload_n C 0 rfl dX3_keep_54 ?_
        refine j_get (q := 3) (kf := 1) (T := TX3) (N := 3) (RC := RX3) C m_3 ce_3 rfl in_X3 (by decide) (fun _ h9 => h9) fl_X3_17 rfl dX3_keep_55 ?_
        refine j_aload_n C 0 rfl dX3_keep_58 ?_
        refine j_get (q := 3) (kf := 2) (T := TX3) (N := 3) (RC := RX3) C m_3 ce_3 rfl in_X3 (by decide) (fun _ h9 => h9) fl_X3_21 rfl dX3_keep_59 ?_
        refine j_iload_n C 2 rfl dX3_keep_62 ?_
        refine ast_5 C hf dX3_keep_63 (fun hf => ?_)
        refine j_aload_n C 0 rfl dX3_keep_64 ?_
        refine j_dup C rfl dX3_keep_65 ?_
        refine j_get (q := 3) (kf := 2) (T := TX3) (N := 3) (RC := RX3) C m_3 ce_3 rfl in_X3 (by decide) (fun _ h9 => h9) fl_X3_21 rfl dX3_keep_66 ?_
        refine j_iconst (v := 1) C (by decide) dX3_keep_69 ?_
        refine j_iadd C dX3_keep_70 ?_
        refine put_X3_2 C fl_X3_21 rfl rfl dX3_keep_71 ?_
        obtain rfl := Option.some.inj hf
        exact j_vret C hr hk ⟨Nat.le_of_ble_eq_true rfl, Nat.le_of_ble_eq_true rfl⟩ rfl dX3_keep_74
set_option maxRecDepth 100000 in
set_option maxHeartbeats 4000000 in
theorem k_X3_keep {l : Launch} {G : GT} {ad : Nat → Nat} {a : KS} {v1 : Option Nat} {v2 : Int32} {b : MS} {rr : KS} (hf : f_X3_keep a v1 v2 = some rr) : MT l G yX3_keep cX3_keep 3 none (RM 2) [.ref (ad 3), itv ad v1, .int v2] ad a b (none) rr b := by
  refine MT_of2 (lv := [(0, .ref (ad 3)), (1, itv ad v1), (2, .int v2)]) (by decide) (by simp only [lg_sl, List.flatMap_cons, List.flatMap_nil, itv_cat]; exact Nat.le_of_ble_eq_true rfl) (by simp only [lv_args, itv_cat] <;> rfl) ?_
  intro p e s m args below meth c A C hr hk
  unfold f_X3_keep at hf
  refine j_aload_n C 0 rfl dX3_keep_0 ?_
  refine j_get (q := 3) (kf := 2) (T := TX3) (N := 3) (RC := RX3) C m_3 ce_3 rfl in_X3 (by decide) (fun _ h9 => h9) fl_X3_21 rfl dX3_keep_1 ?_
  refine j_bipush (v := 8) C (by decide) dX3_keep_4 ?_
  refine j_icmp_lt C 13 dX3_keep_6 (by decide) hf (fun y1 hf => ?_) (fun y1 hf => ?_)
  · refine j_sub [0, 1, 2] rfl ?_
    exact w_X3_keep_13 C hr hk a v1 v2 hf
  · refine j_aload_n C 0 rfl dX3_keep_9 ?_
    obtain ⟨z2, h3, hf⟩ := bnd_some hf
    refine j_callV (q := 3) (As := []) (rest := []) C (k_X3_removeOldest h3) cw_X3_removeOldest ml_X3_25 m_3 ce_3 rfl rfl ⟨Nat.le_of_ble_eq_true rfl, Nat.le_of_ble_eq_true rfl⟩ ⟨Nat.le_of_ble_eq_true rfl, Nat.le_of_ble_eq_true rfl⟩ rfl (Nat.le_of_ble_eq_true rfl) dX3_keep_10 ?_
    refine j_sub [0, 1, 2] rfl ?_
    exact w_X3_keep_13 C hr hk z2 v1 v2 hf
set_option maxRecDepth 100000 in
set_option maxHeartbeats 4000000 in
theorem k_X3_latestItem {l : Launch} {G : GT} {ad : Nat → Nat} {a : KS} {b : MS} {rr : Option Nat} (hf : f_X3_latestItem a = some rr) : MT l G yX3_latestItem cX3_latestItem 1 (some (.object "KnobMenu$Item")) (RM 0) [.ref (ad 3)] ad a b (some (itv ad rr)) a b := by
  refine MT_of (by decide) (Nat.le_of_ble_eq_true rfl) ?_
  intro p e s m args below meth c A C hr hk
  unfold f_X3_latestItem at hf
  refine j_aload_n C 0 rfl dX3_latestItem_0 ?_
  refine j_get (q := 3) (kf := 2) (T := TX3) (N := 3) (RC := RX3) C m_3 ce_3 rfl in_X3 (by decide) (fun _ h9 => h9) fl_X3_21 rfl dX3_latestItem_1 ?_
  refine j_if_le C 33 dX3_latestItem_4 (by decide) hf (fun y1 hf => ?_) (fun y1 hf => ?_)
  · refine j_null C dX3_latestItem_33 ?_
    obtain rfl := Option.some.inj hf
    exact j_aret C hr hk (Or.inl ⟨_, rfl⟩) (itv_nr (ad := ad) none) ⟨Nat.le_of_ble_eq_true rfl, Nat.le_of_ble_eq_true rfl⟩ rfl dX3_latestItem_34
  · refine j_aload_n C 0 rfl dX3_latestItem_7 ?_
    refine j_get (q := 3) (kf := 2) (T := TX3) (N := 3) (RC := RX3) C m_3 ce_3 rfl in_X3 (by decide) (fun _ h9 => h9) fl_X3_21 rfl dX3_latestItem_8 ?_
    refine j_aload_n C 0 rfl dX3_latestItem_11 ?_
    refine j_get (q := 3) (kf := 0) (T := TX3) (N := 3) (RC := RX3) C m_3 ce_3 rfl in_X3 (by decide) (fun _ h9 => h9) fl_X3_11 rfl dX3_latestItem_12 ?_
    refine j_alen (q := 4) (t0 := 4) (v := 8) C m_4 ce_4 rfl rfl dX3_latestItem_15 ?_
    refine j_icmp_gt C 33 dX3_latestItem_16 (by decide) hf (fun y2 hf => ?_) (fun y2 hf => ?_)
    · refine j_null C dX3_latestItem_33 ?_
      obtain rfl := Option.some.inj hf
      exact j_aret C hr hk (Or.inl ⟨_, rfl⟩) (itv_nr (ad := ad) none) ⟨Nat.le_of_ble_eq_true rfl, Nat.le_of_ble_eq_true rfl⟩ rfl dX3_latestItem_34
    · refine j_aload_n C 0 rfl dX3_latestItem_19 ?_
      refine j_get (q := 3) (kf := 0) (T := TX3) (N := 3) (RC := RX3) C m_3 ce_3 rfl in_X3 (by decide) (fun _ h9 => h9) fl_X3_11 rfl dX3_latestItem_20 ?_
      refine j_aload_n C 0 rfl dX3_latestItem_23 ?_
      refine j_get (q := 3) (kf := 2) (T := TX3) (N := 3) (RC := RX3) C m_3 ce_3 rfl in_X3 (by decide) (fun _ h9 => h9) fl_X3_21 rfl dX3_latestItem_24 ?_
      refine j_iconst (v := 1) C (by decide) dX3_latestItem_27 ?_
      refine j_isub C dX3_latestItem_28 ?_
      refine j_aald (q := 4) C m_4 ce_4 hf dX3_latestItem_29 (fun hf => ?_)
      refine j_letO hf (fun o3 hf => ?_)
      refine j_goto C 34 dX3_latestItem_30 (by decide) ?_
      obtain rfl := Option.some.inj hf
      exact j_aret C hr hk (Or.inl ⟨_, rfl⟩) (itv_nr (ad := ad) o3) ⟨Nat.le_of_ble_eq_true rfl, Nat.le_of_ble_eq_true rfl⟩ rfl dX3_latestItem_34
set_option maxRecDepth 100000 in
set_option maxHeartbeats 4000000 in
theorem k_X3_latestValue {l : Launch} {G : GT} {ad : Nat → Nat} {a : KS} {b : MS} {rr : Int32} (hf : f_X3_latestValue a = some rr) : MT l G yX3_latestValue cX3_latestValue 1 (some .int) (RM 0) [.ref (ad 3)] ad a b (some (.int rr)) a b := by
  refine MT_of (by decide) (Nat.le_of_ble_eq_true rfl) ?_
  intro p e s m args below meth c A C hr hk
  unfold f_X3_latestValue at hf
  refine j_aload_n C 0 rfl dX3_latestValue_0 ?_
  refine j_get (q := 3) (kf := 2) (T := TX3) (N := 3) (RC := RX3) C m_3 ce_3 rfl in_X3 (by decide) (fun _ h9 => h9) fl_X3_21 rfl dX3_latestValue_1 ?_
  refine j_if_le C 33 dX3_latestValue_4 (by decide) hf (fun y1 hf => ?_) (fun y1 hf => ?_)
  · refine j_iconst (v := 0) C (by decide) dX3_latestValue_33 ?_
    obtain rfl := Option.some.inj hf
    exact j_iret C hr hk ⟨Nat.le_of_ble_eq_true rfl, Nat.le_of_ble_eq_true rfl⟩ rfl dX3_latestValue_34
  · refine j_aload_n C 0 rfl dX3_latestValue_7 ?_
    refine j_get (q := 3) (kf := 2) (T := TX3) (N := 3) (RC := RX3) C m_3 ce_3 rfl in_X3 (by decide) (fun _ h9 => h9) fl_X3_21 rfl dX3_latestValue_8 ?_
    refine j_aload_n C 0 rfl dX3_latestValue_11 ?_
    refine j_get (q := 3) (kf := 1) (T := TX3) (N := 3) (RC := RX3) C m_3 ce_3 rfl in_X3 (by decide) (fun _ h9 => h9) fl_X3_17 rfl dX3_latestValue_12 ?_
    refine j_alen (q := 5) (t0 := 0) (v := 8) C m_5 ce_5 rfl rfl dX3_latestValue_15 ?_
    refine j_icmp_gt C 33 dX3_latestValue_16 (by decide) hf (fun y2 hf => ?_) (fun y2 hf => ?_)
    · refine j_iconst (v := 0) C (by decide) dX3_latestValue_33 ?_
      obtain rfl := Option.some.inj hf
      exact j_iret C hr hk ⟨Nat.le_of_ble_eq_true rfl, Nat.le_of_ble_eq_true rfl⟩ rfl dX3_latestValue_34
    · refine j_aload_n C 0 rfl dX3_latestValue_19 ?_
      refine j_get (q := 3) (kf := 1) (T := TX3) (N := 3) (RC := RX3) C m_3 ce_3 rfl in_X3 (by decide) (fun _ h9 => h9) fl_X3_17 rfl dX3_latestValue_20 ?_
      refine j_aload_n C 0 rfl dX3_latestValue_23 ?_
      refine j_get (q := 3) (kf := 2) (T := TX3) (N := 3) (RC := RX3) C m_3 ce_3 rfl in_X3 (by decide) (fun _ h9 => h9) fl_X3_21 rfl dX3_latestValue_24 ?_
      refine j_iconst (v := 1) C (by decide) dX3_latestValue_27 ?_
      refine j_isub C dX3_latestValue_28 ?_
      refine j_iald (q := 5) C m_5 ce_5 hf dX3_latestValue_29 (fun hf => ?_)
      refine j_goto C 34 dX3_latestValue_30 (by decide) ?_
      obtain rfl := Option.some.inj hf
      exact j_iret C hr hk ⟨Nat.le_of_ble_eq_true rfl, Nat.le_of_ble_eq_true rfl⟩ rfl dX3_latestValue_34
set_option maxRecDepth 100000 in
set_option maxHeartbeats 4000000 in
theorem k_X3_removeAll {l : Launch} {G : GT} {ad : Nat → Nat} {a : KS} {b : MS} {rr : KS} (hf : f_X3_removeAll a = some rr) : MT l G yX3_removeAll cX3_removeAll 1 none (RM 0) [.ref (ad 3)] ad a b (none) rr b := by
  refine MT_of (by decide) (Nat.le_of_ble_eq_true rfl) ?_
  intro p e s m args below meth c A C hr hk
  unfold f_X3_removeAll at hf
  refine j_aload_n C 0 rfl dX3_removeAll_0 ?_
  refine j_iconst (v := 0) C (by decide) dX3_removeAll_1 ?_
  refine put_X3_2 C fl_X3_21 rfl rfl dX3_removeAll_2 ?_
  obtain rfl := Option.some.inj hf
  exact j_vret C hr hk ⟨Nat.le_of_ble_eq_true rfl, Nat.le_of_ble_eq_true rfl⟩ rfl dX3_removeAll_5
