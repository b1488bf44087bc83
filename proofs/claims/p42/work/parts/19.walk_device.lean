set_option maxRecDepth 100000 in
set_option maxHeartbeats 4000000 in
theorem k_X2_wouldBeHomeBrowsing {l : Launch} {G : GT} {ad : Nat → Nat} {a : KS} {b : MS} {rr : Int32} (hf : f_X2_wouldBeHomeBrowsing a = some rr) : MT l G yX2_wouldBeHomeBrowsing cX2_wouldBeHomeBrowsing 1 (some .boolean) (RM 2) [.ref (ad 10)] ad a b (some (.int rr)) a b := by
  refine MT_of (by decide) (Nat.le_of_ble_eq_true rfl) ?_
  intro p e s m args below meth c A C hr hk
  unfold f_X2_wouldBeHomeBrowsing at hf
  refine j_aload_n C 0 rfl dX2_wouldBeHomeBrowsing_0 ?_
  refine j_get (q := 10) (kf := 5) (T := TX2) (N := 13) (RC := RX2) C m_10 ce_10 rfl in_X2 (by decide) (fun _ h9 => h9) fl_X2_35 rfl dX2_wouldBeHomeBrowsing_1 ?_
  refine j_letO hf (fun o1 hf => ?_)
  refine j_aload_n C 0 rfl dX2_wouldBeHomeBrowsing_4 ?_
  refine j_get (q := 10) (kf := 0) (T := TX2) (N := 13) (RC := RX2) C m_10 ce_10 rfl in_X2 (by decide) (fun _ h9 => h9) fl_X2_21 rfl dX2_wouldBeHomeBrowsing_5 ?_
  refine j_get (q := 1) (kf := 0) (T := TX7) (N := 3) (RC := RX7) C m_1 ce_1 rfl in_X7 (by decide) (fun _ h9 => h9) fl_X2_29 rfl dX2_wouldBeHomeBrowsing_8 ?_
  refine j_acmp_ne (o1 := o1) (o2 := (some 0)) C 35 dX2_wouldBeHomeBrowsing_11 (by decide) hf (fun y2 hf => ?_) (fun y2 hf => ?_)
  · refine j_iconst (v := 0) C (by decide) dX2_wouldBeHomeBrowsing_35 ?_
    obtain rfl := Option.some.inj hf
    exact j_zret C hr hk (by decide) ⟨Nat.le_of_ble_eq_true rfl, Nat.le_of_ble_eq_true rfl⟩ rfl dX2_wouldBeHomeBrowsing_36
  · refine j_aload_n C 0 rfl dX2_wouldBeHomeBrowsing_14 ?_
    refine j_get (q := 10) (kf := 7) (T := TX2) (N := 13) (RC := RX2) C m_10 ce_10 rfl in_X2 (by decide) (fun _ h9 => h9) fl_X2_38 rfl dX2_wouldBeHomeBrowsing_15 ?_
    refine j_if_ne C 35 dX2_wouldBeHomeBrowsing_18 (by decide) hf (fun y3 hf => ?_) (fun y3 hf => ?_)
    · refine j_iconst (v := 0) C (by decide) dX2_wouldBeHomeBrowsing_35 ?_
      obtain rfl := Option.some.inj hf
      exact j_zret C hr hk (by decide) ⟨Nat.le_of_ble_eq_true rfl, Nat.le_of_ble_eq_true rfl⟩ rfl dX2_wouldBeHomeBrowsing_36
    · refine j_aload_n C 0 rfl dX2_wouldBeHomeBrowsing_21 ?_
      refine j_get (q := 10) (kf := 0) (T := TX2) (N := 13) (RC := RX2) C m_10 ce_10 rfl in_X2 (by decide) (fun _ h9 => h9) fl_X2_21 rfl dX2_wouldBeHomeBrowsing_22 ?_
      obtain ⟨z4, h5, hf⟩ := bnd_some hf
      refine j_callV (q := 1) (As := []) (rest := []) C (k_X7_anyOpen h5) cw_X7_anyOpen ml_X2_55 m_1 ce_1 rfl rfl ⟨Nat.le_of_ble_eq_true rfl, Nat.le_of_ble_eq_true rfl⟩ ⟨Nat.le_of_ble_eq_true rfl, Nat.le_of_ble_eq_true rfl⟩ rfl (Nat.le_of_ble_eq_true rfl) dX2_wouldBeHomeBrowsing_25 ?_
      refine j_if_ne C 35 dX2_wouldBeHomeBrowsing_28 (by decide) hf (fun y7 hf => ?_) (fun y7 hf => ?_)
      · refine j_iconst (v := 0) C (by decide) dX2_wouldBeHomeBrowsing_35 ?_
        obtain rfl := Option.some.inj hf
        exact j_zret C hr hk (by decide) ⟨Nat.le_of_ble_eq_true rfl, Nat.le_of_ble_eq_true rfl⟩ rfl dX2_wouldBeHomeBrowsing_36
      · refine j_iconst (v := 1) C (by decide) dX2_wouldBeHomeBrowsing_31 ?_
        refine j_goto C 36 dX2_wouldBeHomeBrowsing_32 (by decide) ?_
        obtain rfl := Option.some.inj hf
        exact j_zret C hr hk (by decide) ⟨Nat.le_of_ble_eq_true rfl, Nat.le_of_ble_eq_true rfl⟩ rfl dX2_wouldBeHomeBrowsing_36
set_option maxRecDepth 100000 in
set_option maxHeartbeats 4000000 in
theorem k_X2_atHome {l : Launch} {G : GT} {ad : Nat → Nat} {a : KS} {b : MS} {rr : Int32} (hf : f_X2_atHome a = some rr) : MT l G yX2_atHome cX2_atHome 1 (some .boolean) (RM 3) [.ref (ad 10)] ad a b (some (.int rr)) a b := by
  refine MT_of (by decide) (Nat.le_of_ble_eq_true rfl) ?_
  intro p e s m args below meth c A C hr hk
  unfold f_X2_atHome at hf
  refine j_aload_n C 0 rfl dX2_atHome_0 ?_
  refine j_get (q := 10) (kf := 6) (T := TX2) (N := 13) (RC := RX2) C m_10 ce_10 rfl in_X2 (by decide) (fun _ h9 => h9) fl_X2_48 rfl dX2_atHome_1 ?_
  refine j_if_ne C 18 dX2_atHome_4 (by decide) hf (fun y1 hf => ?_) (fun y1 hf => ?_)
  · refine j_iconst (v := 0) C (by decide) dX2_atHome_18 ?_
    obtain rfl := Option.some.inj hf
    exact j_zret C hr hk (by decide) ⟨Nat.le_of_ble_eq_true rfl, Nat.le_of_ble_eq_true rfl⟩ rfl dX2_atHome_19
  · refine j_aload_n C 0 rfl dX2_atHome_7 ?_
    obtain ⟨z2, h3, hf⟩ := bnd_some hf
    refine j_callV (q := 10) (As := []) (rest := []) C (k_X2_wouldBeHomeBrowsing h3) cw_X2_wouldBeHomeBrowsing ml_X2_51 m_10 ce_10 rfl rfl ⟨Nat.le_of_ble_eq_true rfl, Nat.le_of_ble_eq_true rfl⟩ ⟨Nat.le_of_ble_eq_true rfl, Nat.le_of_ble_eq_true rfl⟩ rfl (Nat.le_of_ble_eq_true rfl) dX2_atHome_8 ?_
    refine j_if_eq C 18 dX2_atHome_11 (by decide) hf (fun y5 hf => ?_) (fun y5 hf => ?_)
    · refine j_iconst (v := 0) C (by decide) dX2_atHome_18 ?_
      obtain rfl := Option.some.inj hf
      exact j_zret C hr hk (by decide) ⟨Nat.le_of_ble_eq_true rfl, Nat.le_of_ble_eq_true rfl⟩ rfl dX2_atHome_19
    · refine j_iconst (v := 1) C (by decide) dX2_atHome_14 ?_
      refine j_goto C 19 dX2_atHome_15 (by decide) ?_
      obtain rfl := Option.some.inj hf
      exact j_zret C hr hk (by decide) ⟨Nat.le_of_ble_eq_true rfl, Nat.le_of_ble_eq_true rfl⟩ rfl dX2_atHome_19
set_option maxRecDepth 100000 in
set_option maxHeartbeats 4000000 in
theorem k_X2_chosenItem {l : Launch} {G : GT} {ad : Nat → Nat} {a : KS} {b : MS} {rr : Option Nat} (hf : f_X2_chosenItem a = some rr) : MT l G yX2_chosenItem cX2_chosenItem 1 (some (.object "KnobMenu$Item")) (RM 1) [.ref (ad 10)] ad a b (some (itv ad rr)) a b := by
  refine MT_of (by decide) (Nat.le_of_ble_eq_true rfl) ?_
  intro p e s m args below meth c A C hr hk
  unfold f_X2_chosenItem at hf
  refine j_aload_n C 0 rfl dX2_chosenItem_0 ?_
  refine j_get (q := 10) (kf := 5) (T := TX2) (N := 13) (RC := RX2) C m_10 ce_10 rfl in_X2 (by decide) (fun _ h9 => h9) fl_X2_35 rfl dX2_chosenItem_1 ?_
  refine j_letO hf (fun o1 hf => ?_)
  refine j_aload_n C 0 rfl dX2_chosenItem_4 ?_
  refine j_get (q := 10) (kf := 7) (T := TX2) (N := 13) (RC := RX2) C m_10 ce_10 rfl in_X2 (by decide) (fun _ h9 => h9) fl_X2_38 rfl dX2_chosenItem_5 ?_
  obtain ⟨i2, e4, h3, hg⟩ := odr_some hf
  clear hf
  subst e4
  have hf := hg
  clear hg
  obtain ⟨z5, h6, hf⟩ := bnd_some hf
  refine j_callV (q := (ip i2)) (As := [.int (Khi a 10 7)]) (rest := []) C (k_X4_childAt h6) cw_X4_childAt ml_X2_42 (mem_ip h3) ce_item rfl rfl ⟨Nat.le_of_ble_eq_true rfl, Nat.le_of_ble_eq_true rfl⟩ ⟨Nat.le_of_ble_eq_true rfl, Nat.le_of_ble_eq_true rfl⟩ rfl (Nat.le_of_ble_eq_true rfl) dX2_chosenItem_8 ?_
  obtain rfl := Option.some.inj hf
  exact j_aret C hr hk (Or.inl ⟨_, rfl⟩) (itv_nr (ad := ad) z5) ⟨Nat.le_of_ble_eq_true rfl, Nat.le_of_ble_eq_true rfl⟩ rfl dX2_chosenItem_11
set_option maxRecDepth 100000 in
set_option maxHeartbeats 4000000 in
theorem k_X2_around {l : Launch} {G : GT} {ad : Nat → Nat} {a : KS} {v0 : Int32} {v1 : Int32} {b : MS} {rr : Int32} (hf : f_X2_around a v0 v1 = some rr) : MT l G yX2_around cX2_around 2 (some .int) (RM 1) [.int v0, .int v1] ad a b (some (.int rr)) a b := by
  refine MT_of (by decide) (Nat.le_of_ble_eq_true rfl) ?_
  intro p e s m args below meth c A C hr hk
  unfold f_X2_around at hf
  refine j_iload_n C 1 rfl dX2_around_0 ?_
  refine j_if_le C 12 dX2_around_1 (by decide) hf (fun y1 hf => ?_) (fun y1 hf => ?_)
  · refine j_iconst (v := 0) C (by decide) dX2_around_12 ?_
    obtain rfl := Option.some.inj hf
    exact j_iret C hr hk ⟨Nat.le_of_ble_eq_true rfl, Nat.le_of_ble_eq_true rfl⟩ rfl dX2_around_13
  · refine j_iload_n C 0 rfl dX2_around_4 ?_
    refine j_iload_n C 1 rfl dX2_around_5 ?_
    obtain ⟨z2, h3, hf⟩ := bnd_some hf
    refine j_callS (As := [.int v0, .int v1]) (rest := []) C (k_J9_floorMod_7cf53 h3) cw_J9_floorMod_7cf53 ml_X2_125 rfl ⟨Nat.le_of_ble_eq_true rfl, Nat.le_of_ble_eq_true rfl⟩ ⟨Nat.le_of_ble_eq_true rfl, Nat.le_of_ble_eq_true rfl⟩ rfl (Nat.le_of_ble_eq_true rfl) dX2_around_6 ?_
    refine j_goto C 13 dX2_around_9 (by decide) ?_
    obtain rfl := Option.some.inj hf
    exact j_iret C hr hk ⟨Nat.le_of_ble_eq_true rfl, Nat.le_of_ble_eq_true rfl⟩ rfl dX2_around_13
set_option maxRecDepth 100000 in
set_option maxHeartbeats 4000000 in
theorem w_X2_turnedDraft_51 {b : MS} {p : Program} {l : Launch} {e : Env} {s : State} {m : MethodId} {args : Array Value} {below : List Frame} {meth : Method} {c : Code} {G : GT} {A : Nat → Prop} {ad : Nat → Nat} (C : CX G A RX2 cX2_turnedDraft 5 p s m args c) (hr : meth.sig.returnType = (some .int)) (hk : meth.locks = false) {rr : Int32}   (a : KS) (v1 : Int32) (v2 : Nat) (s0 : Int32) (hf : f_X2_turnedDraft_51 a v1 v2 s0 = some rr) : J p l e (RM 2) s m args below meth c G A 5 (MQ below (QV (some (.int rr)) (PosW G ad a b A) A) args s 0 0 A) 0 0 ad a b 51 [(0, .ref (ad 10)), (1, .int v1), (2, .ref (ad (ip v2)))] [.int s0] := by
  unfold f_X2_turnedDraft_51 at hf
  refine j_istore_n (i := 3) (lv' := [(3, .int s0), (0, .ref (ad 10)), (1, .int v1), (2, .ref (ad (ip v2)))]) C dX2_turnedDraft_51 rfl (by decide) rfl ?_
  refine j_aload_n C 1 rfl dX2_turnedDraft_52 ?_
  refine j_get (q := 10) (kf := 8) (T := TX2) (N := 13) (RC := RX2) C m_10 ce_10 rfl in_X2 (by decide) (fun _ h9 => h9) fl_X2_65 rfl dX2_turnedDraft_53 ?_
  refine j_iload_n C 2 rfl dX2_turnedDraft_56 ?_
  refine j_iload_n C 0 rfl dX2_turnedDraft_57 ?_
  refine j_imul C dX2_turnedDraft_58 ?_
  refine j_aload_n C 3 rfl dX2_turnedDraft_59 ?_
  obtain ⟨h1, hf⟩ := gd_some hf
  have h1 := of_decide_eq_true h1
  refine j_get (q := (ip v2)) (kf := 7) (T := TX4) (N := 13) (RC := RX4) C (mem_ip h1) ce_item rfl in_X4 (by decide) (fun _ h9 => h9) fl_X2_119 rfl dX2_turnedDraft_60 ?_
  refine j_imul C dX2_turnedDraft_63 ?_
  refine j_iadd C dX2_turnedDraft_64 ?_
  refine j_letI hf (fun x2 hf => ?_)
  refine j_istore (lv' := [(4, .int x2), (3, .int s0), (0, .ref (ad 10)), (1, .int v1), (2, .ref (ad (ip v2)))]) C dX2_turnedDraft_65 (by decide) rfl ?_
  refine j_aload_n C 4 rfl dX2_turnedDraft_67 ?_
  refine j_get (q := (ip v2)) (kf := 5) (T := TX4) (N := 13) (RC := RX4) C (mem_ip h1) ce_item rfl in_X4 (by decide) (fun _ h9 => h9) fl_X2_122 rfl dX2_turnedDraft_68 ?_
  refine j_aload_n C 4 rfl dX2_turnedDraft_71 ?_
  refine j_get (q := (ip v2)) (kf := 6) (T := TX4) (N := 13) (RC := RX4) C (mem_ip h1) ce_item rfl in_X4 (by decide) (fun _ h9 => h9) fl_X2_116 rfl dX2_turnedDraft_72 ?_
  refine j_iload C 0 rfl dX2_turnedDraft_75 ?_
  refine j_mmin C ml_X2_103 ⟨Nat.le_of_ble_eq_true rfl, Nat.le_of_ble_eq_true rfl, Nat.le_of_ble_eq_true rfl, Nat.le_of_ble_eq_true rfl⟩ dX2_turnedDraft_77 ?_
  refine j_mmax C ml_X2_106 ⟨Nat.le_of_ble_eq_true rfl, Nat.le_of_ble_eq_true rfl, Nat.le_of_ble_eq_true rfl, Nat.le_of_ble_eq_true rfl⟩ dX2_turnedDraft_80 ?_
  obtain rfl := Option.some.inj hf
  exact j_iret C hr hk ⟨Nat.le_of_ble_eq_true rfl, Nat.le_of_ble_eq_true rfl⟩ rfl dX2_turnedDraft_83
set_option maxRecDepth 100000 in
set_option maxHeartbeats 4000000 in
theorem k_X2_turnedDraft {l : Launch} {G : GT} {ad : Nat → Nat} {a : KS} {v1 : Int32} {b : MS} {rr : Int32} (hf : f_X2_turnedDraft a v1 = some rr) : MT l G yX2_turnedDraft cX2_turnedDraft 5 (some .int) (RM 2) [.ref (ad 10), .int v1] ad a b (some (.int rr)) a b := by
  refine MT_of (by decide) (Nat.le_of_ble_eq_true rfl) ?_
  intro p e s m args below meth c A C hr hk
  unfold f_X2_turnedDraft at hf
  refine j_aload_n C 0 rfl dX2_turnedDraft_0 ?_
  obtain ⟨z1, h2, hf⟩ := bnd_some hf
  refine j_callV (q := 10) (As := []) (rest := []) C (k_X2_chosenItem h2) cw_X2_chosenItem ml_X2_109 m_10 ce_10 rfl rfl ⟨Nat.le_of_ble_eq_true rfl, Nat.le_of_ble_eq_true rfl⟩ ⟨Nat.le_of_ble_eq_true rfl, Nat.le_of_ble_eq_true rfl⟩ rfl (Nat.le_of_ble_eq_true rfl) dX2_turnedDraft_1 ?_
  refine j_astore_nq (i := 2) (lv' := [(2, itv ad z1), (0, .ref (ad 10)), (1, .int v1)]) (o := z1) C dX2_turnedDraft_4 rfl (by decide) rfl ?_
  refine j_aload_nq C 0 rfl dX2_turnedDraft_5 ?_
  refine j_ifnonnull C 14 dX2_turnedDraft_6 (by decide) hf (fun e6 hg => ?_) (fun i5 e6 hg => ?_)
  · clear hf
    subst e6
    have hf := hg
    clear hg
    refine j_aload_n C 1 rfl dX2_turnedDraft_9 ?_
    refine j_get (q := 10) (kf := 8) (T := TX2) (N := 13) (RC := RX2) C m_10 ce_10 rfl in_X2 (by decide) (fun _ h9 => h9) fl_X2_65 rfl dX2_turnedDraft_10 ?_
    obtain rfl := Option.some.inj hf
    exact j_iret C hr hk ⟨Nat.le_of_ble_eq_true rfl, Nat.le_of_ble_eq_true rfl⟩ rfl dX2_turnedDraft_13
  · clear hf
    subst e6
    have hf := hg
    clear hg
    refine j_aload_n C 0 rfl dX2_turnedDraft_14 ?_
    obtain ⟨h7, hf⟩ := gd_some hf
    have h7 := of_decide_eq_true h7
    refine j_get (q := (ip i5)) (kf := 1) (T := TX4) (N := 13) (RC := RX4) C (mem_ip h7) ce_item rfl in_X4 (by decide) (fun _ h9 => h9) fl_X2_113 rfl dX2_turnedDraft_15 ?_
    refine j_iconst (v := 2) C (by decide) dX2_turnedDraft_18 ?_
    refine j_icmp_ne C 38 dX2_turnedDraft_19 (by decide) hf (fun y8 hf => ?_) (fun y8 hf => ?_)
    · refine j_iload_n C 2 rfl dX2_turnedDraft_38 ?_
      refine j_mabs C ml_X2_78 ⟨Nat.le_of_ble_eq_true rfl, Nat.le_of_ble_eq_true rfl, Nat.le_of_ble_eq_true rfl, Nat.le_of_ble_eq_true rfl⟩ dX2_turnedDraft_39 ?_
      refine j_iconst (v := 5) C (by decide) dX2_turnedDraft_42 ?_
      refine j_icmp_lt C 50 dX2_turnedDraft_43 (by decide) hf (fun y9 hf => ?_) (fun y9 hf => ?_)
      · refine j_iconst (v := 1) C (by decide) dX2_turnedDraft_50 ?_
        refine j_sub [1, 2, 0] rfl ?_
        exact w_X2_turnedDraft_51 C hr hk a v1 i5 1 hf
      · refine j_iconst (v := 2) C (by decide) dX2_turnedDraft_46 ?_
        refine j_goto C 51 dX2_turnedDraft_47 (by decide) ?_
        refine j_sub [1, 2, 0] rfl ?_
        exact w_X2_turnedDraft_51 C hr hk a v1 i5 2 hf
    · refine j_aload_n C 1 rfl dX2_turnedDraft_22 ?_
      refine j_get (q := 10) (kf := 8) (T := TX2) (N := 13) (RC := RX2) C m_10 ce_10 rfl in_X2 (by decide) (fun _ h9 => h9) fl_X2_65 rfl dX2_turnedDraft_23 ?_
      refine j_iload_n C 2 rfl dX2_turnedDraft_26 ?_
      refine j_iadd C dX2_turnedDraft_27 ?_
      refine j_aload_n C 0 rfl dX2_turnedDraft_28 ?_
      refine j_get (q := (ip i5)) (kf := 6) (T := TX4) (N := 13) (RC := RX4) C (mem_ip h7) ce_item rfl in_X4 (by decide) (fun _ h9 => h9) fl_X2_116 rfl dX2_turnedDraft_29 ?_
      refine j_iconst (v := 1) C (by decide) dX2_turnedDraft_32 ?_
      refine j_iadd C dX2_turnedDraft_33 ?_
      obtain ⟨z10, h11, hf⟩ := bnd_some hf
      refine j_callS (As := [.int ((Khi a 10 8) + v1), .int ((Kit a i5 6) + 1)]) (rest := []) C (k_X2_around h11) cw_X2_around ml_X2_92 rfl ⟨Nat.le_of_ble_eq_true rfl, Nat.le_of_ble_eq_true rfl⟩ ⟨Nat.le_of_ble_eq_true rfl, Nat.le_of_ble_eq_true rfl⟩ rfl (Nat.le_of_ble_eq_true rfl) dX2_turnedDraft_34 ?_
      obtain rfl := Option.some.inj hf
      exact j_iret C hr hk ⟨Nat.le_of_ble_eq_true rfl, Nat.le_of_ble_eq_true rfl⟩ rfl dX2_turnedDraft_37
set_option maxRecDepth 100000 in
set_option maxHeartbeats 4000000 in
theorem k_X2_digit {l : Launch} {G : GT} {ad : Nat → Nat} {a : KS} {v1 : Int32} {b : MS} {rr : Int32} (hf : f_X2_digit a v1 = some rr) : MT l G yX2_digit cX2_digit 2 (some .int) (RM 0) [.ref (ad 10), .int v1] ad a b (some (.int rr)) a b := by
  refine MT_of (by decide) (Nat.le_of_ble_eq_true rfl) ?_
  intro p e s m args below meth c A C hr hk
  unfold f_X2_digit at hf
  refine j_iload_n C 1 rfl dX2_digit_0 ?_
  refine j_if_lt C 22 dX2_digit_1 (by decide) hf (fun y1 hf => ?_) (fun y1 hf => ?_)
  · refine j_iconst (v := 0) C (by decide) dX2_digit_22 ?_
    obtain rfl := Option.some.inj hf
    exact j_iret C hr hk ⟨Nat.le_of_ble_eq_true rfl, Nat.le_of_ble_eq_true rfl⟩ rfl dX2_digit_23
  · refine j_iload_n C 1 rfl dX2_digit_4 ?_
    refine j_aload_n C 0 rfl dX2_digit_5 ?_
    refine j_get (q := 10) (kf := 2) (T := TX2) (N := 13) (RC := RX2) C m_10 ce_10 rfl in_X2 (by decide) (fun _ h9 => h9) fl_X2_9 rfl dX2_digit_6 ?_
    refine j_alen (q := 11) (t0 := 0) (v := 4) C m_11 ce_11 rfl rfl dX2_digit_9 ?_
    refine j_icmp_ge C 22 dX2_digit_10 (by decide) hf (fun y2 hf => ?_) (fun y2 hf => ?_)
    · refine j_iconst (v := 0) C (by decide) dX2_digit_22 ?_
      obtain rfl := Option.some.inj hf
      exact j_iret C hr hk ⟨Nat.le_of_ble_eq_true rfl, Nat.le_of_ble_eq_true rfl⟩ rfl dX2_digit_23
    · refine j_aload_n C 0 rfl dX2_digit_13 ?_
      refine j_get (q := 10) (kf := 2) (T := TX2) (N := 13) (RC := RX2) C m_10 ce_10 rfl in_X2 (by decide) (fun _ h9 => h9) fl_X2_9 rfl dX2_digit_14 ?_
      refine j_iload_n C 1 rfl dX2_digit_17 ?_
      refine j_iald (q := 11) C m_11 ce_11 hf dX2_digit_18 (fun hf => ?_)
      refine j_goto C 23 dX2_digit_19 (by decide) ?_
      obtain rfl := Option.some.inj hf
      exact j_iret C hr hk ⟨Nat.le_of_ble_eq_true rfl, Nat.le_of_ble_eq_true rfl⟩ rfl dX2_digit_23
set_option maxRecDepth 100000 in
set_option maxHeartbeats 4000000 in
theorem k_X2_setting {l : Launch} {G : GT} {ad : Nat → Nat} {a : KS} {v1 : Int32} {b : MS} {rr : Int32} (hf : f_X2_setting a v1 = some rr) : MT l G yX2_setting cX2_setting 2 (some .int) (RM 0) [.ref (ad 10), .int v1] ad a b (some (.int rr)) a b := by
  refine MT_of (by decide) (Nat.le_of_ble_eq_true rfl) ?_
  intro p e s m args below meth c A C hr hk
  unfold f_X2_setting at hf
  refine j_iload_n C 1 rfl dX2_setting_0 ?_
  refine j_if_lt C 22 dX2_setting_1 (by decide) hf (fun y1 hf => ?_) (fun y1 hf => ?_)
  · refine j_iconst (v := 0) C (by decide) dX2_setting_22 ?_
    obtain rfl := Option.some.inj hf
    exact j_iret C hr hk ⟨Nat.le_of_ble_eq_true rfl, Nat.le_of_ble_eq_true rfl⟩ rfl dX2_setting_23
  · refine j_iload_n C 1 rfl dX2_setting_4 ?_
    refine j_aload_n C 0 rfl dX2_setting_5 ?_
    refine j_get (q := 10) (kf := 3) (T := TX2) (N := 13) (RC := RX2) C m_10 ce_10 rfl in_X2 (by decide) (fun _ h9 => h9) fl_X2_15 rfl dX2_setting_6 ?_
    refine j_alen (q := 12) (t0 := 0) (v := 3) C m_12 ce_12 rfl rfl dX2_setting_9 ?_
    refine j_icmp_ge C 22 dX2_setting_10 (by decide) hf (fun y2 hf => ?_) (fun y2 hf => ?_)
    · refine j_iconst (v := 0) C (by decide) dX2_setting_22 ?_
      obtain rfl := Option.some.inj hf
      exact j_iret C hr hk ⟨Nat.le_of_ble_eq_true rfl, Nat.le_of_ble_eq_true rfl⟩ rfl dX2_setting_23
    · refine j_aload_n C 0 rfl dX2_setting_13 ?_
      refine j_get (q := 10) (kf := 3) (T := TX2) (N := 13) (RC := RX2) C m_10 ce_10 rfl in_X2 (by decide) (fun _ h9 => h9) fl_X2_15 rfl dX2_setting_14 ?_
      refine j_iload_n C 1 rfl dX2_setting_17 ?_
      refine j_iald (q := 12) C m_12 ce_12 hf dX2_setting_18 (fun hf => ?_)
      refine j_goto C 23 dX2_setting_19 (by decide) ?_
      obtain rfl := Option.some.inj hf
      exact j_iret C hr hk ⟨Nat.le_of_ble_eq_true rfl, Nat.le_of_ble_eq_true rfl⟩ rfl dX2_setting_23
set_option maxRecDepth 100000 in
set_option maxHeartbeats 4000000 in
theorem k_X2_turned {l : Launch} {G : GT} {ad : Nat → Nat} {a : KS} {v1 : Int32} {b : MS} {rr : Int32} (hf : f_X2_turned a v1 = some rr) : MT l G yX2_turned cX2_turned 3 (some .int) (RM 3) [.ref (ad 10), .int v1] ad a b (some (.int rr)) a b := by
  refine MT_of (by decide) (Nat.le_of_ble_eq_true rfl) ?_
  intro p e s m args below meth c A C hr hk
  unfold f_X2_turned at hf
  refine j_aload_n C 0 rfl dX2_turned_0 ?_
  refine j_get (q := 10) (kf := 6) (T := TX2) (N := 13) (RC := RX2) C m_10 ce_10 rfl in_X2 (by decide) (fun _ h9 => h9) fl_X2_48 rfl dX2_turned_1 ?_
  refine j_iconst (v := 1) C (by decide) dX2_turned_4 ?_
  refine j_icmp_ne C 14 dX2_turned_5 (by decide) hf (fun y1 hf => ?_) (fun y1 hf => ?_)
  · refine j_aload_n C 0 rfl dX2_turned_14 ?_
    refine j_get (q := 10) (kf := 6) (T := TX2) (N := 13) (RC := RX2) C m_10 ce_10 rfl in_X2 (by decide) (fun _ h9 => h9) fl_X2_48 rfl dX2_turned_15 ?_
    refine j_iconst (v := 2) C (by decide) dX2_turned_18 ?_
    refine j_icmp_ne C 38 dX2_turned_19 (by decide) hf (fun y2 hf => ?_) (fun y2 hf => ?_)
    · refine j_aload_n C 0 rfl dX2_turned_38 ?_
      refine j_get (q := 10) (kf := 5) (T := TX2) (N := 13) (RC := RX2) C m_10 ce_10 rfl in_X2 (by decide) (fun _ h9 => h9) fl_X2_35 rfl dX2_turned_39 ?_
      refine j_letO hf (fun o3 hf => ?_)
      obtain ⟨i4, e6, h5, hg⟩ := odr_some hf
      clear hf
      subst e6
      have hf := hg
      clear hg
      obtain ⟨z7, h8, hf⟩ := bnd_some hf
      refine j_callV (q := (ip i4)) (As := []) (rest := []) C (k_X4_entries h8) cw_X4_entries ml_X2_96 (mem_ip h5) ce_item rfl rfl ⟨Nat.le_of_ble_eq_true rfl, Nat.le_of_ble_eq_true rfl⟩ ⟨Nat.le_of_ble_eq_true rfl, Nat.le_of_ble_eq_true rfl⟩ rfl (Nat.le_of_ble_eq_true rfl) dX2_turned_42 ?_
      refine j_istore_n (i := 2) (lv' := [(2, .int z7), (0, .ref (ad 10)), (1, .int v1)]) C dX2_turned_45 rfl (by decide) rfl ?_
      refine j_aload_n C 1 rfl dX2_turned_46 ?_
      refine j_iconst (v := 2) C (by decide) dX2_turned_47 ?_
      obtain ⟨z10, h11, hf⟩ := bnd_some hf
      refine j_callV (q := 10) (As := [.int 2]) (rest := []) C (k_X2_setting h11) cw_X2_setting ml_X2_100 m_10 ce_10 rfl rfl ⟨Nat.le_of_ble_eq_true rfl, Nat.le_of_ble_eq_true rfl⟩ ⟨Nat.le_of_ble_eq_true rfl, Nat.le_of_ble_eq_true rfl⟩ rfl (Nat.le_of_ble_eq_true rfl) dX2_turned_48 ?_
      refine j_iconst (v := 1) C (by decide) dX2_turned_51 ?_
      refine j_icmp_ne C 66 dX2_turned_52 (by decide) hf (fun y13 hf => ?_) (fun y13 hf => ?_)
      · refine j_iconst (v := 0) C (by decide) dX2_turned_66 ?_
        refine j_iload_n C 0 rfl dX2_turned_67 ?_
        refine j_iconst (v := 1) C (by decide) dX2_turned_68 ?_
        refine j_isub C dX2_turned_69 ?_
        refine j_aload_n C 1 rfl dX2_turned_70 ?_
        refine j_get (q := 10) (kf := 7) (T := TX2) (N := 13) (RC := RX2) C m_10 ce_10 rfl in_X2 (by decide) (fun _ h9 => h9) fl_X2_38 rfl dX2_turned_71 ?_
        refine j_iload_n C 2 rfl dX2_turned_74 ?_
        refine j_iadd C dX2_turned_75 ?_
        refine j_mmin C ml_X2_103 ⟨Nat.le_of_ble_eq_true rfl, Nat.le_of_ble_eq_true rfl, Nat.le_of_ble_eq_true rfl, Nat.le_of_ble_eq_true rfl⟩ dX2_turned_76 ?_
        refine j_mmax C ml_X2_106 ⟨Nat.le_of_ble_eq_true rfl, Nat.le_of_ble_eq_true rfl, Nat.le_of_ble_eq_true rfl, Nat.le_of_ble_eq_true rfl⟩ dX2_turned_79 ?_
        obtain rfl := Option.some.inj hf
        exact j_iret C hr hk ⟨Nat.le_of_ble_eq_true rfl, Nat.le_of_ble_eq_true rfl⟩ rfl dX2_turned_82
      · refine j_aload_n C 1 rfl dX2_turned_55 ?_
        refine j_get (q := 10) (kf := 7) (T := TX2) (N := 13) (RC := RX2) C m_10 ce_10 rfl in_X2 (by decide) (fun _ h9 => h9) fl_X2_38 rfl dX2_turned_56 ?_
        refine j_iload_n C 2 rfl dX2_turned_59 ?_
        refine j_iadd C dX2_turned_60 ?_
        refine j_iload_n C 0 rfl dX2_turned_61 ?_
        obtain ⟨z14, h15, hf⟩ := bnd_some hf
        refine j_callS (As := [.int ((Khi a 10 7) + v1), .int z7]) (rest := []) C (k_X2_around h15) cw_X2_around ml_X2_92 rfl ⟨Nat.le_of_ble_eq_true rfl, Nat.le_of_ble_eq_true rfl⟩ ⟨Nat.le_of_ble_eq_true rfl, Nat.le_of_ble_eq_true rfl⟩ rfl (Nat.le_of_ble_eq_true rfl) dX2_turned_62 ?_
        obtain rfl := Option.some.inj hf
        exact j_iret C hr hk ⟨Nat.le_of_ble_eq_true rfl, Nat.le_of_ble_eq_true rfl⟩ rfl dX2_turned_65
    · refine j_aload_n C 0 rfl dX2_turned_22 ?_
      refine j_aload_n C 0 rfl dX2_turned_23 ?_
      refine j_get (q := 10) (kf := 9) (T := TX2) (N := 13) (RC := RX2) C m_10 ce_10 rfl in_X2 (by decide) (fun _ h9 => h9) fl_X2_68 rfl dX2_turned_24 ?_
      obtain ⟨z17, h18, hf⟩ := bnd_some hf
      refine j_callV (q := 10) (As := [.int (Khi a 10 9)]) (rest := []) C (k_X2_digit h18) cw_X2_digit ml_X2_89 m_10 ce_10 rfl rfl ⟨Nat.le_of_ble_eq_true rfl, Nat.le_of_ble_eq_true rfl⟩ ⟨Nat.le_of_ble_eq_true rfl, Nat.le_of_ble_eq_true rfl⟩ rfl (Nat.le_of_ble_eq_true rfl) dX2_turned_27 ?_
      refine j_iload_n C 1 rfl dX2_turned_30 ?_
      refine j_iadd C dX2_turned_31 ?_
      refine j_bipush (v := 10) C (by decide) dX2_turned_32 ?_
      obtain ⟨z20, h21, hf⟩ := bnd_some hf
      refine j_callS (As := [.int (z17 + v1), .int 10]) (rest := []) C (k_X2_around h21) cw_X2_around ml_X2_92 rfl ⟨Nat.le_of_ble_eq_true rfl, Nat.le_of_ble_eq_true rfl⟩ ⟨Nat.le_of_ble_eq_true rfl, Nat.le_of_ble_eq_true rfl⟩ rfl (Nat.le_of_ble_eq_true rfl) dX2_turned_34 ?_
      obtain rfl := Option.some.inj hf
      exact j_iret C hr hk ⟨Nat.le_of_ble_eq_true rfl, Nat.le_of_ble_eq_true rfl⟩ rfl dX2_turned_37
  · refine j_aload_n C 0 rfl dX2_turned_8 ?_
    refine j_iload_n C 1 rfl dX2_turned_9 ?_
    obtain ⟨z23, h24, hf⟩ := bnd_some hf
    refine j_callV (q := 10) (As := [.int v1]) (rest := []) C (k_X2_turnedDraft h24) cw_X2_turnedDraft ml_X2_86 m_10 ce_10 rfl rfl ⟨Nat.le_of_ble_eq_true rfl, Nat.le_of_ble_eq_true rfl⟩ ⟨Nat.le_of_ble_eq_true rfl, Nat.le_of_ble_eq_true rfl⟩ rfl (Nat.le_of_ble_eq_true rfl) dX2_turned_10 ?_
    obtain rfl := Option.some.inj hf
    exact j_iret C hr hk ⟨Nat.le_of_ble_eq_true rfl, Nat.le_of_ble_eq_true rfl⟩ rfl dX2_turned_13
set_option maxRecDepth 100000 in
set_option maxHeartbeats 4000000 in
theorem k_X2_changeDigit {l : Launch} {G : GT} {ad : Nat → Nat} {a : KS} {v1 : Int32} {v2 : Int32} {b : MS} {rr : KS} (hf : f_X2_changeDigit a v1 v2 = some rr) : MT l G yX2_changeDigit cX2_changeDigit 3 none (RM 0) [.ref (ad 10), .int v1, .int v2] ad a b (none) rr b := by
  refine MT_of (by decide) (Nat.le_of_ble_eq_true rfl) ?_
  intro p e s m args below meth c A C hr hk
  unfold f_X2_changeDigit at hf
  refine j_iload_n C 1 rfl dX2_changeDigit_0 ?_
  refine j_if_lt C 20 dX2_changeDigit_1 (by decide) hf (fun y1 hf => ?_) (fun y1 hf => ?_)
  · obtain rfl := Option.some.inj hf
    exact j_vret C hr hk ⟨Nat.le_of_ble_eq_true rfl, Nat.le_of_ble_eq_true rfl⟩ rfl dX2_changeDigit_20
  · refine j_iload_n C 1 rfl dX2_changeDigit_4 ?_
    refine j_aload_n C 0 rfl dX2_changeDigit_5 ?_
    refine j_get (q := 10) (kf := 2) (T := TX2) (N := 13) (RC := RX2) C m_10 ce_10 rfl in_X2 (by decide) (fun _ h9 => h9) fl_X2_9 rfl dX2_changeDigit_6 ?_
    refine j_alen (q := 11) (t0 := 0) (v := 4) C m_11 ce_11 rfl rfl dX2_changeDigit_9 ?_
    refine j_icmp_ge C 20 dX2_changeDigit_10 (by decide) hf (fun y2 hf => ?_) (fun y2 hf => ?_)
    · obtain rfl := Option.some.inj hf
      exact j_vret C hr hk ⟨Nat.le_of_ble_eq_true rfl, Nat.le_of_ble_eq_true rfl⟩ rfl dX2_changeDigit_20
    · refine j_aload_n C 0 rfl dX2_changeDigit_13 ?_
      refine j_get (q := 10) (kf := 2) (T := TX2) (N := 13) (RC := RX2) C m_10 ce_10 rfl in_X2 (by decide) (fun _ h9 => h9) fl_X2_9 rfl dX2_changeDigit_14 ?_
      refine j_iload_n C 1 rfl dX2_changeDigit_17 ?_
      refine j_iload_n C 2 rfl dX2_changeDigit_18 ?_
      refine ast_11 C hf dX2_changeDigit_19 (fun hf => ?_)
      obtain rfl := Option.some.inj hf
      exact j_vret C hr hk ⟨Nat.le_of_ble_eq_true rfl, Nat.le_of_ble_eq_true rfl⟩ rfl dX2_changeDigit_20
set_option maxRecDepth 100000 in
set_option maxHeartbeats 4000000 in
theorem k_X2_count {l : Launch} {G : GT} {ad : Nat → Nat} {a : KS} {v1 : Int32} {v2 : Int32} {b : MS} {rr : KS} (hf : f_X2_count a v1 v2 = some rr) : MT l G yX2_count cX2_count 3 none (RM 0) [.ref (ad 10), .int v1, .int v2] ad a b (none) rr b := by
  refine MT_of (by decide) (Nat.le_of_ble_eq_true rfl) ?_
  intro p e s m args below meth c A C hr hk
  unfold f_X2_count at hf
  refine j_iload_n C 1 rfl dX2_count_0 ?_
  refine j_if_lt C 23 dX2_count_1 (by decide) hf (fun y1 hf => ?_) (fun y1 hf => ?_)
  · obtain rfl := Option.some.inj hf
    exact j_vret C hr hk ⟨Nat.le_of_ble_eq_true rfl, Nat.le_of_ble_eq_true rfl⟩ rfl dX2_count_23
  · refine j_iload_n C 1 rfl dX2_count_4 ?_
    refine j_aload_n C 0 rfl dX2_count_5 ?_
    refine j_get (q := 10) (kf := 4) (T := TX2) (N := 13) (RC := RX2) C m_10 ce_10 rfl in_X2 (by decide) (fun _ h9 => h9) fl_X2_18 rfl dX2_count_6 ?_
    refine j_alen (q := 13) (t0 := 0) (v := 8) C m_13 ce_13 rfl rfl dX2_count_9 ?_
    refine j_icmp_ge C 23 dX2_count_10 (by decide) hf (fun y2 hf => ?_) (fun y2 hf => ?_)
    · obtain rfl := Option.some.inj hf
      exact j_vret C hr hk ⟨Nat.le_of_ble_eq_true rfl, Nat.le_of_ble_eq_true rfl⟩ rfl dX2_count_23
    · refine j_aload_n C 0 rfl dX2_count_13 ?_
      refine j_get (q := 10) (kf := 4) (T := TX2) (N := 13) (RC := RX2) C m_10 ce_10 rfl in_X2 (by decide) (fun _ h9 => h9) fl_X2_18 rfl dX2_count_14 ?_
      refine j_iload_n C 1 rfl dX2_count_17 ?_
      refine j_dup2 C rfl rfl dX2_count_18 ?_
      refine j_iald (q := 13) C m_13 ce_13 hf dX2_count_19 (fun hf => ?_)
      refine j_iload_n C 2 rfl dX2_count_20 ?_
      refine j_iadd C dX2_count_21 ?_
      refine ast_13 C hf dX2_count_22 (fun hf => ?_)
      obtain rfl := Option.some.inj hf
      exact j_vret C hr hk ⟨Nat.le_of_ble_eq_true rfl, Nat.le_of_ble_eq_true rfl⟩ rfl dX2_count_23
set_option maxRecDepth 100000 in
set_option maxHeartbeats 4000000 in
theorem w_X2_turnBy_47 {b : MS} {p : Program} {l : Launch} {e : Env} {s : State} {m : MethodId} {args : Array Value} {below : List Frame} {meth : Method} {c : Code} {G : GT} {A : Nat → Prop} {ad : Nat → Nat} (C : CX G A RX2 cX2_turnBy 3 p s m args c) (hr : meth.sig.returnType = (some .int)) (hk : meth.locks = false) {rr : Int32 × KS}   (a : KS) (v1 : Int32) (v2 : Int32) (hf : f_X2_turnBy_47 a v1 v2 = some rr) : J p l e (RM 4) s m args below meth c G A 3 (MQ below (QV (some (.int rr.1)) (PosW G ad rr.2 b A) A) args s 0 0 A) 0 0 ad a b 47 [(0, .ref (ad 10)), (1, .int v1), (2, .int v2)] [] := by
  unfold f_X2_turnBy_47 at hf
  refine j_aload_n C 0 rfl dX2_turnBy_47 ?_
  refine j_iconst (v := 0) C (by decide) dX2_turnBy_48 ?_
  refine put_X2_10 C fl_X2_75 rfl rfl dX2_turnBy_49 ?_
  refine j_aload_n C 0 rfl dX2_turnBy_52 ?_
  refine j_iconst (v := 0) C (by decide) dX2_turnBy_53 ?_
  refine j_iload_n C 1 rfl dX2_turnBy_54 ?_
  refine j_mabs C ml_X2_78 ⟨Nat.le_of_ble_eq_true rfl, Nat.le_of_ble_eq_true rfl, Nat.le_of_ble_eq_true rfl, Nat.le_of_ble_eq_true rfl⟩ dX2_turnBy_55 ?_
  obtain ⟨z1, h2, hf⟩ := bnd_some hf
  refine j_callV (q := 10) (As := [.int 0, .int (mabs v1)]) (rest := []) C (k_X2_count h2) cw_X2_count ml_X2_83 m_10 ce_10 rfl rfl ⟨Nat.le_of_ble_eq_true rfl, Nat.le_of_ble_eq_true rfl⟩ ⟨Nat.le_of_ble_eq_true rfl, Nat.le_of_ble_eq_true rfl⟩ rfl (Nat.le_of_ble_eq_true rfl) dX2_turnBy_58 ?_
  refine j_iload_n C 2 rfl dX2_turnBy_61 ?_
  obtain rfl := Option.some.inj hf
  exact j_iret C hr hk ⟨Nat.le_of_ble_eq_true rfl, Nat.le_of_ble_eq_true rfl⟩ rfl dX2_turnBy_62
set_option maxRecDepth 100000 in
set_option maxHeartbeats 4000000 in
theorem k_X2_turnBy {l : Launch} {G : GT} {ad : Nat → Nat} {a : KS} {v1 : Int32} {b : MS} {rr : Int32 × KS} (hf : f_X2_turnBy a v1 = some rr) : MT l G yX2_turnBy cX2_turnBy 3 (some .int) (RM 4) [.ref (ad 10), .int v1] ad a b (some (.int rr.1)) rr.2 b := by
  refine MT_of (by decide) (Nat.le_of_ble_eq_true rfl) ?_
  intro p e s m args below meth c A C hr hk
  unfold f_X2_turnBy at hf
  refine j_aload_n C 0 rfl dX2_turnBy_0 ?_
  refine j_iload_n C 1 rfl dX2_turnBy_1 ?_
  obtain ⟨z1, h2, hf⟩ := bnd_some hf
  refine j_callV (q := 10) (As := [.int v1]) (rest := []) C (k_X2_turned h2) cw_X2_turned ml_X2_61 m_10 ce_10 rfl rfl ⟨Nat.le_of_ble_eq_true rfl, Nat.le_of_ble_eq_true rfl⟩ ⟨Nat.le_of_ble_eq_true rfl, Nat.le_of_ble_eq_true rfl⟩ rfl (Nat.le_of_ble_eq_true rfl) dX2_turnBy_2 ?_
  refine j_istore_n (i := 2) (lv' := [(2, .int z1), (0, .ref (ad 10)), (1, .int v1)]) C dX2_turnBy_5 rfl (by decide) rfl ?_
  refine j_aload_n C 1 rfl dX2_turnBy_6 ?_
  refine j_get (q := 10) (kf := 6) (T := TX2) (N := 13) (RC := RX2) C m_10 ce_10 rfl in_X2 (by decide) (fun _ h9 => h9) fl_X2_48 rfl dX2_turnBy_7 ?_
  refine j_iconst (v := 1) C (by decide) dX2_turnBy_10 ?_
  refine j_icmp_ne C 22 dX2_turnBy_11 (by decide) hf (fun y4 hf => ?_) (fun y4 hf => ?_)
  · refine j_aload_n C 1 rfl dX2_turnBy_22 ?_
    refine j_get (q := 10) (kf := 6) (T := TX2) (N := 13) (RC := RX2) C m_10 ce_10 rfl in_X2 (by decide) (fun _ h9 => h9) fl_X2_48 rfl dX2_turnBy_23 ?_
    refine j_iconst (v := 2) C (by decide) dX2_turnBy_26 ?_
    refine j_icmp_ne C 42 dX2_turnBy_27 (by decide) hf (fun y5 hf => ?_) (fun y5 hf => ?_)
    · refine j_aload_n C 1 rfl dX2_turnBy_42 ?_
      refine j_iload_n C 0 rfl dX2_turnBy_43 ?_
      refine put_X2_7 C fl_X2_38 rfl rfl dX2_turnBy_44 ?_
      refine j_sub [1, 2, 0] rfl ?_
      exact w_X2_turnBy_47 C hr hk (sKhi a 10 7 z1) v1 z1 hf
    · refine j_aload_n C 1 rfl dX2_turnBy_30 ?_
      refine j_aload_n C 1 rfl dX2_turnBy_31 ?_
      refine j_get (q := 10) (kf := 9) (T := TX2) (N := 13) (RC := RX2) C m_10 ce_10 rfl in_X2 (by decide) (fun _ h9 => h9) fl_X2_68 rfl dX2_turnBy_32 ?_
      refine j_iload_n C 0 rfl dX2_turnBy_35 ?_
      obtain ⟨z6, h7, hf⟩ := bnd_some hf
      refine j_callV (q := 10) (As := [.int (Khi a 10 9), .int z1]) (rest := []) C (k_X2_changeDigit h7) cw_X2_changeDigit ml_X2_71 m_10 ce_10 rfl rfl ⟨Nat.le_of_ble_eq_true rfl, Nat.le_of_ble_eq_true rfl⟩ ⟨Nat.le_of_ble_eq_true rfl, Nat.le_of_ble_eq_true rfl⟩ rfl (Nat.le_of_ble_eq_true rfl) dX2_turnBy_36 ?_
      refine j_goto C 47 dX2_turnBy_39 (by decide) ?_
      refine j_sub [1, 2, 0] rfl ?_
      exact w_X2_turnBy_47 C hr hk z6 v1 z1 hf
  · refine j_aload_n C 1 rfl dX2_turnBy_14 ?_
    refine j_iload_n C 0 rfl dX2_turnBy_15 ?_
    refine put_X2_8 C fl_X2_65 rfl rfl dX2_turnBy_16 ?_
    refine j_goto C 47 dX2_turnBy_19 (by decide) ?_
    refine j_sub [1, 2, 0] rfl ?_
    exact w_X2_turnBy_47 C hr hk (sKhi a 10 8 z1) v1 z1 hf
set_option maxRecDepth 100000 in
set_option maxHeartbeats 4000000 in
theorem k_X2_goBack {l : Launch} {G : GT} {ad : Nat → Nat} {a : KS} {b : MS} {rr : Int32 × KS} (hf : f_X2_goBack a = some rr) : MT l G yX2_goBack cX2_goBack 3 (some .int) (RM 0) [.ref (ad 10)] ad a b (some (.int rr.1)) rr.2 b := by
  refine MT_of (by decide) (Nat.le_of_ble_eq_true rfl) ?_
  intro p e s m args below meth c A C hr hk
  unfold f_X2_goBack at hf
  refine j_aload_n C 0 rfl dX2_goBack_0 ?_
  refine j_get (q := 10) (kf := 5) (T := TX2) (N := 13) (RC := RX2) C m_10 ce_10 rfl in_X2 (by decide) (fun _ h9 => h9) fl_X2_35 rfl dX2_goBack_1 ?_
  refine j_letO hf (fun o1 hf => ?_)
  refine j_astore_nq (i := 1) (lv' := [(1, itv ad o1), (0, .ref (ad 10))]) (o := o1) C dX2_goBack_4 rfl (by decide) rfl ?_
  refine j_aload_nq C 0 rfl dX2_goBack_5 ?_
  obtain ⟨i2, e4, h3, hg⟩ := odr_some hf
  clear hf
  subst e4
  have hf := hg
  clear hg
  refine j_get (q := (ip i2)) (kf := 2) (T := TX4) (N := 13) (RC := RX4) C (mem_ip h3) ce_item rfl in_X4 (by decide) (fun _ h9 => h9) fl_X2_147 rfl dX2_goBack_6 ?_
  refine j_letO hf (fun o5 hf => ?_)
  refine j_astore_nq (i := 2) (lv' := [(2, itv ad o5), (1, .ref (ad (ip i2))), (0, .ref (ad 10))]) (o := o5) C dX2_goBack_9 rfl (by decide) rfl ?_
  refine j_aload_nq C 0 rfl dX2_goBack_10 ?_
  refine j_ifnonnull C 16 dX2_goBack_11 (by decide) hf (fun e8 hg => ?_) (fun i7 e8 hg => ?_)
  · clear hf
    subst e8
    have hf := hg
    clear hg
    refine j_iconst (v := 0) C (by decide) dX2_goBack_14 ?_
    obtain rfl := Option.some.inj hf
    exact j_iret C hr hk ⟨Nat.le_of_ble_eq_true rfl, Nat.le_of_ble_eq_true rfl⟩ rfl dX2_goBack_15
  · clear hf
    subst e8
    have hf := hg
    clear hg
    refine j_aload_n C 2 rfl dX2_goBack_16 ?_
    refine j_aload_n C 0 rfl dX2_goBack_17 ?_
    refine put_X2_5 (o := (some i7)) C fl_X2_35 dX2_goBack_18 ?_
    refine j_aload_n C 2 rfl dX2_goBack_21 ?_
    refine j_aload_n C 1 rfl dX2_goBack_22 ?_
    refine j_get (q := (ip i2)) (kf := 4) (T := TX4) (N := 13) (RC := RX4) C (mem_ip h3) ce_item rfl in_X4 (by decide) (fun _ h9 => h9) fl_X2_150 rfl dX2_goBack_23 ?_
    refine put_X2_7 C fl_X2_38 rfl rfl dX2_goBack_26 ?_
    refine j_iconst (v := 1) C (by decide) dX2_goBack_29 ?_
    obtain rfl := Option.some.inj hf
    exact j_iret C hr hk ⟨Nat.le_of_ble_eq_true rfl, Nat.le_of_ble_eq_true rfl⟩ rfl dX2_goBack_30
set_option maxRecDepth 100000 in
set_option maxHeartbeats 4000000 in
theorem k_X2_endEdit {l : Launch} {G : GT} {ad : Nat → Nat} {a : KS} {v1 : Option Nat} {b : MS} {rr : Int32 × KS} (hf : f_X2_endEdit a v1 = some rr) : MT l G yX2_endEdit cX2_endEdit 2 (some .int) (RM 3) [.ref (ad 10), itv ad v1] ad a b (some (.int rr.1)) rr.2 b := by
  refine MT_of2 (lv := [(0, .ref (ad 10)), (1, itv ad v1)]) (by decide) (by simp only [lg_sl, List.flatMap_cons, List.flatMap_nil, itv_cat]; exact Nat.le_of_ble_eq_true rfl) (by simp only [lv_args, itv_cat] <;> rfl) ?_
  intro p e s m args below meth c A C hr hk
  unfold f_X2_endEdit at hf
  refine j_aload_n C 0 rfl dX2_endEdit_0 ?_
  refine j_iconst (v := 0) C (by decide) dX2_endEdit_1 ?_
  refine put_X2_6 C fl_X2_48 rfl rfl dX2_endEdit_2 ?_
  refine j_aload_nq C 1 rfl dX2_endEdit_5 ?_
  obtain ⟨i1, e3, h2, hg⟩ := odr_some hf
  clear hf
  subst e3
  have hf := hg
  clear hg
  refine j_get (q := (ip i1)) (kf := 10) (T := TX4) (N := 13) (RC := RX4) C (mem_ip h2) ce_item rfl in_X4 (by decide) (fun _ h9 => h9) fl_X2_153 rfl dX2_endEdit_6 ?_
  refine j_aload_n C 0 rfl dX2_endEdit_9 ?_
  refine j_get (q := 10) (kf := 8) (T := TX2) (N := 13) (RC := RX2) C m_10 ce_10 rfl in_X2 (by decide) (fun _ h9 => h9) fl_X2_65 rfl dX2_endEdit_10 ?_
  refine j_icmp_eq C 42 dX2_endEdit_13 (by decide) hf (fun y4 hf => ?_) (fun y4 hf => ?_)
  · refine j_iconst (v := 4) C (by decide) dX2_endEdit_42 ?_
    obtain rfl := Option.some.inj hf
    exact j_iret C hr hk ⟨Nat.le_of_ble_eq_true rfl, Nat.le_of_ble_eq_true rfl⟩ rfl dX2_endEdit_43
  · refine j_aload_n C 0 rfl dX2_endEdit_16 ?_
    refine j_get (q := 10) (kf := 1) (T := TX2) (N := 13) (RC := RX2) C m_10 ce_10 rfl in_X2 (by decide) (fun _ h9 => h9) fl_X2_25 rfl dX2_endEdit_17 ?_
    refine j_aload_n C 1 rfl dX2_endEdit_20 ?_
    refine j_aload_n C 1 rfl dX2_endEdit_21 ?_
    refine j_get (q := (ip i1)) (kf := 10) (T := TX4) (N := 13) (RC := RX4) C (mem_ip h2) ce_item rfl in_X4 (by decide) (fun _ h9 => h9) fl_X2_153 rfl dX2_endEdit_22 ?_
    obtain ⟨z5, h6, hf⟩ := bnd_some hf
    refine j_callV (q := 3) (As := [itv ad (some i1), .int (Kit (sKhi a 10 6 0) i1 10)]) (rest := []) C (k_X3_keep h6) cw_X3_keep ml_X2_156 m_3 ce_3 rfl rfl ⟨Nat.le_of_ble_eq_true rfl, Nat.le_of_ble_eq_true rfl⟩ ⟨Nat.le_of_ble_eq_true rfl, Nat.le_of_ble_eq_true rfl⟩ rfl (Nat.le_of_ble_eq_true rfl) dX2_endEdit_25 ?_
    refine j_aload_n C 1 rfl dX2_endEdit_28 ?_
    refine j_aload_n C 0 rfl dX2_endEdit_29 ?_
    refine j_get (q := 10) (kf := 8) (T := TX2) (N := 13) (RC := RX2) C m_10 ce_10 rfl in_X2 (by decide) (fun _ h9 => h9) fl_X2_65 rfl dX2_endEdit_30 ?_
    obtain ⟨h11, hf⟩ := gd_some hf
    have h11 := of_decide_eq_true h11
    refine put_X4_10 C h11 fl_X2_153 rfl rfl dX2_endEdit_33 ?_
    refine j_aload_n C 0 rfl dX2_endEdit_36 ?_
    refine j_iconst (v := 2) C (by decide) dX2_endEdit_37 ?_
    refine j_iconst (v := 1) C (by decide) dX2_endEdit_38 ?_
    obtain ⟨z12, h13, hf⟩ := bnd_some hf
    refine j_callV (q := 10) (As := [.int 2, .int 1]) (rest := []) C (k_X2_count h13) cw_X2_count ml_X2_83 m_10 ce_10 rfl rfl ⟨Nat.le_of_ble_eq_true rfl, Nat.le_of_ble_eq_true rfl⟩ ⟨Nat.le_of_ble_eq_true rfl, Nat.le_of_ble_eq_true rfl⟩ rfl (Nat.le_of_ble_eq_true rfl) dX2_endEdit_39 ?_
    refine j_iconst (v := 4) C (by decide) dX2_endEdit_42 ?_
    obtain rfl := Option.some.inj hf
    exact j_iret C hr hk ⟨Nat.le_of_ble_eq_true rfl, Nat.le_of_ble_eq_true rfl⟩ rfl dX2_endEdit_43
set_option maxRecDepth 100000 in
set_option maxHeartbeats 4000000 in
theorem w_X2_enteredCode_4 {b : MS} {p : Program} {l : Launch} {e : Env} {s : State} {m : MethodId} {args : Array Value} {below : List Frame} {meth : Method} {c : Code} {G : GT} {A : Nat → Prop} {ad : Nat → Nat} (C : CX G A RX2 cX2_enteredCode 3 p s m args c) (hr : meth.sig.returnType = (some .int)) (hk : meth.locks = false) {rr : Int32} (c4 : KS → Int32 → Int32 → Option Int32) (K4 : ∀ (a : KS) (v1 : Int32) (v2 : Int32), c4 a v1 v2 = some rr → J p l e (RM 1) s m args below meth c G A 3 (MQ below (QV (some (.int rr)) (PosW G ad a b A) A) args s 0 0 A) 0 0 ad a b 4 [(0, .ref (ad 10)), (1, .int v1), (2, .int v2)] []) (a : KS) (v1 : Int32) (v2 : Int32) (hf : f_X2_enteredCode_4 c4 a v1 v2 = some rr) : J p l e (RM 1) s m args below meth c G A 3 (MQ below (QV (some (.int rr)) (PosW G ad a b A) A) args s 0 0 A) 0 0 ad a b 4 [(0, .ref (ad 10)), (1, .int v1), (2, .int v2)] [] := by
  unfold f_X2_enteredCode_4 at hf
  refine j_iload_n C 2 rfl dX2_enteredCode_4 ?_
  refine j_iconst (v := 4) C (by decide) dX2_enteredCode_5 ?_
  refine j_icmp_ge C 26 dX2_enteredCode_6 (by decide) hf (fun y1 hf => ?_) (fun y1 hf => ?_)
  · refine j_iload_n C 1 rfl dX2_enteredCode_26 ?_
    obtain rfl := Option.some.inj hf
    exact j_iret C hr hk ⟨Nat.le_of_ble_eq_true rfl, Nat.le_of_ble_eq_true rfl⟩ rfl dX2_enteredCode_27
  · refine j_bipush (v := 10) C (by decide) dX2_enteredCode_9 ?_
    refine j_iload_n C 1 rfl dX2_enteredCode_11 ?_
    refine j_imul C dX2_enteredCode_12 ?_
    refine j_aload_n C 0 rfl dX2_enteredCode_13 ?_
    refine j_iload_n C 2 rfl dX2_enteredCode_14 ?_
    obtain ⟨z2, h3, hf⟩ := bnd_some hf
    refine j_callV (q := 10) (As := [.int v2]) (rest := [.int (10 * v1)]) C (k_X2_digit h3) cw_X2_digit ml_X2_89 m_10 ce_10 rfl rfl ⟨Nat.le_of_ble_eq_true rfl, Nat.le_of_ble_eq_true rfl⟩ ⟨Nat.le_of_ble_eq_true rfl, Nat.le_of_ble_eq_true rfl⟩ rfl (Nat.le_of_ble_eq_true rfl) dX2_enteredCode_15 ?_
    refine j_iadd C dX2_enteredCode_18 ?_
    refine j_letI hf (fun x5 hf => ?_)
    refine j_istore_n (i := 1) (lv' := [(1, .int x5), (0, .ref (ad 10)), (2, .int v2)]) C dX2_enteredCode_19 rfl (by decide) rfl ?_
    refine j_iinc (v := v2 + 1) (lv' := [(2, .int (v2 + 1)), (1, .int x5), (0, .ref (ad 10))]) C 2 rfl rfl (by decide) rfl dX2_enteredCode_20 ?_
    refine j_goto C 4 dX2_enteredCode_23 (by decide) ?_
    refine j_sub [2, 1, 0] rfl ?_
    exact K4 a x5 (v2 + 1) hf
theorem wl_X2_enteredCode_4 {b : MS} {p : Program} {l : Launch} {e : Env} {s : State} {m : MethodId} {args : Array Value} {below : List Frame} {meth : Method} {c : Code} {G : GT} {A : Nat → Prop} {ad : Nat → Nat} (C : CX G A RX2 cX2_enteredCode 3 p s m args c) (hr : meth.sig.returnType = (some .int)) (hk : meth.locks = false) {rr : Int32} (fuel : Nat)   : ∀ (a : KS) (v1 : Int32) (v2 : Int32), l_X2_enteredCode_4 fuel  a v1 v2 = some rr → J p l e (RM 1) s m args below meth c G A 3 (MQ below (QV (some (.int rr)) (PosW G ad a b A) A) args s 0 0 A) 0 0 ad a b 4 [(0, .ref (ad 10)), (1, .int v1), (2, .int v2)] [] := by
  induction fuel with
  | zero => intro a v1 v2 hf; cases hf
  | succ n ih =>
    intro a v1 v2 hf
    have hf : f_X2_enteredCode_4 (l_X2_enteredCode_4 n ) a v1 v2 = some rr := hf
    exact w_X2_enteredCode_4 C hr hk (l_X2_enteredCode_4 n ) ih a v1 v2 hf
set_option maxRecDepth 100000 in
set_option maxHeartbeats 4000000 in
theorem k_X2_enteredCode {l : Launch} {G : GT} {ad : Nat → Nat} {a : KS} {b : MS} {rr : Int32} (hf : f_X2_enteredCode a = some rr) : MT l G yX2_enteredCode cX2_enteredCode 3 (some .int) (RM 1) [.ref (ad 10)] ad a b (some (.int rr)) a b := by
  refine MT_of (by decide) (Nat.le_of_ble_eq_true rfl) ?_
  intro p e s m args below meth c A C hr hk
  unfold f_X2_enteredCode at hf
  refine j_iconst (v := 0) C (by decide) dX2_enteredCode_0 ?_
  refine j_istore_n (i := 1) (lv' := [(1, .int 0), (0, .ref (ad 10))]) C dX2_enteredCode_1 rfl (by decide) rfl ?_
  refine j_iconst (v := 0) C (by decide) dX2_enteredCode_2 ?_
  refine j_istore_n (i := 2) (lv' := [(2, .int 0), (1, .int 0), (0, .ref (ad 10))]) C dX2_enteredCode_3 rfl (by decide) rfl ?_
  refine j_sub [2, 1, 0] rfl ?_
  exact wl_X2_enteredCode_4 C hr hk FU a 0 0 hf
set_option maxRecDepth 100000 in
set_option maxHeartbeats 4000000 in
theorem k_X2_countWrongCode {l : Launch} {G : GT} {ad : Nat → Nat} {a : KS} {b : MS} {rr : KS} (hf : f_X2_countWrongCode a = some rr) : MT l G yX2_countWrongCode cX2_countWrongCode 1 none (RM 1) [.ref (ad 10)] ad a b (none) rr b := by
  refine MT_of (by decide) (Nat.le_of_ble_eq_true rfl) ?_
  intro p e s m args below meth c A C hr hk
  unfold f_X2_countWrongCode at hf
  refine j_aload_n C 0 rfl dX2_countWrongCode_0 ?_
  refine j_iconst (v := 4) C (by decide) dX2_countWrongCode_1 ?_
  refine j_iconst (v := 1) C (by decide) dX2_countWrongCode_2 ?_
  obtain ⟨z1, h2, hf⟩ := bnd_some hf
  refine j_callV (q := 10) (As := [.int 4, .int 1]) (rest := []) C (k_X2_count h2) cw_X2_count ml_X2_83 m_10 ce_10 rfl rfl ⟨Nat.le_of_ble_eq_true rfl, Nat.le_of_ble_eq_true rfl⟩ ⟨Nat.le_of_ble_eq_true rfl, Nat.le_of_ble_eq_true rfl⟩ rfl (Nat.le_of_ble_eq_true rfl) dX2_countWrongCode_3 ?_
  refine j_aload_n C 0 rfl dX2_countWrongCode_6 ?_
  refine j_dup C rfl dX2_countWrongCode_7 ?_
  refine j_get (q := 10) (kf := 12) (T := TX2) (N := 13) (RC := RX2) C m_10 ce_10 rfl in_X2 (by decide) (fun _ h9 => h9) fl_X2_175 rfl dX2_countWrongCode_8 ?_
  refine j_iconst (v := 1) C (by decide) dX2_countWrongCode_11 ?_
  refine j_iadd C dX2_countWrongCode_12 ?_
  refine put_X2_12 C fl_X2_175 rfl rfl dX2_countWrongCode_13 ?_
  refine j_aload_n C 0 rfl dX2_countWrongCode_16 ?_
  refine j_get (q := 10) (kf := 12) (T := TX2) (N := 13) (RC := RX2) C m_10 ce_10 rfl in_X2 (by decide) (fun _ h9 => h9) fl_X2_175 rfl dX2_countWrongCode_17 ?_
  refine j_iconst (v := 3) C (by decide) dX2_countWrongCode_20 ?_
  refine j_icmp_lt C 41 dX2_countWrongCode_21 (by decide) hf (fun y6 hf => ?_) (fun y6 hf => ?_)
  · obtain rfl := Option.some.inj hf
    exact j_vret C hr hk ⟨Nat.le_of_ble_eq_true rfl, Nat.le_of_ble_eq_true rfl⟩ rfl dX2_countWrongCode_41
  · refine j_aload_n C 0 rfl dX2_countWrongCode_24 ?_
    refine j_iconst (v := 0) C (by decide) dX2_countWrongCode_25 ?_
    refine put_X2_12 C fl_X2_175 rfl rfl dX2_countWrongCode_26 ?_
    refine j_aload_n C 0 rfl dX2_countWrongCode_29 ?_
    refine j_bipush (v := 30) C (by decide) dX2_countWrongCode_30 ?_
    refine put_X2_11 C fl_X2_162 rfl rfl dX2_countWrongCode_32 ?_
    refine j_aload_n C 0 rfl dX2_countWrongCode_35 ?_
    refine j_iconst (v := 5) C (by decide) dX2_countWrongCode_36 ?_
    refine j_iconst (v := 1) C (by decide) dX2_countWrongCode_37 ?_
    obtain ⟨z7, h8, hf⟩ := bnd_some hf
    refine j_callV (q := 10) (As := [.int 5, .int 1]) (rest := []) C (k_X2_count h8) cw_X2_count ml_X2_83 m_10 ce_10 rfl rfl ⟨Nat.le_of_ble_eq_true rfl, Nat.le_of_ble_eq_true rfl⟩ ⟨Nat.le_of_ble_eq_true rfl, Nat.le_of_ble_eq_true rfl⟩ rfl (Nat.le_of_ble_eq_true rfl) dX2_countWrongCode_38 ?_
    obtain rfl := Option.some.inj hf
    exact j_vret C hr hk ⟨Nat.le_of_ble_eq_true rfl, Nat.le_of_ble_eq_true rfl⟩ rfl dX2_countWrongCode_41
set_option maxRecDepth 100000 in
set_option maxHeartbeats 4000000 in
theorem k_X2_endDigit {l : Launch} {G : GT} {ad : Nat → Nat} {a : KS} {v1 : Option Nat} {b : MS} {rr : Int32 × KS} (hf : f_X2_endDigit a v1 = some rr) : MT l G yX2_endDigit cX2_endDigit 2 (some .int) (RM 2) [.ref (ad 10), itv ad v1] ad a b (some (.int rr.1)) rr.2 b := by
  refine MT_of2 (lv := [(0, .ref (ad 10)), (1, itv ad v1)]) (by decide) (by simp only [lg_sl, List.flatMap_cons, List.flatMap_nil, itv_cat]; exact Nat.le_of_ble_eq_true rfl) (by simp only [lv_args, itv_cat] <;> rfl) ?_
  intro p e s m args below meth c A C hr hk
  unfold f_X2_endDigit at hf
  refine j_aload_n C 0 rfl dX2_endDigit_0 ?_
  refine j_get (q := 10) (kf := 9) (T := TX2) (N := 13) (RC := RX2) C m_10 ce_10 rfl in_X2 (by decide) (fun _ h9 => h9) fl_X2_68 rfl dX2_endDigit_1 ?_
  refine j_iconst (v := 3) C (by decide) dX2_endDigit_4 ?_
  refine j_icmp_ge C 21 dX2_endDigit_5 (by decide) hf (fun y1 hf => ?_) (fun y1 hf => ?_)
  · refine j_aload_n C 0 rfl dX2_endDigit_21 ?_
    refine j_iconst (v := 0) C (by decide) dX2_endDigit_22 ?_
    refine put_X2_6 C fl_X2_48 rfl rfl dX2_endDigit_23 ?_
    refine j_aload_n C 0 rfl dX2_endDigit_26 ?_
    obtain ⟨z2, h3, hf⟩ := bnd_some hf
    refine j_callV (q := 10) (As := []) (rest := []) C (k_X2_enteredCode h3) cw_X2_enteredCode ml_X2_165 m_10 ce_10 rfl rfl ⟨Nat.le_of_ble_eq_true rfl, Nat.le_of_ble_eq_true rfl⟩ ⟨Nat.le_of_ble_eq_true rfl, Nat.le_of_ble_eq_true rfl⟩ rfl (Nat.le_of_ble_eq_true rfl) dX2_endDigit_27 ?_
    refine j_aload_nq C 1 rfl dX2_endDigit_30 ?_
    obtain ⟨i5, e7, h6, hg⟩ := odr_some hf
    clear hf
    subst e7
    have hf := hg
    clear hg
    refine j_get (q := (ip i5)) (kf := 11) (T := TX4) (N := 13) (RC := RX4) C (mem_ip h6) ce_item rfl in_X4 (by decide) (fun _ h9 => h9) fl_X2_168 rfl dX2_endDigit_31 ?_
    refine j_icmp_ne C 50 dX2_endDigit_34 (by decide) hf (fun y8 hf => ?_) (fun y8 hf => ?_)
    · refine j_aload_n C 0 rfl dX2_endDigit_50 ?_
      obtain ⟨z9, h10, hf⟩ := bnd_some hf
      refine j_callV (q := 10) (As := []) (rest := []) C (k_X2_countWrongCode h10) cw_X2_countWrongCode ml_X2_178 m_10 ce_10 rfl rfl ⟨Nat.le_of_ble_eq_true rfl, Nat.le_of_ble_eq_true rfl⟩ ⟨Nat.le_of_ble_eq_true rfl, Nat.le_of_ble_eq_true rfl⟩ rfl (Nat.le_of_ble_eq_true rfl) dX2_endDigit_51 ?_
      refine j_bipush (v := 8) C (by decide) dX2_endDigit_54 ?_
      obtain rfl := Option.some.inj hf
      exact j_iret C hr hk ⟨Nat.le_of_ble_eq_true rfl, Nat.le_of_ble_eq_true rfl⟩ rfl dX2_endDigit_56
    · refine j_aload_n C 1 rfl dX2_endDigit_37 ?_
      refine j_iconst (v := 1) C (by decide) dX2_endDigit_38 ?_
      obtain ⟨h15, hf⟩ := gd_some hf
      refine put_X4_12 C h6 fl_X2_171 (okz_n h15) (okz_f h15) dX2_endDigit_39 ?_
      refine j_aload_n C 0 rfl dX2_endDigit_42 ?_
      refine j_iconst (v := 0) C (by decide) dX2_endDigit_43 ?_
      refine put_X2_12 C fl_X2_175 rfl rfl dX2_endDigit_44 ?_
      refine j_bipush (v := 7) C (by decide) dX2_endDigit_47 ?_
      obtain rfl := Option.some.inj hf
      exact j_iret C hr hk ⟨Nat.le_of_ble_eq_true rfl, Nat.le_of_ble_eq_true rfl⟩ rfl dX2_endDigit_49
  · refine j_aload_n C 0 rfl dX2_endDigit_8 ?_
    refine j_dup C rfl dX2_endDigit_9 ?_
    refine j_get (q := 10) (kf := 9) (T := TX2) (N := 13) (RC := RX2) C m_10 ce_10 rfl in_X2 (by decide) (fun _ h9 => h9) fl_X2_68 rfl dX2_endDigit_10 ?_
    refine j_iconst (v := 1) C (by decide) dX2_endDigit_13 ?_
    refine j_iadd C dX2_endDigit_14 ?_
    refine put_X2_9 C fl_X2_68 rfl rfl dX2_endDigit_15 ?_
    refine j_bipush (v := 6) C (by decide) dX2_endDigit_18 ?_
    obtain rfl := Option.some.inj hf
    exact j_iret C hr hk ⟨Nat.le_of_ble_eq_true rfl, Nat.le_of_ble_eq_true rfl⟩ rfl dX2_endDigit_20
set_option maxRecDepth 100000 in
set_option maxHeartbeats 4000000 in
theorem w_X2_beginCode_22 {b : MS} {p : Program} {l : Launch} {e : Env} {s : State} {m : MethodId} {args : Array Value} {below : List Frame} {meth : Method} {c : Code} {G : GT} {A : Nat → Prop} {ad : Nat → Nat} (C : CX G A RX2 cX2_beginCode 2 p s m args c) (hr : meth.sig.returnType = (some .int)) (hk : meth.locks = false) {rr : Int32 × KS} (c22 : KS → Int32 → Option (Int32 × KS)) (K22 : ∀ (a : KS) (v1 : Int32), c22 a v1 = some rr → J p l e (RM 1) s m args below meth c G A 2 (MQ below (QV (some (.int rr.1)) (PosW G ad rr.2 b A) A) args s 0 0 A) 0 0 ad a b 22 [(0, .ref (ad 10)), (1, .int v1)] []) (a : KS) (v1 : Int32) (hf : f_X2_beginCode_22 c22 a v1 = some rr) : J p l e (RM 1) s m args below meth c G A 2 (MQ below (QV (some (.int rr.1)) (PosW G ad rr.2 b A) A) args s 0 0 A) 0 0 ad a b 22 [(0, .ref (ad 10)), (1, .int v1)] [] := by
  unfold f_X2_beginCode_22 at hf
  refine j_iload_n C 1 rfl dX2_beginCode_22 ?_
  refine j_iconst (v := 4) C (by decide) dX2_beginCode_23 ?_
  refine j_icmp_ge C 39 dX2_beginCode_24 (by decide) hf (fun y1 hf => ?_) (fun y1 hf => ?_)
  · refine j_iconst (v := 5) C (by decide) dX2_beginCode_39 ?_
    obtain rfl := Option.some.inj hf
    exact j_iret C hr hk ⟨Nat.le_of_ble_eq_true rfl, Nat.le_of_ble_eq_true rfl⟩ rfl dX2_beginCode_40
  · refine j_aload_n C 0 rfl dX2_beginCode_27 ?_
    refine j_iload_n C 1 rfl dX2_beginCode_28 ?_
    refine j_iconst (v := 0) C (by decide) dX2_beginCode_29 ?_
    obtain ⟨z2, h3, hf⟩ := bnd_some hf
    refine j_callV (q := 10) (As := [.int v1, .int 0]) (rest := []) C (k_X2_changeDigit h3) cw_X2_changeDigit ml_X2_71 m_10 ce_10 rfl rfl ⟨Nat.le_of_ble_eq_true rfl, Nat.le_of_ble_eq_true rfl⟩ ⟨Nat.le_of_ble_eq_true rfl, Nat.le_of_ble_eq_true rfl⟩ rfl (Nat.le_of_ble_eq_true rfl) dX2_beginCode_30 ?_
    refine j_iinc (v := v1 + 1) (lv' := [(1, .int (v1 + 1)), (0, .ref (ad 10))]) C 1 rfl rfl (by decide) rfl dX2_beginCode_33 ?_
    refine j_goto C 22 dX2_beginCode_36 (by decide) ?_
    refine j_sub [1, 0] rfl ?_
    exact K22 z2 (v1 + 1) hf
theorem wl_X2_beginCode_22 {b : MS} {p : Program} {l : Launch} {e : Env} {s : State} {m : MethodId} {args : Array Value} {below : List Frame} {meth : Method} {c : Code} {G : GT} {A : Nat → Prop} {ad : Nat → Nat} (C : CX G A RX2 cX2_beginCode 2 p s m args c) (hr : meth.sig.returnType = (some .int)) (hk : meth.locks = false) {rr : Int32 × KS} (fuel : Nat)   : ∀ (a : KS) (v1 : Int32), l_X2_beginCode_22 fuel  a v1 = some rr → J p l e (RM 1) s m args below meth c G A 2 (MQ below (QV (some (.int rr.1)) (PosW G ad rr.2 b A) A) args s 0 0 A) 0 0 ad a b 22 [(0, .ref (ad 10)), (1, .int v1)] [] := by
  induction fuel with
  | zero => intro a v1 hf; cases hf
  | succ n ih =>
    intro a v1 hf
    have hf : f_X2_beginCode_22 (l_X2_beginCode_22 n ) a v1 = some rr := hf
    exact w_X2_beginCode_22 C hr hk (l_X2_beginCode_22 n ) ih a v1 hf
set_option maxRecDepth 100000 in
set_option maxHeartbeats 4000000 in
theorem k_X2_beginCode {l : Launch} {G : GT} {ad : Nat → Nat} {a : KS} {b : MS} {rr : Int32 × KS} (hf : f_X2_beginCode a = some rr) : MT l G yX2_beginCode cX2_beginCode 2 (some .int) (RM 1) [.ref (ad 10)] ad a b (some (.int rr.1)) rr.2 b := by
  refine MT_of (by decide) (Nat.le_of_ble_eq_true rfl) ?_
  intro p e s m args below meth c A C hr hk
  unfold f_X2_beginCode at hf
  refine j_aload_n C 0 rfl dX2_beginCode_0 ?_
  refine j_get (q := 10) (kf := 11) (T := TX2) (N := 13) (RC := RX2) C m_10 ce_10 rfl in_X2 (by decide) (fun _ h9 => h9) fl_X2_162 rfl dX2_beginCode_1 ?_
  refine j_if_le C 10 dX2_beginCode_4 (by decide) hf (fun y1 hf => ?_) (fun y1 hf => ?_)
  · refine j_aload_n C 0 rfl dX2_beginCode_10 ?_
    refine j_iconst (v := 2) C (by decide) dX2_beginCode_11 ?_
    refine put_X2_6 C fl_X2_48 rfl rfl dX2_beginCode_12 ?_
    refine j_aload_n C 0 rfl dX2_beginCode_15 ?_
    refine j_iconst (v := 0) C (by decide) dX2_beginCode_16 ?_
    refine put_X2_9 C fl_X2_68 rfl rfl dX2_beginCode_17 ?_
    refine j_iconst (v := 0) C (by decide) dX2_beginCode_20 ?_
    refine j_istore_n (i := 1) (lv' := [(1, .int 0), (0, .ref (ad 10))]) C dX2_beginCode_21 rfl (by decide) rfl ?_
    refine j_sub [1, 0] rfl ?_
    exact wl_X2_beginCode_22 C hr hk FU (sKhi (sKhi a 10 6 2) 10 9 0) 0 hf
  · refine j_bipush (v := 9) C (by decide) dX2_beginCode_7 ?_
    obtain rfl := Option.some.inj hf
    exact j_iret C hr hk ⟨Nat.le_of_ble_eq_true rfl, Nat.le_of_ble_eq_true rfl⟩ rfl dX2_beginCode_9
set_option maxRecDepth 100000 in
set_option maxHeartbeats 4000000 in
theorem k_X2_use {l : Launch} {G : GT} {ad : Nat → Nat} {a : KS} {v1 : Option Nat} {b : MS} {rr : Int32 × KS} (hf : f_X2_use a v1 = some rr) : MT l G yX2_use cX2_use 2 (some .int) (RM 0) [.ref (ad 10), itv ad v1] ad a b (some (.int rr.1)) rr.2 b := by
  refine MT_of2 (lv := [(0, .ref (ad 10)), (1, itv ad v1)]) (by decide) (by simp only [lg_sl, List.flatMap_cons, List.flatMap_nil, itv_cat]; exact Nat.le_of_ble_eq_true rfl) (by simp only [lv_args, itv_cat] <;> rfl) ?_
  intro p e s m args below meth c A C hr hk
  unfold f_X2_use at hf
  refine j_aload_nq C 1 rfl dX2_use_0 ?_
  obtain ⟨i1, e3, h2, hg⟩ := odr_some hf
  clear hf
  subst e3
  have hf := hg
  clear hg
  refine j_get (q := (ip i1)) (kf := 1) (T := TX4) (N := 13) (RC := RX4) C (mem_ip h2) ce_item rfl in_X4 (by decide) (fun _ h9 => h9) fl_X2_113 rfl dX2_use_1 ?_
  refine j_if_ne C 19 dX2_use_4 (by decide) hf (fun y4 hf => ?_) (fun y4 hf => ?_)
  · refine j_aload_n C 0 rfl dX2_use_19 ?_
    refine j_iconst (v := 1) C (by decide) dX2_use_20 ?_
    refine put_X2_6 C fl_X2_48 rfl rfl dX2_use_21 ?_
    refine j_aload_n C 0 rfl dX2_use_24 ?_
    refine j_aload_n C 1 rfl dX2_use_25 ?_
    refine j_get (q := (ip i1)) (kf := 10) (T := TX4) (N := 13) (RC := RX4) C (mem_ip h2) ce_item rfl in_X4 (by decide) (fun _ h9 => h9) fl_X2_153 rfl dX2_use_26 ?_
    refine put_X2_8 C fl_X2_65 rfl rfl dX2_use_29 ?_
    refine j_iconst (v := 3) C (by decide) dX2_use_32 ?_
    obtain rfl := Option.some.inj hf
    exact j_iret C hr hk ⟨Nat.le_of_ble_eq_true rfl, Nat.le_of_ble_eq_true rfl⟩ rfl dX2_use_33
  · refine j_aload_n C 0 rfl dX2_use_7 ?_
    refine j_aload_n C 1 rfl dX2_use_8 ?_
    refine put_X2_5 (o := (some i1)) C fl_X2_35 dX2_use_9 ?_
    refine j_aload_n C 0 rfl dX2_use_12 ?_
    refine j_iconst (v := 0) C (by decide) dX2_use_13 ?_
    refine put_X2_7 C fl_X2_38 rfl rfl dX2_use_14 ?_
    refine j_iconst (v := 2) C (by decide) dX2_use_17 ?_
    obtain rfl := Option.some.inj hf
    exact j_iret C hr hk ⟨Nat.le_of_ble_eq_true rfl, Nat.le_of_ble_eq_true rfl⟩ rfl dX2_use_18
set_option maxRecDepth 100000 in
set_option maxHeartbeats 4000000 in
theorem k_X2_pressKnob {l : Launch} {G : GT} {ad : Nat → Nat} {a : KS} {b : MS} {rr : Int32 × KS} (hf : f_X2_pressKnob a = some rr) : MT l G yX2_pressKnob cX2_pressKnob 2 (some .int) (RM 4) [.ref (ad 10)] ad a b (some (.int rr.1)) rr.2 b := by
  refine MT_of (by decide) (Nat.le_of_ble_eq_true rfl) ?_
  intro p e s m args below meth c A C hr hk
  unfold f_X2_pressKnob at hf
  refine j_aload_n C 0 rfl dX2_pressKnob_0 ?_
  refine j_iconst (v := 0) C (by decide) dX2_pressKnob_1 ?_
  refine put_X2_10 C fl_X2_75 rfl rfl dX2_pressKnob_2 ?_
  refine j_aload_n C 0 rfl dX2_pressKnob_5 ?_
  refine j_iconst (v := 1) C (by decide) dX2_pressKnob_6 ?_
  refine j_iconst (v := 1) C (by decide) dX2_pressKnob_7 ?_
  obtain ⟨z1, h2, hf⟩ := bnd_some hf
  refine j_callV (q := 10) (As := [.int 1, .int 1]) (rest := []) C (k_X2_count h2) cw_X2_count ml_X2_83 m_10 ce_10 rfl rfl ⟨Nat.le_of_ble_eq_true rfl, Nat.le_of_ble_eq_true rfl⟩ ⟨Nat.le_of_ble_eq_true rfl, Nat.le_of_ble_eq_true rfl⟩ rfl (Nat.le_of_ble_eq_true rfl) dX2_pressKnob_8 ?_
  refine j_aload_n C 0 rfl dX2_pressKnob_11 ?_
  obtain ⟨z6, h7, hf⟩ := bnd_some hf
  refine j_callV (q := 10) (As := []) (rest := []) C (k_X2_chosenItem h7) cw_X2_chosenItem ml_X2_109 m_10 ce_10 rfl rfl ⟨Nat.le_of_ble_eq_true rfl, Nat.le_of_ble_eq_true rfl⟩ ⟨Nat.le_of_ble_eq_true rfl, Nat.le_of_ble_eq_true rfl⟩ rfl (Nat.le_of_ble_eq_true rfl) dX2_pressKnob_12 ?_
  refine j_astore_nq (i := 1) (lv' := [(1, itv ad z6), (0, .ref (ad 10))]) (o := z6) C dX2_pressKnob_15 rfl (by decide) rfl ?_
  refine j_aload_nq C 0 rfl dX2_pressKnob_16 ?_
  refine j_ifnonnull C 25 dX2_pressKnob_17 (by decide) hf (fun e11 hg => ?_) (fun i10 e11 hg => ?_)
  · clear hf
    subst e11
    have hf := hg
    clear hg
    refine j_aload_n C 1 rfl dX2_pressKnob_20 ?_
    obtain ⟨z12, h13, hf⟩ := bnd_some hf
    refine j_callV (q := 10) (As := []) (rest := []) C (k_X2_goBack h13) cw_X2_goBack ml_X2_128 m_10 ce_10 rfl rfl ⟨Nat.le_of_ble_eq_true rfl, Nat.le_of_ble_eq_true rfl⟩ ⟨Nat.le_of_ble_eq_true rfl, Nat.le_of_ble_eq_true rfl⟩ rfl (Nat.le_of_ble_eq_true rfl) dX2_pressKnob_21 ?_
    obtain rfl := Option.some.inj hf
    exact j_iret C hr hk ⟨Nat.le_of_ble_eq_true rfl, Nat.le_of_ble_eq_true rfl⟩ rfl dX2_pressKnob_24
  · clear hf
    subst e11
    have hf := hg
    clear hg
    refine j_aload_n C 1 rfl dX2_pressKnob_25 ?_
    refine j_get (q := 10) (kf := 6) (T := TX2) (N := 13) (RC := RX2) C m_10 ce_10 rfl in_X2 (by decide) (fun _ h9 => h9) fl_X2_48 rfl dX2_pressKnob_26 ?_
    refine j_iconst (v := 1) C (by decide) dX2_pressKnob_29 ?_
    refine j_icmp_ne C 39 dX2_pressKnob_30 (by decide) hf (fun y17 hf => ?_) (fun y17 hf => ?_)
    · refine j_aload_n C 1 rfl dX2_pressKnob_39 ?_
      refine j_get (q := 10) (kf := 6) (T := TX2) (N := 13) (RC := RX2) C m_10 ce_10 rfl in_X2 (by decide) (fun _ h9 => h9) fl_X2_48 rfl dX2_pressKnob_40 ?_
      refine j_iconst (v := 2) C (by decide) dX2_pressKnob_43 ?_
      refine j_icmp_ne C 53 dX2_pressKnob_44 (by decide) hf (fun y18 hf => ?_) (fun y18 hf => ?_)
      · refine j_aload_n C 0 rfl dX2_pressKnob_53 ?_
        obtain ⟨h19, hf⟩ := gd_some hf
        have h19 := of_decide_eq_true h19
        obtain ⟨z20, h21, hf⟩ := bnd_some hf
        refine j_callV (q := (ip i10)) (As := []) (rest := []) C (k_X4_closed h21) cw_X4_closed ml_X2_138 (mem_ip h19) ce_item rfl rfl ⟨Nat.le_of_ble_eq_true rfl, Nat.le_of_ble_eq_true rfl⟩ ⟨Nat.le_of_ble_eq_true rfl, Nat.le_of_ble_eq_true rfl⟩ rfl (Nat.le_of_ble_eq_true rfl) dX2_pressKnob_54 ?_
        refine j_if_eq C 65 dX2_pressKnob_57 (by decide) hf (fun y23 hf => ?_) (fun y23 hf => ?_)
        · refine j_aload_n C 1 rfl dX2_pressKnob_65 ?_
          refine j_aload_n C 0 rfl dX2_pressKnob_66 ?_
          obtain ⟨z24, h25, hf⟩ := bnd_some hf
          refine j_callV (q := 10) (As := [itv ad (some i10)]) (rest := []) C (k_X2_use h25) cw_X2_use ml_X2_144 m_10 ce_10 rfl rfl ⟨Nat.le_of_ble_eq_true rfl, Nat.le_of_ble_eq_true rfl⟩ ⟨Nat.le_of_ble_eq_true rfl, Nat.le_of_ble_eq_true rfl⟩ rfl (Nat.le_of_ble_eq_true rfl) dX2_pressKnob_67 ?_
          obtain rfl := Option.some.inj hf
          exact j_iret C hr hk ⟨Nat.le_of_ble_eq_true rfl, Nat.le_of_ble_eq_true rfl⟩ rfl dX2_pressKnob_70
        · refine j_aload_n C 1 rfl dX2_pressKnob_60 ?_
          obtain ⟨z30, h31, hf⟩ := bnd_some hf
          refine j_callV (q := 10) (As := []) (rest := []) C (k_X2_beginCode h31) cw_X2_beginCode ml_X2_141 m_10 ce_10 rfl rfl ⟨Nat.le_of_ble_eq_true rfl, Nat.le_of_ble_eq_true rfl⟩ ⟨Nat.le_of_ble_eq_true rfl, Nat.le_of_ble_eq_true rfl⟩ rfl (Nat.le_of_ble_eq_true rfl) dX2_pressKnob_61 ?_
          obtain rfl := Option.some.inj hf
          exact j_iret C hr hk ⟨Nat.le_of_ble_eq_true rfl, Nat.le_of_ble_eq_true rfl⟩ rfl dX2_pressKnob_64
      · refine j_aload_n C 1 rfl dX2_pressKnob_47 ?_
        refine j_aload_n C 0 rfl dX2_pressKnob_48 ?_
        obtain ⟨z36, h37, hf⟩ := bnd_some hf
        refine j_callV (q := 10) (As := [itv ad (some i10)]) (rest := []) C (k_X2_endDigit h37) cw_X2_endDigit ml_X2_135 m_10 ce_10 rfl rfl ⟨Nat.le_of_ble_eq_true rfl, Nat.le_of_ble_eq_true rfl⟩ ⟨Nat.le_of_ble_eq_true rfl, Nat.le_of_ble_eq_true rfl⟩ rfl (Nat.le_of_ble_eq_true rfl) dX2_pressKnob_49 ?_
        obtain rfl := Option.some.inj hf
        exact j_iret C hr hk ⟨Nat.le_of_ble_eq_true rfl, Nat.le_of_ble_eq_true rfl⟩ rfl dX2_pressKnob_52
    · refine j_aload_n C 1 rfl dX2_pressKnob_33 ?_
      refine j_aload_n C 0 rfl dX2_pressKnob_34 ?_
      obtain ⟨z41, h42, hf⟩ := bnd_some hf
      refine j_callV (q := 10) (As := [itv ad (some i10)]) (rest := []) C (k_X2_endEdit h42) cw_X2_endEdit ml_X2_131 m_10 ce_10 rfl rfl ⟨Nat.le_of_ble_eq_true rfl, Nat.le_of_ble_eq_true rfl⟩ ⟨Nat.le_of_ble_eq_true rfl, Nat.le_of_ble_eq_true rfl⟩ rfl (Nat.le_of_ble_eq_true rfl) dX2_pressKnob_35 ?_
      obtain rfl := Option.some.inj hf
      exact j_iret C hr hk ⟨Nat.le_of_ble_eq_true rfl, Nat.le_of_ble_eq_true rfl⟩ rfl dX2_pressKnob_38
set_option maxRecDepth 100000 in
set_option maxHeartbeats 4000000 in
theorem k_X2_goHome {l : Launch} {G : GT} {ad : Nat → Nat} {a : KS} {b : MS} {rr : KS} (hf : f_X2_goHome a = some rr) : MT l G yX2_goHome cX2_goHome 1 none (RM 2) [.ref (ad 10)] ad a b (none) rr b := by
  refine MT_of (by decide) (Nat.le_of_ble_eq_true rfl) ?_
  intro p e s m args below meth c A C hr hk
  unfold f_X2_goHome at hf
  refine j_aload_n C 0 rfl dX2_goHome_0 ?_
  refine j_iconst (v := 0) C (by decide) dX2_goHome_1 ?_
  refine put_X2_6 C fl_X2_48 rfl rfl dX2_goHome_2 ?_
  refine j_aload_n C 0 rfl dX2_goHome_5 ?_
  refine j_aload_n C 0 rfl dX2_goHome_6 ?_
  refine j_get (q := 10) (kf := 0) (T := TX2) (N := 13) (RC := RX2) C m_10 ce_10 rfl in_X2 (by decide) (fun _ h9 => h9) fl_X2_21 rfl dX2_goHome_7 ?_
  refine j_get (q := 1) (kf := 0) (T := TX7) (N := 3) (RC := RX7) C m_1 ce_1 rfl in_X7 (by decide) (fun _ h9 => h9) fl_X2_29 rfl dX2_goHome_10 ?_
  refine put_X2_5 (o := (some 0)) C fl_X2_35 dX2_goHome_13 ?_
  refine j_aload_n C 0 rfl dX2_goHome_16 ?_
  refine j_iconst (v := 0) C (by decide) dX2_goHome_17 ?_
  refine put_X2_7 C fl_X2_38 rfl rfl dX2_goHome_18 ?_
  refine j_aload_n C 0 rfl dX2_goHome_21 ?_
  refine j_get (q := 10) (kf := 0) (T := TX2) (N := 13) (RC := RX2) C m_10 ce_10 rfl in_X2 (by decide) (fun _ h9 => h9) fl_X2_21 rfl dX2_goHome_22 ?_
  obtain ⟨z1, h2, hf⟩ := bnd_some hf
  refine j_callV (q := 1) (As := []) (rest := []) C (k_X7_closeAll h2) cw_X7_closeAll ml_X2_58 m_1 ce_1 rfl rfl ⟨Nat.le_of_ble_eq_true rfl, Nat.le_of_ble_eq_true rfl⟩ ⟨Nat.le_of_ble_eq_true rfl, Nat.le_of_ble_eq_true rfl⟩ rfl (Nat.le_of_ble_eq_true rfl) dX2_goHome_25 ?_
  obtain rfl := Option.some.inj hf
  exact j_vret C hr hk ⟨Nat.le_of_ble_eq_true rfl, Nat.le_of_ble_eq_true rfl⟩ rfl dX2_goHome_28
set_option maxRecDepth 100000 in
set_option maxHeartbeats 4000000 in
theorem w_X2_holdKnob_18 {b : MS} {p : Program} {l : Launch} {e : Env} {s : State} {m : MethodId} {args : Array Value} {below : List Frame} {meth : Method} {c : Code} {G : GT} {A : Nat → Prop} {ad : Nat → Nat} (C : CX G A RX2 cX2_holdKnob 2 p s m args c) (hr : meth.sig.returnType = (some .int)) (hk : meth.locks = false) {rr : Int32 × KS}   (a : KS) (v1 : Int32) (hf : f_X2_holdKnob_18 a v1 = some rr) : J p l e (RM 3) s m args below meth c G A 2 (MQ below (QV (some (.int rr.1)) (PosW G ad rr.2 b A) A) args s 0 0 A) 0 0 ad a b 18 [(0, .ref (ad 10)), (1, .int v1)] [] := by
  unfold f_X2_holdKnob_18 at hf
  refine j_aload_n C 0 rfl dX2_holdKnob_18 ?_
  refine j_iconst (v := 0) C (by decide) dX2_holdKnob_19 ?_
  refine put_X2_6 C fl_X2_48 rfl rfl dX2_holdKnob_20 ?_
  refine j_iload_n C 1 rfl dX2_holdKnob_23 ?_
  obtain rfl := Option.some.inj hf
  exact j_iret C hr hk ⟨Nat.le_of_ble_eq_true rfl, Nat.le_of_ble_eq_true rfl⟩ rfl dX2_holdKnob_24
set_option maxRecDepth 100000 in
set_option maxHeartbeats 4000000 in
theorem k_X2_holdKnob {l : Launch} {G : GT} {ad : Nat → Nat} {a : KS} {b : MS} {rr : Int32 × KS} (hf : f_X2_holdKnob a = some rr) : MT l G yX2_holdKnob cX2_holdKnob 2 (some .int) (RM 3) [.ref (ad 10)] ad a b (some (.int rr.1)) rr.2 b := by
  refine MT_of (by decide) (Nat.le_of_ble_eq_true rfl) ?_
  intro p e s m args below meth c A C hr hk
  unfold f_X2_holdKnob at hf
  refine j_aload_n C 0 rfl dX2_holdKnob_0 ?_
  refine j_get (q := 10) (kf := 6) (T := TX2) (N := 13) (RC := RX2) C m_10 ce_10 rfl in_X2 (by decide) (fun _ h9 => h9) fl_X2_48 rfl dX2_holdKnob_1 ?_
  refine j_istore_n (i := 1) (lv' := [(1, .int (Khi a 10 6)), (0, .ref (ad 10))]) C dX2_holdKnob_4 rfl (by decide) rfl ?_
  refine j_aload_n C 1 rfl dX2_holdKnob_5 ?_
  refine j_iconst (v := 0) C (by decide) dX2_holdKnob_6 ?_
  refine put_X2_10 C fl_X2_75 rfl rfl dX2_holdKnob_7 ?_
  refine j_iload_n C 0 rfl dX2_holdKnob_10 ?_
  refine j_if_ne C 18 dX2_holdKnob_11 (by decide) hf (fun y1 hf => ?_) (fun y1 hf => ?_)
  · refine j_sub [1, 0] rfl ?_
    exact w_X2_holdKnob_18 C hr hk (sKhi a 10 10 0) (Khi a 10 6) hf
  · refine j_aload_n C 1 rfl dX2_holdKnob_14 ?_
    obtain ⟨z2, h3, hf⟩ := bnd_some hf
    refine j_callV (q := 10) (As := []) (rest := []) C (k_X2_goHome h3) cw_X2_goHome ml_X2_181 m_10 ce_10 rfl rfl ⟨Nat.le_of_ble_eq_true rfl, Nat.le_of_ble_eq_true rfl⟩ ⟨Nat.le_of_ble_eq_true rfl, Nat.le_of_ble_eq_true rfl⟩ rfl (Nat.le_of_ble_eq_true rfl) dX2_holdKnob_15 ?_
    refine j_sub [1, 0] rfl ?_
    exact w_X2_holdKnob_18 C hr hk z2 (Khi a 10 6) hf
set_option maxRecDepth 100000 in
set_option maxHeartbeats 4000000 in
theorem w_X2_passTick_56 {b : MS} {p : Program} {l : Launch} {e : Env} {s : State} {m : MethodId} {args : Array Value} {below : List Frame} {meth : Method} {c : Code} {G : GT} {A : Nat → Prop} {ad : Nat → Nat} (C : CX G A RX2 cX2_passTick 2 p s m args c) (hr : meth.sig.returnType = (some .int)) (hk : meth.locks = false) {rr : Int32 × KS}   (a : KS) (v1 : Int32) (hf : f_X2_passTick_56 a v1 = some rr) : J p l e (RM 4) s m args below meth c G A 2 (MQ below (QV (some (.int rr.1)) (PosW G ad rr.2 b A) A) args s 0 0 A) 0 0 ad a b 56 [(0, .ref (ad 10)), (1, .int v1)] [] := by
  unfold f_X2_passTick_56 at hf
  refine j_aload_n C 0 rfl dX2_passTick_56 ?_
  refine j_get (q := 10) (kf := 10) (T := TX2) (N := 13) (RC := RX2) C m_10 ce_10 rfl in_X2 (by decide) (fun _ h9 => h9) fl_X2_75 rfl dX2_passTick_57 ?_
  refine j_aload_n C 0 rfl dX2_passTick_60 ?_
  refine j_iconst (v := 1) C (by decide) dX2_passTick_61 ?_
  obtain ⟨z1, h2, hf⟩ := bnd_some hf
  refine j_callV (q := 10) (As := [.int 1]) (rest := [.int (Khi a 10 10)]) C (k_X2_setting h2) cw_X2_setting ml_X2_100 m_10 ce_10 rfl rfl ⟨Nat.le_of_ble_eq_true rfl, Nat.le_of_ble_eq_true rfl⟩ ⟨Nat.le_of_ble_eq_true rfl, Nat.le_of_ble_eq_true rfl⟩ rfl (Nat.le_of_ble_eq_true rfl) dX2_passTick_62 ?_
  refine j_icmp_ne C 82 dX2_passTick_65 (by decide) hf (fun y4 hf => ?_) (fun y4 hf => ?_)
  · refine j_iload_n C 1 rfl dX2_passTick_82 ?_
    obtain rfl := Option.some.inj hf
    exact j_iret C hr hk ⟨Nat.le_of_ble_eq_true rfl, Nat.le_of_ble_eq_true rfl⟩ rfl dX2_passTick_83
  · refine j_aload_n C 0 rfl dX2_passTick_68 ?_
    obtain ⟨z5, h6, hf⟩ := bnd_some hf
    refine j_callV (q := 10) (As := []) (rest := []) C (k_X2_atHome h6) cw_X2_atHome ml_X2_187 m_10 ce_10 rfl rfl ⟨Nat.le_of_ble_eq_true rfl, Nat.le_of_ble_eq_true rfl⟩ ⟨Nat.le_of_ble_eq_true rfl, Nat.le_of_ble_eq_true rfl⟩ rfl (Nat.le_of_ble_eq_true rfl) dX2_passTick_69 ?_
    refine j_if_ne C 82 dX2_passTick_72 (by decide) hf (fun y8 hf => ?_) (fun y8 hf => ?_)
    · refine j_iload_n C 1 rfl dX2_passTick_82 ?_
      obtain rfl := Option.some.inj hf
      exact j_iret C hr hk ⟨Nat.le_of_ble_eq_true rfl, Nat.le_of_ble_eq_true rfl⟩ rfl dX2_passTick_83
    · refine j_aload_n C 0 rfl dX2_passTick_75 ?_
      obtain ⟨z9, h10, hf⟩ := bnd_some hf
      refine j_callV (q := 10) (As := []) (rest := []) C (k_X2_goHome h10) cw_X2_goHome ml_X2_181 m_10 ce_10 rfl rfl ⟨Nat.le_of_ble_eq_true rfl, Nat.le_of_ble_eq_true rfl⟩ ⟨Nat.le_of_ble_eq_true rfl, Nat.le_of_ble_eq_true rfl⟩ rfl (Nat.le_of_ble_eq_true rfl) dX2_passTick_76 ?_
      refine j_iinc (v := v1 + 1) (lv' := [(1, .int (v1 + 1)), (0, .ref (ad 10))]) C 1 rfl rfl (by decide) rfl dX2_passTick_79 ?_
      refine j_iload_n C 0 rfl dX2_passTick_82 ?_
      obtain rfl := Option.some.inj hf
      exact j_iret C hr hk ⟨Nat.le_of_ble_eq_true rfl, Nat.le_of_ble_eq_true rfl⟩ rfl dX2_passTick_83
set_option maxRecDepth 100000 in
set_option maxHeartbeats 4000000 in
theorem w_X2_passTick_29 {b : MS} {p : Program} {l : Launch} {e : Env} {s : State} {m : MethodId} {args : Array Value} {below : List Frame} {meth : Method} {c : Code} {G : GT} {A : Nat → Prop} {ad : Nat → Nat} (C : CX G A RX2 cX2_passTick 2 p s m args c) (hr : meth.sig.returnType = (some .int)) (hk : meth.locks = false) {rr : Int32 × KS}   (a : KS) (v1 : Int32) (hf : f_X2_passTick_29 a v1 = some rr) : J p l e (RM 4) s m args below meth c G A 2 (MQ below (QV (some (.int rr.1)) (PosW G ad rr.2 b A) A) args s 0 0 A) 0 0 ad a b 29 [(0, .ref (ad 10)), (1, .int v1)] [] := by
  unfold f_X2_passTick_29 at hf
  refine j_aload_n C 0 rfl dX2_passTick_29 ?_
  refine j_get (q := 10) (kf := 10) (T := TX2) (N := 13) (RC := RX2) C m_10 ce_10 rfl in_X2 (by decide) (fun _ h9 => h9) fl_X2_75 rfl dX2_passTick_30 ?_
  refine j_aload_n C 0 rfl dX2_passTick_33 ?_
  refine j_iconst (v := 0) C (by decide) dX2_passTick_34 ?_
  obtain ⟨z1, h2, hf⟩ := bnd_some hf
  refine j_callV (q := 10) (As := [.int 0]) (rest := [.int (Khi a 10 10)]) C (k_X2_setting h2) cw_X2_setting ml_X2_100 m_10 ce_10 rfl rfl ⟨Nat.le_of_ble_eq_true rfl, Nat.le_of_ble_eq_true rfl⟩ ⟨Nat.le_of_ble_eq_true rfl, Nat.le_of_ble_eq_true rfl⟩ rfl (Nat.le_of_ble_eq_true rfl) dX2_passTick_35 ?_
  refine j_icmp_ne C 56 dX2_passTick_38 (by decide) hf (fun y4 hf => ?_) (fun y4 hf => ?_)
  · refine j_sub [0, 1] rfl ?_
    exact w_X2_passTick_56 C hr hk a v1 hf
  · refine j_aload_n C 0 rfl dX2_passTick_41 ?_
    refine j_get (q := 10) (kf := 6) (T := TX2) (N := 13) (RC := RX2) C m_10 ce_10 rfl in_X2 (by decide) (fun _ h9 => h9) fl_X2_48 rfl dX2_passTick_42 ?_
    refine j_if_eq C 56 dX2_passTick_45 (by decide) hf (fun y5 hf => ?_) (fun y5 hf => ?_)
    · refine j_sub [0, 1] rfl ?_
      exact w_X2_passTick_56 C hr hk a v1 hf
    · refine j_aload_n C 0 rfl dX2_passTick_48 ?_
      refine j_iconst (v := 0) C (by decide) dX2_passTick_49 ?_
      refine put_X2_6 C fl_X2_48 rfl rfl dX2_passTick_50 ?_
      refine j_iinc (v := v1 + 1) (lv' := [(1, .int (v1 + 1)), (0, .ref (ad 10))]) C 1 rfl rfl (by decide) rfl dX2_passTick_53 ?_
      refine j_sub [1, 0] rfl ?_
      exact w_X2_passTick_56 C hr hk (sKhi a 10 6 0) (v1 + 1) hf
set_option maxRecDepth 100000 in
set_option maxHeartbeats 4000000 in
theorem k_X2_passTick {l : Launch} {G : GT} {ad : Nat → Nat} {a : KS} {b : MS} {rr : Int32 × KS} (hf : f_X2_passTick a = some rr) : MT l G yX2_passTick cX2_passTick 2 (some .int) (RM 4) [.ref (ad 10)] ad a b (some (.int rr.1)) rr.2 b := by
  refine MT_of (by decide) (Nat.le_of_ble_eq_true rfl) ?_
  intro p e s m args below meth c A C hr hk
  unfold f_X2_passTick at hf
  refine j_iconst (v := 0) C (by decide) dX2_passTick_0 ?_
  refine j_istore_n (i := 1) (lv' := [(1, .int 0), (0, .ref (ad 10))]) C dX2_passTick_1 rfl (by decide) rfl ?_
  refine j_aload_n C 1 rfl dX2_passTick_2 ?_
  refine j_dup C rfl dX2_passTick_3 ?_
  refine j_get (q := 10) (kf := 10) (T := TX2) (N := 13) (RC := RX2) C m_10 ce_10 rfl in_X2 (by decide) (fun _ h9 => h9) fl_X2_75 rfl dX2_passTick_4 ?_
  refine j_iconst (v := 1) C (by decide) dX2_passTick_7 ?_
  refine j_iadd C dX2_passTick_8 ?_
  refine put_X2_10 C fl_X2_75 rfl rfl dX2_passTick_9 ?_
  refine j_aload_n C 1 rfl dX2_passTick_12 ?_
  refine j_get (q := 10) (kf := 11) (T := TX2) (N := 13) (RC := RX2) C m_10 ce_10 rfl in_X2 (by decide) (fun _ h9 => h9) fl_X2_162 rfl dX2_passTick_13 ?_
  refine j_if_le C 29 dX2_passTick_16 (by decide) hf (fun y1 hf => ?_) (fun y1 hf => ?_)
  · refine j_sub [1, 0] rfl ?_
    exact w_X2_passTick_29 C hr hk (sKhi a 10 10 ((Khi a 10 10) + 1)) 0 hf
  · refine j_aload_n C 1 rfl dX2_passTick_19 ?_
    refine j_dup C rfl dX2_passTick_20 ?_
    refine j_get (q := 10) (kf := 11) (T := TX2) (N := 13) (RC := RX2) C m_10 ce_10 rfl in_X2 (by decide) (fun _ h9 => h9) fl_X2_162 rfl dX2_passTick_21 ?_
    refine j_iconst (v := 1) C (by decide) dX2_passTick_24 ?_
    refine j_isub C dX2_passTick_25 ?_
    refine put_X2_11 C fl_X2_162 rfl rfl dX2_passTick_26 ?_
    refine j_sub [1, 0] rfl ?_
    exact w_X2_passTick_29 C hr hk (sKhi (sKhi a 10 10 ((Khi a 10 10) + 1)) 10 11 ((Khi (sKhi a 10 10 ((Khi a 10 10) + 1)) 10 11) - 1)) 0 hf
set_option maxRecDepth 100000 in
set_option maxHeartbeats 4000000 in
theorem w_X2_passTicks_4 {b : MS} {p : Program} {l : Launch} {e : Env} {s : State} {m : MethodId} {args : Array Value} {below : List Frame} {meth : Method} {c : Code} {G : GT} {A : Nat → Prop} {ad : Nat → Nat} (C : CX G A RX2 cX2_passTicks 4 p s m args c) (hr : meth.sig.returnType = (some .int)) (hk : meth.locks = false) {rr : Int32 × KS} (c4 : KS → Int32 → Int32 → Int32 → Option (Int32 × KS)) (K4 : ∀ (a : KS) (v1 : Int32) (v2 : Int32) (v3 : Int32), c4 a v1 v2 v3 = some rr → J p l e (RM 5) s m args below meth c G A 4 (MQ below (QV (some (.int rr.1)) (PosW G ad rr.2 b A) A) args s 0 0 A) 0 0 ad a b 4 [(0, .ref (ad 10)), (1, .int v1), (2, .int v2), (3, .int v3)] []) (a : KS) (v1 : Int32) (v2 : Int32) (v3 : Int32) (hf : f_X2_passTicks_4 c4 a v1 v2 v3 = some rr) : J p l e (RM 5) s m args below meth c G A 4 (MQ below (QV (some (.int rr.1)) (PosW G ad rr.2 b A) A) args s 0 0 A) 0 0 ad a b 4 [(0, .ref (ad 10)), (1, .int v1), (2, .int v2), (3, .int v3)] [] := by
  unfold f_X2_passTicks_4 at hf
  refine j_iload_n C 3 rfl dX2_passTicks_4 ?_
  refine j_iload_n C 1 rfl dX2_passTicks_5 ?_
  refine j_icmp_ge C 22 dX2_passTicks_6 (by decide) hf (fun y1 hf => ?_) (fun y1 hf => ?_)
  · refine j_aload_n C 0 rfl dX2_passTicks_22 ?_
    refine j_bipush (v := 7) C (by decide) dX2_passTicks_23 ?_
    refine j_iload_n C 1 rfl dX2_passTicks_25 ?_
    obtain ⟨z2, h3, hf⟩ := bnd_some hf
    refine j_callV (q := 10) (As := [.int 7, .int v1]) (rest := []) C (k_X2_count h3) cw_X2_count ml_X2_83 m_10 ce_10 rfl rfl ⟨Nat.le_of_ble_eq_true rfl, Nat.le_of_ble_eq_true rfl⟩ ⟨Nat.le_of_ble_eq_true rfl, Nat.le_of_ble_eq_true rfl⟩ rfl (Nat.le_of_ble_eq_true rfl) dX2_passTicks_26 ?_
    refine j_aload_n C 0 rfl dX2_passTicks_29 ?_
    refine j_bipush (v := 6) C (by decide) dX2_passTicks_30 ?_
    refine j_iload_n C 2 rfl dX2_passTicks_32 ?_
    obtain ⟨z7, h8, hf⟩ := bnd_some hf
    refine j_callV (q := 10) (As := [.int 6, .int v2]) (rest := []) C (k_X2_count h8) cw_X2_count ml_X2_83 m_10 ce_10 rfl rfl ⟨Nat.le_of_ble_eq_true rfl, Nat.le_of_ble_eq_true rfl⟩ ⟨Nat.le_of_ble_eq_true rfl, Nat.le_of_ble_eq_true rfl⟩ rfl (Nat.le_of_ble_eq_true rfl) dX2_passTicks_33 ?_
    refine j_iload_n C 2 rfl dX2_passTicks_36 ?_
    obtain rfl := Option.some.inj hf
    exact j_iret C hr hk ⟨Nat.le_of_ble_eq_true rfl, Nat.le_of_ble_eq_true rfl⟩ rfl dX2_passTicks_37
  · refine j_iload_n C 2 rfl dX2_passTicks_9 ?_
    refine j_aload_n C 0 rfl dX2_passTicks_10 ?_
    obtain ⟨z12, h13, hf⟩ := bnd_some hf
    refine j_callV (q := 10) (As := []) (rest := [.int v2]) C (k_X2_passTick h13) cw_X2_passTick ml_X2_184 m_10 ce_10 rfl rfl ⟨Nat.le_of_ble_eq_true rfl, Nat.le_of_ble_eq_true rfl⟩ ⟨Nat.le_of_ble_eq_true rfl, Nat.le_of_ble_eq_true rfl⟩ rfl (Nat.le_of_ble_eq_true rfl) dX2_passTicks_11 ?_
    refine j_iadd C dX2_passTicks_14 ?_
    refine j_letI hf (fun x17 hf => ?_)
    refine j_istore_n (i := 2) (lv' := [(2, .int x17), (0, .ref (ad 10)), (1, .int v1), (3, .int v3)]) C dX2_passTicks_15 rfl (by decide) rfl ?_
    refine j_iinc (v := v3 + 1) (lv' := [(3, .int (v3 + 1)), (2, .int x17), (0, .ref (ad 10)), (1, .int v1)]) C 3 rfl rfl (by decide) rfl dX2_passTicks_16 ?_
    refine j_goto C 4 dX2_passTicks_19 (by decide) ?_
    refine j_sub [2, 3, 1, 0] rfl ?_
    exact K4 z12.2 v1 x17 (v3 + 1) hf
theorem wl_X2_passTicks_4 {b : MS} {p : Program} {l : Launch} {e : Env} {s : State} {m : MethodId} {args : Array Value} {below : List Frame} {meth : Method} {c : Code} {G : GT} {A : Nat → Prop} {ad : Nat → Nat} (C : CX G A RX2 cX2_passTicks 4 p s m args c) (hr : meth.sig.returnType = (some .int)) (hk : meth.locks = false) {rr : Int32 × KS} (fuel : Nat)   : ∀ (a : KS) (v1 : Int32) (v2 : Int32) (v3 : Int32), l_X2_passTicks_4 fuel  a v1 v2 v3 = some rr → J p l e (RM 5) s m args below meth c G A 4 (MQ below (QV (some (.int rr.1)) (PosW G ad rr.2 b A) A) args s 0 0 A) 0 0 ad a b 4 [(0, .ref (ad 10)), (1, .int v1), (2, .int v2), (3, .int v3)] [] := by
  induction fuel with
  | zero => intro a v1 v2 v3 hf; cases hf
  | succ n ih =>
    intro a v1 v2 v3 hf
    have hf : f_X2_passTicks_4 (l_X2_passTicks_4 n ) a v1 v2 v3 = some rr := hf
    exact w_X2_passTicks_4 C hr hk (l_X2_passTicks_4 n ) ih a v1 v2 v3 hf
set_option maxRecDepth 100000 in
set_option maxHeartbeats 4000000 in
theorem k_X2_passTicks {l : Launch} {G : GT} {ad : Nat → Nat} {a : KS} {v1 : Int32} {b : MS} {rr : Int32 × KS} (hf : f_X2_passTicks a v1 = some rr) : MT l G yX2_passTicks cX2_passTicks 4 (some .int) (RM 5) [.ref (ad 10), .int v1] ad a b (some (.int rr.1)) rr.2 b := by
  refine MT_of (by decide) (Nat.le_of_ble_eq_true rfl) ?_
  intro p e s m args below meth c A C hr hk
  unfold f_X2_passTicks at hf
  refine j_iconst (v := 0) C (by decide) dX2_passTicks_0 ?_
  refine j_istore_n (i := 2) (lv' := [(2, .int 0), (0, .ref (ad 10)), (1, .int v1)]) C dX2_passTicks_1 rfl (by decide) rfl ?_
  refine j_iconst (v := 0) C (by decide) dX2_passTicks_2 ?_
  refine j_istore_n (i := 3) (lv' := [(3, .int 0), (2, .int 0), (0, .ref (ad 10)), (1, .int v1)]) C dX2_passTicks_3 rfl (by decide) rfl ?_
  refine j_sub [2, 3, 1, 0] rfl ?_
  exact wl_X2_passTicks_4 C hr hk FU a v1 0 0 hf
set_option maxRecDepth 100000 in
set_option maxHeartbeats 4000000 in
theorem k_X2_changeSetting {l : Launch} {G : GT} {ad : Nat → Nat} {a : KS} {v1 : Int32} {v2 : Int32} {b : MS} {rr : KS} (hf : f_X2_changeSetting a v1 v2 = some rr) : MT l G yX2_changeSetting cX2_changeSetting 3 none (RM 0) [.ref (ad 10), .int v1, .int v2] ad a b (none) rr b := by
  refine MT_of (by decide) (Nat.le_of_ble_eq_true rfl) ?_
  intro p e s m args below meth c A C hr hk
  unfold f_X2_changeSetting at hf
  refine j_iload_n C 1 rfl dX2_changeSetting_0 ?_
  refine j_if_lt C 20 dX2_changeSetting_1 (by decide) hf (fun y1 hf => ?_) (fun y1 hf => ?_)
  · obtain rfl := Option.some.inj hf
    exact j_vret C hr hk ⟨Nat.le_of_ble_eq_true rfl, Nat.le_of_ble_eq_true rfl⟩ rfl dX2_changeSetting_20
  · refine j_iload_n C 1 rfl dX2_changeSetting_4 ?_
    refine j_aload_n C 0 rfl dX2_changeSetting_5 ?_
    refine j_get (q := 10) (kf := 3) (T := TX2) (N := 13) (RC := RX2) C m_10 ce_10 rfl in_X2 (by decide) (fun _ h9 => h9) fl_X2_15 rfl dX2_changeSetting_6 ?_
    refine j_alen (q := 12) (t0 := 0) (v := 3) C m_12 ce_12 rfl rfl dX2_changeSetting_9 ?_
    refine j_icmp_ge C 20 dX2_changeSetting_10 (by decide) hf (fun y2 hf => ?_) (fun y2 hf => ?_)
    · obtain rfl := Option.some.inj hf
      exact j_vret C hr hk ⟨Nat.le_of_ble_eq_true rfl, Nat.le_of_ble_eq_true rfl⟩ rfl dX2_changeSetting_20
    · refine j_aload_n C 0 rfl dX2_changeSetting_13 ?_
      refine j_get (q := 10) (kf := 3) (T := TX2) (N := 13) (RC := RX2) C m_10 ce_10 rfl in_X2 (by decide) (fun _ h9 => h9) fl_X2_15 rfl dX2_changeSetting_14 ?_
      refine j_iload_n C 1 rfl dX2_changeSetting_17 ?_
      refine j_iload_n C 2 rfl dX2_changeSetting_18 ?_
      refine ast_12 C hf dX2_changeSetting_19 (fun hf => ?_)
      obtain rfl := Option.some.inj hf
      exact j_vret C hr hk ⟨Nat.le_of_ble_eq_true rfl, Nat.le_of_ble_eq_true rfl⟩ rfl dX2_changeSetting_20
set_option maxRecDepth 100000 in
set_option maxHeartbeats 4000000 in
theorem k_X2_counted {l : Launch} {G : GT} {ad : Nat → Nat} {a : KS} {v1 : Int32} {b : MS} {rr : Int32} (hf : f_X2_counted a v1 = some rr) : MT l G yX2_counted cX2_counted 2 (some .int) (RM 0) [.ref (ad 10), .int v1] ad a b (some (.int rr)) a b := by
  refine MT_of (by decide) (Nat.le_of_ble_eq_true rfl) ?_
  intro p e s m args below meth c A C hr hk
  unfold f_X2_counted at hf
  refine j_iload_n C 1 rfl dX2_counted_0 ?_
  refine j_if_lt C 22 dX2_counted_1 (by decide) hf (fun y1 hf => ?_) (fun y1 hf => ?_)
  · refine j_iconst (v := 0) C (by decide) dX2_counted_22 ?_
    obtain rfl := Option.some.inj hf
    exact j_iret C hr hk ⟨Nat.le_of_ble_eq_true rfl, Nat.le_of_ble_eq_true rfl⟩ rfl dX2_counted_23
  · refine j_iload_n C 1 rfl dX2_counted_4 ?_
    refine j_aload_n C 0 rfl dX2_counted_5 ?_
    refine j_get (q := 10) (kf := 4) (T := TX2) (N := 13) (RC := RX2) C m_10 ce_10 rfl in_X2 (by decide) (fun _ h9 => h9) fl_X2_18 rfl dX2_counted_6 ?_
    refine j_alen (q := 13) (t0 := 0) (v := 8) C m_13 ce_13 rfl rfl dX2_counted_9 ?_
    refine j_icmp_ge C 22 dX2_counted_10 (by decide) hf (fun y2 hf => ?_) (fun y2 hf => ?_)
    · refine j_iconst (v := 0) C (by decide) dX2_counted_22 ?_
      obtain rfl := Option.some.inj hf
      exact j_iret C hr hk ⟨Nat.le_of_ble_eq_true rfl, Nat.le_of_ble_eq_true rfl⟩ rfl dX2_counted_23
    · refine j_aload_n C 0 rfl dX2_counted_13 ?_
      refine j_get (q := 10) (kf := 4) (T := TX2) (N := 13) (RC := RX2) C m_10 ce_10 rfl in_X2 (by decide) (fun _ h9 => h9) fl_X2_18 rfl dX2_counted_14 ?_
      refine j_iload_n C 1 rfl dX2_counted_17 ?_
      refine j_iald (q := 13) C m_13 ce_13 hf dX2_counted_18 (fun hf => ?_)
      refine j_goto C 23 dX2_counted_19 (by decide) ?_
      obtain rfl := Option.some.inj hf
      exact j_iret C hr hk ⟨Nat.le_of_ble_eq_true rfl, Nat.le_of_ble_eq_true rfl⟩ rfl dX2_counted_23
set_option maxRecDepth 100000 in
set_option maxHeartbeats 4000000 in
theorem k_X2_detentsToEntry {l : Launch} {G : GT} {ad : Nat → Nat} {a : KS} {v1 : Int32} {v2 : Int32} {b : MS} {rr : Int32} (hf : f_X2_detentsToEntry a v1 v2 = some rr) : MT l G yX2_detentsToEntry cX2_detentsToEntry 3 (some .int) (RM 1) [.ref (ad 10), .int v1, .int v2] ad a b (some (.int rr)) a b := by
  refine MT_of (by decide) (Nat.le_of_ble_eq_true rfl) ?_
  intro p e s m args below meth c A C hr hk
  unfold f_X2_detentsToEntry at hf
  refine j_aload_n C 0 rfl dX2_detentsToEntry_0 ?_
  refine j_iconst (v := 2) C (by decide) dX2_detentsToEntry_1 ?_
  obtain ⟨z1, h2, hf⟩ := bnd_some hf
  refine j_callV (q := 10) (As := [.int 2]) (rest := []) C (k_X2_setting h2) cw_X2_setting ml_X2_100 m_10 ce_10 rfl rfl ⟨Nat.le_of_ble_eq_true rfl, Nat.le_of_ble_eq_true rfl⟩ ⟨Nat.le_of_ble_eq_true rfl, Nat.le_of_ble_eq_true rfl⟩ rfl (Nat.le_of_ble_eq_true rfl) dX2_detentsToEntry_2 ?_
  refine j_iconst (v := 1) C (by decide) dX2_detentsToEntry_5 ?_
  refine j_icmp_ne C 19 dX2_detentsToEntry_6 (by decide) hf (fun y4 hf => ?_) (fun y4 hf => ?_)
  · refine j_iload_n C 1 rfl dX2_detentsToEntry_19 ?_
    obtain rfl := Option.some.inj hf
    exact j_iret C hr hk ⟨Nat.le_of_ble_eq_true rfl, Nat.le_of_ble_eq_true rfl⟩ rfl dX2_detentsToEntry_20
  · refine j_iload_n C 1 rfl dX2_detentsToEntry_9 ?_
    refine j_iload_n C 2 rfl dX2_detentsToEntry_10 ?_
    refine j_iload_n C 1 rfl dX2_detentsToEntry_11 ?_
    refine j_isub C dX2_detentsToEntry_12 ?_
    refine j_mmin C ml_X2_103 ⟨Nat.le_of_ble_eq_true rfl, Nat.le_of_ble_eq_true rfl, Nat.le_of_ble_eq_true rfl, Nat.le_of_ble_eq_true rfl⟩ dX2_detentsToEntry_13 ?_
    refine j_goto C 20 dX2_detentsToEntry_16 (by decide) ?_
    obtain rfl := Option.some.inj hf
    exact j_iret C hr hk ⟨Nat.le_of_ble_eq_true rfl, Nat.le_of_ble_eq_true rfl⟩ rfl dX2_detentsToEntry_20
set_option maxRecDepth 100000 in
set_option maxHeartbeats 4000000 in
theorem w_X2_detentsFromHome_10 {b : MS} {p : Program} {l : Launch} {e : Env} {s : State} {m : MethodId} {args : Array Value} {below : List Frame} {meth : Method} {c : Code} {G : GT} {A : Nat → Prop} {ad : Nat → Nat} (C : CX G A RX2 cX2_detentsFromHome 5 p s m args c) (hr : meth.sig.returnType = (some .int)) (hk : meth.locks = false) {rr : Int32} (c10 : KS → Int32 → Nat → Option Nat → Option Int32) (K10 : ∀ (a : KS) (v2 : Int32) (v3 : Nat) (v4 : Option Nat), c10 a v2 v3 v4 = some rr → J p l e (RM 2) s m args below meth c G A 5 (MQ below (QV (some (.int rr)) (PosW G ad a b A) A) args s 0 0 A) 0 0 ad a b 10 [(0, .ref (ad 10)), (2, .int v2), (3, .ref (ad (ip v3))), (4, itv ad v4)] []) (a : KS) (v2 : Int32) (v3 : Nat) (v4 : Option Nat) (hf : f_X2_detentsFromHome_10 c10 a v2 v3 v4 = some rr) : J p l e (RM 2) s m args below meth c G A 5 (MQ below (QV (some (.int rr)) (PosW G ad a b A) A) args s 0 0 A) 0 0 ad a b 10 [(0, .ref (ad 10)), (2, .int v2), (3, .ref (ad (ip v3))), (4, itv ad v4)] [] := by
  unfold f_X2_detentsFromHome_10 at hf
  refine j_aloadq C 3 rfl dX2_detentsFromHome_10 ?_
  refine j_ifnull C 44 dX2_detentsFromHome_12 (by decide) hf (fun e3 hg => ?_) (fun i2 e3 hg => ?_)
  · clear hf
    subst e3
    have hf := hg
    clear hg
    refine j_iload_n C 1 rfl dX2_detentsFromHome_44 ?_
    obtain rfl := Option.some.inj hf
    exact j_iret C hr hk ⟨Nat.le_of_ble_eq_true rfl, Nat.le_of_ble_eq_true rfl⟩ rfl dX2_detentsFromHome_45
  · clear hf
    subst e3
    have hf := hg
    clear hg
    refine j_iload_n C 1 rfl dX2_detentsFromHome_15 ?_
    refine j_aload_n C 0 rfl dX2_detentsFromHome_16 ?_
    refine j_aload_n C 2 rfl dX2_detentsFromHome_17 ?_
    obtain ⟨h4, hf⟩ := gd_some hf
    have h4 := of_decide_eq_true h4
    refine j_get (q := (ip v3)) (kf := 4) (T := TX4) (N := 13) (RC := RX4) C (mem_ip h4) ce_item rfl in_X4 (by decide) (fun _ h9 => h9) fl_X2_150 rfl dX2_detentsFromHome_18 ?_
    refine j_aload C 3 rfl dX2_detentsFromHome_21 ?_
    obtain ⟨h5, hf⟩ := gd_some hf
    have h5 := of_decide_eq_true h5
    obtain ⟨z6, h7, hf⟩ := bnd_some hf
    refine j_callV (q := (ip i2)) (As := []) (rest := [.int (Kit a v3 4), .ref (ad 10), .int v2]) C (k_X4_entries h7) cw_X4_entries ml_X2_96 (mem_ip h5) ce_item rfl rfl ⟨Nat.le_of_ble_eq_true rfl, Nat.le_of_ble_eq_true rfl⟩ ⟨Nat.le_of_ble_eq_true rfl, Nat.le_of_ble_eq_true rfl⟩ rfl (Nat.le_of_ble_eq_true rfl) dX2_detentsFromHome_23 ?_
    obtain ⟨z9, h10, hf⟩ := bnd_some hf
    refine j_callV (q := 10) (As := [.int (Kit a v3 4), .int z6]) (rest := [.int v2]) C (k_X2_detentsToEntry h10) cw_X2_detentsToEntry ml_X2_190 m_10 ce_10 rfl rfl ⟨Nat.le_of_ble_eq_true rfl, Nat.le_of_ble_eq_true rfl⟩ ⟨Nat.le_of_ble_eq_true rfl, Nat.le_of_ble_eq_true rfl⟩ rfl (Nat.le_of_ble_eq_true rfl) dX2_detentsFromHome_26 ?_
    refine j_iadd C dX2_detentsFromHome_29 ?_
    refine j_letI hf (fun x12 hf => ?_)
    refine j_istore_n (i := 2) (lv' := [(2, .int x12), (0, .ref (ad 10)), (3, .ref (ad (ip v3))), (4, .ref (ad (ip i2)))]) C dX2_detentsFromHome_30 rfl (by decide) rfl ?_
    refine j_aload C 3 rfl dX2_detentsFromHome_31 ?_
    refine j_astore_n (i := 3) (lv' := [(3, .ref (ad (ip i2))), (2, .int x12), (0, .ref (ad 10)), (4, .ref (ad (ip i2)))]) C dX2_detentsFromHome_33 rfl (by decide) rfl ?_
    refine j_aload C 3 rfl dX2_detentsFromHome_34 ?_
    refine j_get (q := (ip i2)) (kf := 2) (T := TX4) (N := 13) (RC := RX4) C (mem_ip h5) ce_item rfl in_X4 (by decide) (fun _ h9 => h9) fl_X2_147 rfl dX2_detentsFromHome_36 ?_
    refine j_letO hf (fun o13 hf => ?_)
    refine j_astoreq (lv' := [(4, itv ad o13), (3, .ref (ad (ip i2))), (2, .int x12), (0, .ref (ad 10))]) (o := o13) C dX2_detentsFromHome_39 (by decide) rfl ?_
    refine j_goto C 10 dX2_detentsFromHome_41 (by decide) ?_
    refine j_sub [3, 2, 1, 0] rfl ?_
    exact K10 a x12 i2 o13 hf
theorem wl_X2_detentsFromHome_10 {b : MS} {p : Program} {l : Launch} {e : Env} {s : State} {m : MethodId} {args : Array Value} {below : List Frame} {meth : Method} {c : Code} {G : GT} {A : Nat → Prop} {ad : Nat → Nat} (C : CX G A RX2 cX2_detentsFromHome 5 p s m args c) (hr : meth.sig.returnType = (some .int)) (hk : meth.locks = false) {rr : Int32} (fuel : Nat)   : ∀ (a : KS) (v2 : Int32) (v3 : Nat) (v4 : Option Nat), l_X2_detentsFromHome_10 fuel  a v2 v3 v4 = some rr → J p l e (RM 2) s m args below meth c G A 5 (MQ below (QV (some (.int rr)) (PosW G ad a b A) A) args s 0 0 A) 0 0 ad a b 10 [(0, .ref (ad 10)), (2, .int v2), (3, .ref (ad (ip v3))), (4, itv ad v4)] [] := by
  induction fuel with
  | zero => intro a v2 v3 v4 hf; cases hf
  | succ n ih =>
    intro a v2 v3 v4 hf
    have hf : f_X2_detentsFromHome_10 (l_X2_detentsFromHome_10 n ) a v2 v3 v4 = some rr := hf
    exact w_X2_detentsFromHome_10 C hr hk (l_X2_detentsFromHome_10 n ) ih a v2 v3 v4 hf
set_option maxRecDepth 100000 in
set_option maxHeartbeats 4000000 in
theorem k_X2_detentsFromHome {l : Launch} {G : GT} {ad : Nat → Nat} {a : KS} {v1 : Option Nat} {b : MS} {rr : Int32} (hf : f_X2_detentsFromHome a v1 = some rr) : MT l G yX2_detentsFromHome cX2_detentsFromHome 5 (some .int) (RM 2) [.ref (ad 10), itv ad v1] ad a b (some (.int rr)) a b := by
  refine MT_of2 (lv := [(0, .ref (ad 10)), (1, itv ad v1)]) (by decide) (by simp only [lg_sl, List.flatMap_cons, List.flatMap_nil, itv_cat]; exact Nat.le_of_ble_eq_true rfl) (by simp only [lv_args, itv_cat] <;> rfl) ?_
  intro p e s m args below meth c A C hr hk
  unfold f_X2_detentsFromHome at hf
  refine j_iconst (v := 0) C (by decide) dX2_detentsFromHome_0 ?_
  refine j_istore_n (i := 2) (lv' := [(2, .int 0), (0, .ref (ad 10)), (1, itv ad v1)]) C dX2_detentsFromHome_1 rfl (by decide) (by simp [itv_cat]) ?_
  refine j_aload_nq C 2 rfl dX2_detentsFromHome_2 ?_
  refine j_astore_nq (i := 3) (lv' := [(3, itv ad v1), (2, .int 0), (0, .ref (ad 10)), (1, itv ad v1)]) (o := v1) C dX2_detentsFromHome_3 rfl (by decide) rfl ?_
  refine j_aload_nq C 3 rfl dX2_detentsFromHome_4 ?_
  obtain ⟨i1, e3, h2, hg⟩ := odr_some hf
  clear hf
  subst e3
  have hf := hg
  clear hg
  refine j_get (q := (ip i1)) (kf := 2) (T := TX4) (N := 13) (RC := RX4) C (mem_ip h2) ce_item rfl in_X4 (by decide) (fun _ h9 => h9) fl_X2_147 rfl dX2_detentsFromHome_5 ?_
  refine j_letO hf (fun o4 hf => ?_)
  refine j_astoreq (lv' := [(4, itv ad o4), (3, .ref (ad (ip i1))), (2, .int 0), (0, .ref (ad 10)), (1, .ref (ad (ip i1)))]) (o := o4) C dX2_detentsFromHome_8 (by decide) rfl ?_
  refine j_sub [3, 2, 1, 0] rfl ?_
  exact wl_X2_detentsFromHome_10 C hr hk FU a 0 i1 o4 hf
set_option maxRecDepth 100000 in
set_option maxHeartbeats 4000000 in
theorem w_X2_ticksUntilHome_56 {b : MS} {p : Program} {l : Launch} {e : Env} {s : State} {m : MethodId} {args : Array Value} {below : List Frame} {meth : Method} {c : Code} {G : GT} {A : Nat → Prop} {ad : Nat → Nat} (C : CX G A RX2 cX2_ticksUntilHome 4 p s m args c) (hr : meth.sig.returnType = (some .int)) (hk : meth.locks = false) {rr : Int32}   (a : KS) (v1 : Int32) (v2 : Int32) (hf : f_X2_ticksUntilHome_56 a v1 v2 = some rr) : J p l e (RM 4) s m args below meth c G A 4 (MQ below (QV (some (.int rr)) (PosW G ad a b A) A) args s 0 0 A) 0 0 ad a b 56 [(1, .int v1), (2, .int v2)] [] := by
  unfold f_X2_ticksUntilHome_56 at hf
  refine j_iload_n C 0 rfl dX2_ticksUntilHome_56 ?_
  refine j_iload_n C 1 rfl dX2_ticksUntilHome_57 ?_
  refine j_mmax C ml_X2_106 ⟨Nat.le_of_ble_eq_true rfl, Nat.le_of_ble_eq_true rfl, Nat.le_of_ble_eq_true rfl, Nat.le_of_ble_eq_true rfl⟩ dX2_ticksUntilHome_58 ?_
  refine j_letI hf (fun x1 hf => ?_)
  refine j_istore_n (i := 3) (lv' := [(3, .int x1), (1, .int v1), (2, .int v2)]) C dX2_ticksUntilHome_61 rfl (by decide) rfl ?_
  refine j_iload_n C 0 rfl dX2_ticksUntilHome_62 ?_
  refine j_if_le C 70 dX2_ticksUntilHome_63 (by decide) hf (fun y2 hf => ?_) (fun y2 hf => ?_)
  · refine j_iconst (v := -1) C (by decide) dX2_ticksUntilHome_70 ?_
    obtain rfl := Option.some.inj hf
    exact j_iret C hr hk ⟨Nat.le_of_ble_eq_true rfl, Nat.le_of_ble_eq_true rfl⟩ rfl dX2_ticksUntilHome_71
  · refine j_iload_n C 0 rfl dX2_ticksUntilHome_66 ?_
    refine j_goto C 71 dX2_ticksUntilHome_67 (by decide) ?_
    obtain rfl := Option.some.inj hf
    exact j_iret C hr hk ⟨Nat.le_of_ble_eq_true rfl, Nat.le_of_ble_eq_true rfl⟩ rfl dX2_ticksUntilHome_71
set_option maxRecDepth 100000 in
set_option maxHeartbeats 4000000 in
theorem w_X2_ticksUntilHome_30 {b : MS} {p : Program} {l : Launch} {e : Env} {s : State} {m : MethodId} {args : Array Value} {below : List Frame} {meth : Method} {c : Code} {G : GT} {A : Nat → Prop} {ad : Nat → Nat} (C : CX G A RX2 cX2_ticksUntilHome 4 p s m args c) (hr : meth.sig.returnType = (some .int)) (hk : meth.locks = false) {rr : Int32}   (a : KS) (s0 : Int32) (hf : f_X2_ticksUntilHome_30 a s0 = some rr) : J p l e (RM 4) s m args below meth c G A 4 (MQ below (QV (some (.int rr)) (PosW G ad a b A) A) args s 0 0 A) 0 0 ad a b 30 [(0, .ref (ad 10))] [.int s0] := by
  unfold f_X2_ticksUntilHome_30 at hf
  refine j_istore_n (i := 1) (lv' := [(1, .int s0), (0, .ref (ad 10))]) C dX2_ticksUntilHome_30 rfl (by decide) rfl ?_
  refine j_aload_n C 1 rfl dX2_ticksUntilHome_31 ?_
  refine j_iconst (v := 1) C (by decide) dX2_ticksUntilHome_32 ?_
  obtain ⟨z1, h2, hf⟩ := bnd_some hf
  refine j_callV (q := 10) (As := [.int 1]) (rest := []) C (k_X2_setting h2) cw_X2_setting ml_X2_100 m_10 ce_10 rfl rfl ⟨Nat.le_of_ble_eq_true rfl, Nat.le_of_ble_eq_true rfl⟩ ⟨Nat.le_of_ble_eq_true rfl, Nat.le_of_ble_eq_true rfl⟩ rfl (Nat.le_of_ble_eq_true rfl) dX2_ticksUntilHome_33 ?_
  refine j_aload_n C 1 rfl dX2_ticksUntilHome_36 ?_
  refine j_get (q := 10) (kf := 10) (T := TX2) (N := 13) (RC := RX2) C m_10 ce_10 rfl in_X2 (by decide) (fun _ h9 => h9) fl_X2_75 rfl dX2_ticksUntilHome_37 ?_
  refine j_isub C dX2_ticksUntilHome_40 ?_
  refine j_letI hf (fun x4 hf => ?_)
  refine j_istore_n (i := 2) (lv' := [(2, .int x4), (1, .int s0), (0, .ref (ad 10))]) C dX2_ticksUntilHome_41 rfl (by decide) rfl ?_
  refine j_iload_n C 1 rfl dX2_ticksUntilHome_42 ?_
  refine j_if_le C 56 dX2_ticksUntilHome_43 (by decide) hf (fun y5 hf => ?_) (fun y5 hf => ?_)
  · refine j_sub [1, 0] rfl ?_
    exact w_X2_ticksUntilHome_56 C hr hk a s0 x4 hf
  · refine j_iload_n C 0 rfl dX2_ticksUntilHome_46 ?_
    refine j_if_le C 56 dX2_ticksUntilHome_47 (by decide) hf (fun y6 hf => ?_) (fun y6 hf => ?_)
    · refine j_sub [1, 0] rfl ?_
      exact w_X2_ticksUntilHome_56 C hr hk a s0 x4 hf
    · refine j_iload_n C 1 rfl dX2_ticksUntilHome_50 ?_
      refine j_iload_n C 0 rfl dX2_ticksUntilHome_51 ?_
      refine j_mmin C ml_X2_103 ⟨Nat.le_of_ble_eq_true rfl, Nat.le_of_ble_eq_true rfl, Nat.le_of_ble_eq_true rfl, Nat.le_of_ble_eq_true rfl⟩ dX2_ticksUntilHome_52 ?_
      obtain rfl := Option.some.inj hf
      exact j_iret C hr hk ⟨Nat.le_of_ble_eq_true rfl, Nat.le_of_ble_eq_true rfl⟩ rfl dX2_ticksUntilHome_55
set_option maxRecDepth 100000 in
set_option maxHeartbeats 4000000 in
theorem k_X2_ticksUntilHome {l : Launch} {G : GT} {ad : Nat → Nat} {a : KS} {b : MS} {rr : Int32} (hf : f_X2_ticksUntilHome a = some rr) : MT l G yX2_ticksUntilHome cX2_ticksUntilHome 4 (some .int) (RM 4) [.ref (ad 10)] ad a b (some (.int rr)) a b := by
  refine MT_of (by decide) (Nat.le_of_ble_eq_true rfl) ?_
  intro p e s m args below meth c A C hr hk
  unfold f_X2_ticksUntilHome at hf
  refine j_aload_n C 0 rfl dX2_ticksUntilHome_0 ?_
  obtain ⟨z1, h2, hf⟩ := bnd_some hf
  refine j_callV (q := 10) (As := []) (rest := []) C (k_X2_atHome h2) cw_X2_atHome ml_X2_187 m_10 ce_10 rfl rfl ⟨Nat.le_of_ble_eq_true rfl, Nat.le_of_ble_eq_true rfl⟩ ⟨Nat.le_of_ble_eq_true rfl, Nat.le_of_ble_eq_true rfl⟩ rfl (Nat.le_of_ble_eq_true rfl) dX2_ticksUntilHome_1 ?_
  refine j_if_eq C 9 dX2_ticksUntilHome_4 (by decide) hf (fun y4 hf => ?_) (fun y4 hf => ?_)
  · refine j_aload_n C 0 rfl dX2_ticksUntilHome_9 ?_
    obtain ⟨z5, h6, hf⟩ := bnd_some hf
    refine j_callV (q := 10) (As := []) (rest := []) C (k_X2_wouldBeHomeBrowsing h6) cw_X2_wouldBeHomeBrowsing ml_X2_51 m_10 ce_10 rfl rfl ⟨Nat.le_of_ble_eq_true rfl, Nat.le_of_ble_eq_true rfl⟩ ⟨Nat.le_of_ble_eq_true rfl, Nat.le_of_ble_eq_true rfl⟩ rfl (Nat.le_of_ble_eq_true rfl) dX2_ticksUntilHome_10 ?_
    refine j_if_eq C 29 dX2_ticksUntilHome_13 (by decide) hf (fun y8 hf => ?_) (fun y8 hf => ?_)
    · refine j_iconst (v := 0) C (by decide) dX2_ticksUntilHome_29 ?_
      refine j_sub [0] rfl ?_
      exact w_X2_ticksUntilHome_30 C hr hk a 0 hf
    · refine j_aload_n C 0 rfl dX2_ticksUntilHome_16 ?_
      refine j_iconst (v := 0) C (by decide) dX2_ticksUntilHome_17 ?_
      obtain ⟨z9, h10, hf⟩ := bnd_some hf
      refine j_callV (q := 10) (As := [.int 0]) (rest := []) C (k_X2_setting h10) cw_X2_setting ml_X2_100 m_10 ce_10 rfl rfl ⟨Nat.le_of_ble_eq_true rfl, Nat.le_of_ble_eq_true rfl⟩ ⟨Nat.le_of_ble_eq_true rfl, Nat.le_of_ble_eq_true rfl⟩ rfl (Nat.le_of_ble_eq_true rfl) dX2_ticksUntilHome_18 ?_
      refine j_aload_n C 0 rfl dX2_ticksUntilHome_21 ?_
      refine j_get (q := 10) (kf := 10) (T := TX2) (N := 13) (RC := RX2) C m_10 ce_10 rfl in_X2 (by decide) (fun _ h9 => h9) fl_X2_75 rfl dX2_ticksUntilHome_22 ?_
      refine j_isub C dX2_ticksUntilHome_25 ?_
      refine j_goto C 30 dX2_ticksUntilHome_26 (by decide) ?_
      refine j_sub [0] rfl ?_
      exact w_X2_ticksUntilHome_30 C hr hk a (z9 - (Khi a 10 10)) hf
  · refine j_iconst (v := 0) C (by decide) dX2_ticksUntilHome_7 ?_
    obtain rfl := Option.some.inj hf
    exact j_iret C hr hk ⟨Nat.le_of_ble_eq_true rfl, Nat.le_of_ble_eq_true rfl⟩ rfl dX2_ticksUntilHome_8
