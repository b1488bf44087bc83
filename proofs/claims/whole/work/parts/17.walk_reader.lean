set_option maxRecDepth 100000 in
set_option maxHeartbeats 4000000 in
theorem k_X0_begin {l : Launch} {G : GT} {ad : Nat → Nat} {a : KS} {b : MS} {rr : KS} (hf : f_X0_begin a = some rr) : MT l G yX0_begin cX0_begin 1 none (RM 0) [.ref (ad 18)] ad a b (none) rr b := by
  refine MT_of (by decide) (Nat.le_of_ble_eq_true rfl) ?_
  intro p e s m args below meth c A C hr hk
  unfold f_X0_begin at hf
  refine j_aload_n C 0 rfl dX0_begin_0 ?_
  refine j_bipush (v := 32) C (by decide) dX0_begin_1 ?_
  obtain ⟨h1, hf⟩ := gd_some hf
  refine put_X0_0 C fl_X0_11 (okc_n h1) (okc_f h1) dX0_begin_3 ?_
  refine j_aload_n C 0 rfl dX0_begin_6 ?_
  refine j_iconst (v := 0) C (by decide) dX0_begin_7 ?_
  refine put_X0_1 C fl_X0_15 rfl rfl dX0_begin_8 ?_
  obtain rfl := Option.some.inj hf
  exact j_vret C hr hk ⟨Nat.le_of_ble_eq_true rfl, Nat.le_of_ble_eq_true rfl⟩ rfl dX0_begin_11
set_option maxRecDepth 100000 in
set_option maxHeartbeats 4000000 in
theorem k_X0_mostFor {l : Launch} {G : GT} {ad : Nat → Nat} {a : KS} {v0 : Int32} {b : MS} {rr : Int32} (hf : f_X0_mostFor a v0 = some rr) : MT l G yX0_mostFor cX0_mostFor 1 (some .int) (RM 0) [.int v0] ad a b (some (.int rr)) a b := by
  refine MT_of (by decide) (Nat.le_of_ble_eq_true rfl) ?_
  intro p e s m args below meth c A C hr hk
  unfold f_X0_mostFor at hf
  refine j_iload_n C 0 rfl dX0_mostFor_0 ?_
  refine j_bipush (v := 114) C (by decide) dX0_mostFor_1 ?_
  refine j_icmp_eq C 12 dX0_mostFor_3 (by decide) hf (fun y1 hf => ?_) (fun y1 hf => ?_)
  · refine j_bipush (v := 50) C (by decide) dX0_mostFor_12 ?_
    obtain rfl := Option.some.inj hf
    exact j_iret C hr hk ⟨Nat.le_of_ble_eq_true rfl, Nat.le_of_ble_eq_true rfl⟩ rfl dX0_mostFor_14
  · refine j_iload_n C 0 rfl dX0_mostFor_6 ?_
    refine j_bipush (v := 108) C (by decide) dX0_mostFor_7 ?_
    refine j_icmp_ne C 15 dX0_mostFor_9 (by decide) hf (fun y2 hf => ?_) (fun y2 hf => ?_)
    · refine j_iload_n C 0 rfl dX0_mostFor_15 ?_
      refine j_bipush (v := 116) C (by decide) dX0_mostFor_16 ?_
      refine j_icmp_ne C 24 dX0_mostFor_18 (by decide) hf (fun y3 hf => ?_) (fun y3 hf => ?_)
      · refine j_iload_n C 0 rfl dX0_mostFor_24 ?_
        refine j_bipush (v := 112) C (by decide) dX0_mostFor_25 ?_
        refine j_icmp_eq C 36 dX0_mostFor_27 (by decide) hf (fun y4 hf => ?_) (fun y4 hf => ?_)
        · refine j_iconst (v := 0) C (by decide) dX0_mostFor_36 ?_
          refine j_goto C 41 dX0_mostFor_37 (by decide) ?_
          obtain rfl := Option.some.inj hf
          exact j_iret C hr hk ⟨Nat.le_of_ble_eq_true rfl, Nat.le_of_ble_eq_true rfl⟩ rfl dX0_mostFor_41
        · refine j_iload_n C 0 rfl dX0_mostFor_30 ?_
          refine j_bipush (v := 104) C (by decide) dX0_mostFor_31 ?_
          refine j_icmp_ne C 40 dX0_mostFor_33 (by decide) hf (fun y5 hf => ?_) (fun y5 hf => ?_)
          · refine j_iconst (v := -1) C (by decide) dX0_mostFor_40 ?_
            obtain rfl := Option.some.inj hf
            exact j_iret C hr hk ⟨Nat.le_of_ble_eq_true rfl, Nat.le_of_ble_eq_true rfl⟩ rfl dX0_mostFor_41
          · refine j_iconst (v := 0) C (by decide) dX0_mostFor_36 ?_
            refine j_goto C 41 dX0_mostFor_37 (by decide) ?_
            obtain rfl := Option.some.inj hf
            exact j_iret C hr hk ⟨Nat.le_of_ble_eq_true rfl, Nat.le_of_ble_eq_true rfl⟩ rfl dX0_mostFor_41
      · refine j_bipush (v := 99) C (by decide) dX0_mostFor_21 ?_
        obtain rfl := Option.some.inj hf
        exact j_iret C hr hk ⟨Nat.le_of_ble_eq_true rfl, Nat.le_of_ble_eq_true rfl⟩ rfl dX0_mostFor_23
    · refine j_bipush (v := 50) C (by decide) dX0_mostFor_12 ?_
      obtain rfl := Option.some.inj hf
      exact j_iret C hr hk ⟨Nat.le_of_ble_eq_true rfl, Nat.le_of_ble_eq_true rfl⟩ rfl dX0_mostFor_14
set_option maxRecDepth 100000 in
set_option maxHeartbeats 4000000 in
theorem k_X0_takesVerb {l : Launch} {G : GT} {ad : Nat → Nat} {a : KS} {v1 : Int32} {b : MS} {rr : Int32 × KS} (hf : f_X0_takesVerb a v1 = some rr) : MT l G yX0_takesVerb cX0_takesVerb 2 (some .boolean) (RM 1) [.ref (ad 18), .int v1] ad a b (some (.int rr.1)) rr.2 b := by
  refine MT_of (by decide) (Nat.le_of_ble_eq_true rfl) ?_
  intro p e s m args below meth c A C hr hk
  unfold f_X0_takesVerb at hf
  refine j_iload_n C 1 rfl dX0_takesVerb_0 ?_
  obtain ⟨z1, h2, hf⟩ := bnd_some hf
  refine j_callS (As := [.int v1]) (rest := []) C (k_X0_mostFor h2) cw_X0_mostFor ml_X0_31 rfl ⟨Nat.le_of_ble_eq_true rfl, Nat.le_of_ble_eq_true rfl⟩ ⟨Nat.le_of_ble_eq_true rfl, Nat.le_of_ble_eq_true rfl⟩ rfl (Nat.le_of_ble_eq_true rfl) dX0_takesVerb_1 ?_
  refine j_iconst (v := -1) C (by decide) dX0_takesVerb_4 ?_
  refine j_icmp_ne C 10 dX0_takesVerb_5 (by decide) hf (fun y4 hf => ?_) (fun y4 hf => ?_)
  · refine j_aload_n C 0 rfl dX0_takesVerb_10 ?_
    refine j_iload_n C 1 rfl dX0_takesVerb_11 ?_
    obtain ⟨h5, hf⟩ := gd_some hf
    refine put_X0_0 C fl_X0_11 (okc_n h5) (okc_f h5) dX0_takesVerb_12 ?_
    refine j_iconst (v := 1) C (by decide) dX0_takesVerb_15 ?_
    obtain rfl := Option.some.inj hf
    exact j_zret C hr hk (by decide) ⟨Nat.le_of_ble_eq_true rfl, Nat.le_of_ble_eq_true rfl⟩ rfl dX0_takesVerb_16
  · refine j_iconst (v := 0) C (by decide) dX0_takesVerb_8 ?_
    obtain rfl := Option.some.inj hf
    exact j_zret C hr hk (by decide) ⟨Nat.le_of_ble_eq_true rfl, Nat.le_of_ble_eq_true rfl⟩ rfl dX0_takesVerb_9
set_option maxRecDepth 100000 in
set_option maxHeartbeats 4000000 in
theorem k_X0_atEnd {l : Launch} {G : GT} {ad : Nat → Nat} {a : KS} {b : MS} {rr : Int32} (hf : f_X0_atEnd a = some rr) : MT l G yX0_atEnd cX0_atEnd 1 (some .boolean) (RM 1) [.ref (ad 18)] ad a b (some (.int rr)) a b := by
  refine MT_of (by decide) (Nat.le_of_ble_eq_true rfl) ?_
  intro p e s m args below meth c A C hr hk
  unfold f_X0_atEnd at hf
  refine j_aload_n C 0 rfl dX0_atEnd_0 ?_
  refine j_get (q := 18) (kf := 0) (T := TX0) (N := 2) (RC := RX0) C m_18 ce_18 rfl in_X0 (by decide) (fun _ h9 => h9) fl_X0_11 rfl dX0_atEnd_1 ?_
  refine j_bipush (v := 32) C (by decide) dX0_atEnd_4 ?_
  refine j_icmp_eq C 30 dX0_atEnd_6 (by decide) hf (fun y1 hf => ?_) (fun y1 hf => ?_)
  · refine j_iconst (v := 0) C (by decide) dX0_atEnd_30 ?_
    obtain rfl := Option.some.inj hf
    exact j_zret C hr hk (by decide) ⟨Nat.le_of_ble_eq_true rfl, Nat.le_of_ble_eq_true rfl⟩ rfl dX0_atEnd_31
  · refine j_aload_n C 0 rfl dX0_atEnd_9 ?_
    refine j_get (q := 18) (kf := 1) (T := TX0) (N := 2) (RC := RX0) C m_18 ce_18 rfl in_X0 (by decide) (fun _ h9 => h9) fl_X0_15 rfl dX0_atEnd_10 ?_
    refine j_if_gt C 26 dX0_atEnd_13 (by decide) hf (fun y2 hf => ?_) (fun y2 hf => ?_)
    · refine j_iconst (v := 1) C (by decide) dX0_atEnd_26 ?_
      refine j_goto C 31 dX0_atEnd_27 (by decide) ?_
      obtain rfl := Option.some.inj hf
      exact j_zret C hr hk (by decide) ⟨Nat.le_of_ble_eq_true rfl, Nat.le_of_ble_eq_true rfl⟩ rfl dX0_atEnd_31
    · refine j_aload_n C 0 rfl dX0_atEnd_16 ?_
      refine j_get (q := 18) (kf := 0) (T := TX0) (N := 2) (RC := RX0) C m_18 ce_18 rfl in_X0 (by decide) (fun _ h9 => h9) fl_X0_11 rfl dX0_atEnd_17 ?_
      obtain ⟨z3, h4, hf⟩ := bnd_some hf
      refine j_callS (As := [.int (Khi a 18 0)]) (rest := []) C (k_X0_mostFor h4) cw_X0_mostFor ml_X0_31 rfl ⟨Nat.le_of_ble_eq_true rfl, Nat.le_of_ble_eq_true rfl⟩ ⟨Nat.le_of_ble_eq_true rfl, Nat.le_of_ble_eq_true rfl⟩ rfl (Nat.le_of_ble_eq_true rfl) dX0_atEnd_20 ?_
      refine j_if_ne C 30 dX0_atEnd_23 (by decide) hf (fun y6 hf => ?_) (fun y6 hf => ?_)
      · refine j_iconst (v := 0) C (by decide) dX0_atEnd_30 ?_
        obtain rfl := Option.some.inj hf
        exact j_zret C hr hk (by decide) ⟨Nat.le_of_ble_eq_true rfl, Nat.le_of_ble_eq_true rfl⟩ rfl dX0_atEnd_31
      · refine j_iconst (v := 1) C (by decide) dX0_atEnd_26 ?_
        refine j_goto C 31 dX0_atEnd_27 (by decide) ?_
        obtain rfl := Option.some.inj hf
        exact j_zret C hr hk (by decide) ⟨Nat.le_of_ble_eq_true rfl, Nat.le_of_ble_eq_true rfl⟩ rfl dX0_atEnd_31
set_option maxRecDepth 100000 in
set_option maxHeartbeats 4000000 in
theorem k_X0_takesComma {l : Launch} {G : GT} {ad : Nat → Nat} {a : KS} {b : MS} {rr : Int32 × KS} (hf : f_X0_takesComma a = some rr) : MT l G yX0_takesComma cX0_takesComma 2 (some .boolean) (RM 2) [.ref (ad 18)] ad a b (some (.int rr.1)) rr.2 b := by
  refine MT_of (by decide) (Nat.le_of_ble_eq_true rfl) ?_
  intro p e s m args below meth c A C hr hk
  unfold f_X0_takesComma at hf
  refine j_aload_n C 0 rfl dX0_takesComma_0 ?_
  obtain ⟨z1, h2, hf⟩ := bnd_some hf
  refine j_callV (q := 18) (As := []) (rest := []) C (k_X0_atEnd h2) cw_X0_atEnd ml_X0_35 m_18 ce_18 rfl rfl ⟨Nat.le_of_ble_eq_true rfl, Nat.le_of_ble_eq_true rfl⟩ ⟨Nat.le_of_ble_eq_true rfl, Nat.le_of_ble_eq_true rfl⟩ rfl (Nat.le_of_ble_eq_true rfl) dX0_takesComma_1 ?_
  refine j_istore_n (i := 1) (lv' := [(1, .int z1), (0, .ref (ad 18))]) C dX0_takesComma_4 rfl (by decide) rfl ?_
  refine j_iload_n C 0 rfl dX0_takesComma_5 ?_
  refine j_if_eq C 13 dX0_takesComma_6 (by decide) hf (fun y4 hf => ?_) (fun y4 hf => ?_)
  · refine j_iload_n C 0 rfl dX0_takesComma_13 ?_
    obtain ⟨h5, hf⟩ := gd_some hf
    obtain rfl := Option.some.inj hf
    exact j_zret C hr hk (okz_n h5) ⟨Nat.le_of_ble_eq_true rfl, Nat.le_of_ble_eq_true rfl⟩ rfl dX0_takesComma_14
  · refine j_aload_n C 1 rfl dX0_takesComma_9 ?_
    obtain ⟨z6, h7, hf⟩ := bnd_some hf
    refine j_callV (q := 18) (As := []) (rest := []) C (k_X0_begin h7) cw_X0_begin ml_X0_38 m_18 ce_18 rfl rfl ⟨Nat.le_of_ble_eq_true rfl, Nat.le_of_ble_eq_true rfl⟩ ⟨Nat.le_of_ble_eq_true rfl, Nat.le_of_ble_eq_true rfl⟩ rfl (Nat.le_of_ble_eq_true rfl) dX0_takesComma_10 ?_
    refine j_iload_n C 0 rfl dX0_takesComma_13 ?_
    obtain ⟨h11, hf⟩ := gd_some hf
    obtain rfl := Option.some.inj hf
    exact j_zret C hr hk (okz_n h11) ⟨Nat.le_of_ble_eq_true rfl, Nat.le_of_ble_eq_true rfl⟩ rfl dX0_takesComma_14
set_option maxRecDepth 100000 in
set_option maxHeartbeats 4000000 in
theorem k_X0_takesDigit {l : Launch} {G : GT} {ad : Nat → Nat} {a : KS} {v1 : Int32} {b : MS} {rr : Int32 × KS} (hf : f_X0_takesDigit a v1 = some rr) : MT l G yX0_takesDigit cX0_takesDigit 3 (some .boolean) (RM 1) [.ref (ad 18), .int v1] ad a b (some (.int rr.1)) rr.2 b := by
  refine MT_of (by decide) (Nat.le_of_ble_eq_true rfl) ?_
  intro p e s m args below meth c A C hr hk
  unfold f_X0_takesDigit at hf
  refine j_bipush (v := 10) C (by decide) dX0_takesDigit_0 ?_
  refine j_aload_n C 0 rfl dX0_takesDigit_2 ?_
  refine j_get (q := 18) (kf := 1) (T := TX0) (N := 2) (RC := RX0) C m_18 ce_18 rfl in_X0 (by decide) (fun _ h9 => h9) fl_X0_15 rfl dX0_takesDigit_3 ?_
  refine j_imul C dX0_takesDigit_6 ?_
  refine j_iload_n C 1 rfl dX0_takesDigit_7 ?_
  refine j_iadd C dX0_takesDigit_8 ?_
  refine j_letI hf (fun x1 hf => ?_)
  refine j_istore_n (i := 2) (lv' := [(2, .int x1), (0, .ref (ad 18)), (1, .int v1)]) C dX0_takesDigit_9 rfl (by decide) rfl ?_
  refine j_iload_n C 0 rfl dX0_takesDigit_10 ?_
  refine j_iconst (v := 1) C (by decide) dX0_takesDigit_11 ?_
  refine j_icmp_lt C 26 dX0_takesDigit_12 (by decide) hf (fun y2 hf => ?_) (fun y2 hf => ?_)
  · refine j_iconst (v := 0) C (by decide) dX0_takesDigit_26 ?_
    obtain rfl := Option.some.inj hf
    exact j_zret C hr hk (by decide) ⟨Nat.le_of_ble_eq_true rfl, Nat.le_of_ble_eq_true rfl⟩ rfl dX0_takesDigit_27
  · refine j_iload_n C 0 rfl dX0_takesDigit_15 ?_
    refine j_aload_n C 1 rfl dX0_takesDigit_16 ?_
    refine j_get (q := 18) (kf := 0) (T := TX0) (N := 2) (RC := RX0) C m_18 ce_18 rfl in_X0 (by decide) (fun _ h9 => h9) fl_X0_11 rfl dX0_takesDigit_17 ?_
    obtain ⟨z3, h4, hf⟩ := bnd_some hf
    refine j_callS (As := [.int (Khi a 18 0)]) (rest := [.int x1]) C (k_X0_mostFor h4) cw_X0_mostFor ml_X0_31 rfl ⟨Nat.le_of_ble_eq_true rfl, Nat.le_of_ble_eq_true rfl⟩ ⟨Nat.le_of_ble_eq_true rfl, Nat.le_of_ble_eq_true rfl⟩ rfl (Nat.le_of_ble_eq_true rfl) dX0_takesDigit_20 ?_
    refine j_icmp_le C 28 dX0_takesDigit_23 (by decide) hf (fun y6 hf => ?_) (fun y6 hf => ?_)
    · refine j_aload_n C 1 rfl dX0_takesDigit_28 ?_
      refine j_iload_n C 0 rfl dX0_takesDigit_29 ?_
      refine put_X0_1 C fl_X0_15 rfl rfl dX0_takesDigit_30 ?_
      refine j_iconst (v := 1) C (by decide) dX0_takesDigit_33 ?_
      obtain rfl := Option.some.inj hf
      exact j_zret C hr hk (by decide) ⟨Nat.le_of_ble_eq_true rfl, Nat.le_of_ble_eq_true rfl⟩ rfl dX0_takesDigit_34
    · refine j_iconst (v := 0) C (by decide) dX0_takesDigit_26 ?_
      obtain rfl := Option.some.inj hf
      exact j_zret C hr hk (by decide) ⟨Nat.le_of_ble_eq_true rfl, Nat.le_of_ble_eq_true rfl⟩ rfl dX0_takesDigit_27
set_option maxRecDepth 100000 in
set_option maxHeartbeats 4000000 in
theorem k_X0_takes {l : Launch} {G : GT} {ad : Nat → Nat} {a : KS} {v1 : Int32} {b : MS} {rr : Int32 × KS} (hf : f_X0_takes a v1 = some rr) : MT l G yX0_takes cX0_takes 2 (some .boolean) (RM 3) [.ref (ad 18), .int v1] ad a b (some (.int rr.1)) rr.2 b := by
  refine MT_of (by decide) (Nat.le_of_ble_eq_true rfl) ?_
  intro p e s m args below meth c A C hr hk
  unfold f_X0_takes at hf
  refine j_aload_n C 0 rfl dX0_takes_0 ?_
  refine j_get (q := 18) (kf := 0) (T := TX0) (N := 2) (RC := RX0) C m_18 ce_18 rfl in_X0 (by decide) (fun _ h9 => h9) fl_X0_11 rfl dX0_takes_1 ?_
  refine j_bipush (v := 32) C (by decide) dX0_takes_4 ?_
  refine j_icmp_ne C 15 dX0_takes_6 (by decide) hf (fun y1 hf => ?_) (fun y1 hf => ?_)
  · refine j_iload_n C 1 rfl dX0_takes_15 ?_
    refine j_bipush (v := 44) C (by decide) dX0_takes_16 ?_
    refine j_icmp_ne C 26 dX0_takes_18 (by decide) hf (fun y2 hf => ?_) (fun y2 hf => ?_)
    · refine j_iload_n C 1 rfl dX0_takes_26 ?_
      refine j_bipush (v := 48) C (by decide) dX0_takes_27 ?_
      refine j_icmp_lt C 53 dX0_takes_29 (by decide) hf (fun y3 hf => ?_) (fun y3 hf => ?_)
      · refine j_iconst (v := 0) C (by decide) dX0_takes_53 ?_
        obtain rfl := Option.some.inj hf
        exact j_zret C hr hk (by decide) ⟨Nat.le_of_ble_eq_true rfl, Nat.le_of_ble_eq_true rfl⟩ rfl dX0_takes_54
      · refine j_iload_n C 1 rfl dX0_takes_32 ?_
        refine j_bipush (v := 57) C (by decide) dX0_takes_33 ?_
        refine j_icmp_gt C 53 dX0_takes_35 (by decide) hf (fun y4 hf => ?_) (fun y4 hf => ?_)
        · refine j_iconst (v := 0) C (by decide) dX0_takes_53 ?_
          obtain rfl := Option.some.inj hf
          exact j_zret C hr hk (by decide) ⟨Nat.le_of_ble_eq_true rfl, Nat.le_of_ble_eq_true rfl⟩ rfl dX0_takes_54
        · refine j_aload_n C 0 rfl dX0_takes_38 ?_
          refine j_iload_n C 1 rfl dX0_takes_39 ?_
          refine j_bipush (v := 48) C (by decide) dX0_takes_40 ?_
          refine j_isub C dX0_takes_42 ?_
          obtain ⟨z5, h6, hf⟩ := bnd_some hf
          refine j_callV (q := 18) (As := [.int (v1 - 48)]) (rest := []) C (k_X0_takesDigit h6) cw_X0_takesDigit ml_X0_27 m_18 ce_18 rfl rfl ⟨Nat.le_of_ble_eq_true rfl, Nat.le_of_ble_eq_true rfl⟩ ⟨Nat.le_of_ble_eq_true rfl, Nat.le_of_ble_eq_true rfl⟩ rfl (Nat.le_of_ble_eq_true rfl) dX0_takes_43 ?_
          refine j_if_eq C 53 dX0_takes_46 (by decide) hf (fun y10 hf => ?_) (fun y10 hf => ?_)
          · refine j_iconst (v := 0) C (by decide) dX0_takes_53 ?_
            obtain rfl := Option.some.inj hf
            exact j_zret C hr hk (by decide) ⟨Nat.le_of_ble_eq_true rfl, Nat.le_of_ble_eq_true rfl⟩ rfl dX0_takes_54
          · refine j_iconst (v := 1) C (by decide) dX0_takes_49 ?_
            refine j_goto C 54 dX0_takes_50 (by decide) ?_
            obtain rfl := Option.some.inj hf
            exact j_zret C hr hk (by decide) ⟨Nat.le_of_ble_eq_true rfl, Nat.le_of_ble_eq_true rfl⟩ rfl dX0_takes_54
    · refine j_aload_n C 0 rfl dX0_takes_21 ?_
      obtain ⟨z11, h12, hf⟩ := bnd_some hf
      refine j_callV (q := 18) (As := []) (rest := []) C (k_X0_takesComma h12) cw_X0_takesComma ml_X0_23 m_18 ce_18 rfl rfl ⟨Nat.le_of_ble_eq_true rfl, Nat.le_of_ble_eq_true rfl⟩ ⟨Nat.le_of_ble_eq_true rfl, Nat.le_of_ble_eq_true rfl⟩ rfl (Nat.le_of_ble_eq_true rfl) dX0_takes_22 ?_
      obtain ⟨h16, hf⟩ := gd_some hf
      obtain rfl := Option.some.inj hf
      exact j_zret C hr hk (okz_n h16) ⟨Nat.le_of_ble_eq_true rfl, Nat.le_of_ble_eq_true rfl⟩ rfl dX0_takes_25
  · refine j_aload_n C 0 rfl dX0_takes_9 ?_
    refine j_iload_n C 1 rfl dX0_takes_10 ?_
    obtain ⟨z17, h18, hf⟩ := bnd_some hf
    refine j_callV (q := 18) (As := [.int v1]) (rest := []) C (k_X0_takesVerb h18) cw_X0_takesVerb ml_X0_19 m_18 ce_18 rfl rfl ⟨Nat.le_of_ble_eq_true rfl, Nat.le_of_ble_eq_true rfl⟩ ⟨Nat.le_of_ble_eq_true rfl, Nat.le_of_ble_eq_true rfl⟩ rfl (Nat.le_of_ble_eq_true rfl) dX0_takes_11 ?_
    obtain ⟨h22, hf⟩ := gd_some hf
    obtain rfl := Option.some.inj hf
    exact j_zret C hr hk (okz_n h22) ⟨Nat.le_of_ble_eq_true rfl, Nat.le_of_ble_eq_true rfl⟩ rfl dX0_takes_14
