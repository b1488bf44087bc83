set_option maxRecDepth 100000 in
set_option maxHeartbeats 4000000 in
theorem k_X8_itemNumbered {l : Launch} {G : GT} {ad : Nat → Nat} {a : KS} {v1 : Int32} {b : MS} {rr : Nat × Option Nat} (hf : f_X8_itemNumbered a v1 = some rr) (h0 : rr.1 = 0) : MT l G yX8_itemNumbered cX8_itemNumbered 3 (some (.object "KnobMenu$Item")) (RM 1) [.ref (ad 0), .int v1] ad a b (some (itv ad rr.2)) a b := by
  refine MT_of2 (lv := [(0, .ref (ad 0)), (1, .int v1)]) (by decide) (by first | exact Nat.le_of_ble_eq_true rfl | (simp only [lg_sl, List.flatMap_cons, List.flatMap_nil, itv_cat]; exact Nat.le_of_ble_eq_true rfl)) (by first | rfl | (simp only [lv_args, itv_cat] <;> rfl)) ?_
  intro p e s m args below meth c A C hr hk
  unfold f_X8_itemNumbered at hf
  refine j_aload_n C 0 rfl dX8_itemNumbered_0 ?_
  refine j_get (q := 0) (kf := 0) (T := TX8) (N := 7) (RC := RX8) C m_0 ce_0 rfl in_X8 (by decide) (fun _ h9 => h9) fl_X8_10 rfl dX8_itemNumbered_1 ?_
  refine j_iload_n C 1 rfl dX8_itemNumbered_4 ?_
  obtain ⟨z1, h2, hf⟩ := bnd_some hf
  refine j_callV (q := 1) (As := [.int v1]) (rest := []) C (k_X7_find h2) cw_X7_find ml_X8_251 m_1 ce_1 rfl rfl ⟨Nat.le_of_ble_eq_true rfl, Nat.le_of_ble_eq_true rfl⟩ ⟨Nat.le_of_ble_eq_true rfl, Nat.le_of_ble_eq_true rfl⟩ rfl (Nat.le_of_ble_eq_true rfl) dX8_itemNumbered_5 ?_
  refine j_astore_nq (i := 2) (lv' := [(2, itv ad z1), (0, .ref (ad 0)), (1, .int v1)]) (o := z1) C dX8_itemNumbered_8 rfl (by decide) rfl ?_
  refine j_aload_nq C 0 rfl dX8_itemNumbered_9 ?_
  refine j_ifnonnull C 24 dX8_itemNumbered_10 (by decide) hf (fun e6 hg => ?_) (fun i5 e6 hg => ?_)
  · clear hf
    subst e6
    have hf := hg
    clear hg
    obtain rfl := Option.some.inj hf
    exact absurd (show (1 : Nat) = 0 from h0) (by decide)
  · clear hf
    subst e6
    have hf := hg
    clear hg
    refine j_aload_n C 0 rfl dX8_itemNumbered_24 ?_
    obtain rfl := Option.some.inj hf
    exact j_aret C hr hk (Or.inl ⟨_, rfl⟩) (itv_nr (ad := ad) (some i5)) ⟨Nat.le_of_ble_eq_true rfl, Nat.le_of_ble_eq_true rfl⟩ rfl dX8_itemNumbered_25
set_option maxRecDepth 100000 in
set_option maxHeartbeats 4000000 in
theorem k_X8_menuNumbered {l : Launch} {G : GT} {ad : Nat → Nat} {a : KS} {v1 : Int32} {b : MS} {rr : Nat × Option Nat} (hf : f_X8_menuNumbered a v1 = some rr) (h0 : rr.1 = 0) : MT l G yX8_menuNumbered cX8_menuNumbered 3 (some (.object "KnobMenu$Item")) (RM 2) [.ref (ad 0), .int v1] ad a b (some (itv ad rr.2)) a b := by
  refine MT_of2 (lv := [(0, .ref (ad 0)), (1, .int v1)]) (by decide) (by first | exact Nat.le_of_ble_eq_true rfl | (simp only [lg_sl, List.flatMap_cons, List.flatMap_nil, itv_cat]; exact Nat.le_of_ble_eq_true rfl)) (by first | rfl | (simp only [lv_args, itv_cat] <;> rfl)) ?_
  intro p e s m args below meth c A C hr hk
  unfold f_X8_menuNumbered at hf
  refine j_aload_n C 0 rfl dX8_menuNumbered_0 ?_
  refine j_iload_n C 1 rfl dX8_menuNumbered_1 ?_
  obtain ⟨z1, h2, hf⟩ := bnd_some hf
  have y3 : z1.1 = 0 := by refine Classical.byContradiction fun q => ?_; have hf := (if_neg q).symm.trans hf; obtain rfl := Option.some.inj hf; exact q h0
  have hf := (if_pos y3).symm.trans hf
  refine j_callV (q := 0) (As := [.int v1]) (rest := []) C (k_X8_itemNumbered h2 y3) cw_X8_itemNumbered ml_X8_86 m_0 ce_0 rfl rfl ⟨Nat.le_of_ble_eq_true rfl, Nat.le_of_ble_eq_true rfl⟩ ⟨Nat.le_of_ble_eq_true rfl, Nat.le_of_ble_eq_true rfl⟩ rfl (Nat.le_of_ble_eq_true rfl) dX8_menuNumbered_2 ?_
  refine j_letO hf (fun o4 hf => ?_)
  refine j_astore_nq (i := 2) (lv' := [(2, itv ad o4), (0, .ref (ad 0)), (1, .int v1)]) (o := o4) C dX8_menuNumbered_5 rfl (by decide) rfl ?_
  refine j_aload_nq C 0 rfl dX8_menuNumbered_6 ?_
  obtain ⟨i5, e7, h6, hg⟩ := odr_some hf
  clear hf
  subst e7
  have hf := hg
  clear hg
  refine j_get (q := (ip i5)) (kf := 1) (T := TX4) (N := 13) (RC := RX4) C (mem_ip h6) ce_item rfl in_X4 (by decide) (fun _ h9 => h9) fl_X8_110 rfl dX8_menuNumbered_7 ?_
  refine j_if_eq C 24 dX8_menuNumbered_10 (by decide) hf (fun y8 hf => ?_) (fun y8 hf => ?_)
  · refine j_aload_n C 0 rfl dX8_menuNumbered_24 ?_
    obtain rfl := Option.some.inj hf
    exact j_aret C hr hk (Or.inl ⟨_, rfl⟩) (itv_nr (ad := ad) (some i5)) ⟨Nat.le_of_ble_eq_true rfl, Nat.le_of_ble_eq_true rfl⟩ rfl dX8_menuNumbered_25
  · obtain rfl := Option.some.inj hf
    exact absurd (show (2 : Nat) = 0 from h0) (by decide)
set_option maxRecDepth 100000 in
set_option maxHeartbeats 4000000 in
theorem k_X8_requireHome {l : Launch} {G : GT} {ad : Nat → Nat} {a : KS} {b : MS} {rr : Nat} (hf : f_X8_requireHome a = some rr) (h0 : rr = 0) : MT l G yX8_requireHome cX8_requireHome 1 none (RM 4) [.ref (ad 0)] ad a b (none) a b := by
  refine MT_of2 (lv := [(0, .ref (ad 0))]) (by decide) (by first | exact Nat.le_of_ble_eq_true rfl | (simp only [lg_sl, List.flatMap_cons, List.flatMap_nil, itv_cat]; exact Nat.le_of_ble_eq_true rfl)) (by first | rfl | (simp only [lv_args, itv_cat] <;> rfl)) ?_
  intro p e s m args below meth c A C hr hk
  unfold f_X8_requireHome at hf
  refine j_aload_n C 0 rfl dX8_requireHome_0 ?_
  refine j_get (q := 0) (kf := 4) (T := TX8) (N := 7) (RC := RX8) C m_0 ce_0 rfl in_X8 (by decide) (fun _ h9 => h9) fl_X8_38 rfl dX8_requireHome_1 ?_
  obtain ⟨z1, h2, hf⟩ := bnd_some hf
  refine j_callV (q := 10) (As := []) (rest := []) C (k_X2_atHome h2) cw_X2_atHome ml_X8_224 m_10 ce_10 rfl rfl ⟨Nat.le_of_ble_eq_true rfl, Nat.le_of_ble_eq_true rfl⟩ ⟨Nat.le_of_ble_eq_true rfl, Nat.le_of_ble_eq_true rfl⟩ rfl (Nat.le_of_ble_eq_true rfl) dX8_requireHome_4 ?_
  refine j_if_ne C 21 dX8_requireHome_7 (by decide) hf (fun y4 hf => ?_) (fun y4 hf => ?_)
  · obtain rfl := Option.some.inj hf
    exact j_vret C hr hk ⟨Nat.le_of_ble_eq_true rfl, Nat.le_of_ble_eq_true rfl⟩ rfl dX8_requireHome_21
  · obtain rfl := Option.some.inj hf
    exact absurd (show (3 : Nat) = 0 from h0) (by decide)
set_option maxRecDepth 100000 in
set_option maxHeartbeats 4000000 in
theorem w_X8_lock_35 {b : MS} {p : Program} {l : Launch} {e : Env} {s : State} {m : MethodId} {args : Array Value} {below : List Frame} {meth : Method} {c : Code} {G : GT} {A : Nat → Prop} {ad : Nat → Nat} (C : CX G A RX8 cX8_lock 5 p s m args c) (hr : meth.sig.returnType = (some .int)) (hk : meth.locks = false) {rr : Nat × Int32 × KS} (h0 : rr.1 = 0)   (a : KS) (hf : f_X8_lock_35 a = some rr) : J p l e (RM 5) s m args below meth c G A 5 (MQ below (QV (some (.int rr.2.1)) (PosW G ad rr.2.2 b A) A) args s 0 0 A) 0 0 ad a b 35 [] [] := by
  unfold f_X8_lock_35 at hf
  obtain rfl := Option.some.inj hf
  exact absurd (show (2 : Nat) = 0 from h0) (by decide)
set_option maxRecDepth 100000 in
set_option maxHeartbeats 4000000 in
theorem k_X8_lock {l : Launch} {G : GT} {ad : Nat → Nat} {a : KS} {v1 : Int32} {v2 : Int32} {b : MS} {rr : Nat × Int32 × KS} (hf : f_X8_lock a v1 v2 = some rr) (h0 : rr.1 = 0) : MT l G yX8_lock cX8_lock 5 (some .int) (RM 5) [.ref (ad 0), .int v1, .int v2] ad a b (some (.int rr.2.1)) rr.2.2 b := by
  refine MT_of2 (lv := [(0, .ref (ad 0)), (1, .int v1), (2, .int v2)]) (by decide) (by first | exact Nat.le_of_ble_eq_true rfl | (simp only [lg_sl, List.flatMap_cons, List.flatMap_nil, itv_cat]; exact Nat.le_of_ble_eq_true rfl)) (by first | rfl | (simp only [lv_args, itv_cat] <;> rfl)) ?_
  intro p e s m args below meth c A C hr hk
  unfold f_X8_lock at hf
  refine j_aload_n C 0 rfl dX8_lock_0 ?_
  refine j_iload_n C 1 rfl dX8_lock_1 ?_
  obtain ⟨z1, h2, hf⟩ := bnd_some hf
  have y3 : z1.1 = 0 := by refine Classical.byContradiction fun q => ?_; have hf := (if_neg q).symm.trans hf; obtain rfl := Option.some.inj hf; exact q h0
  have hf := (if_pos y3).symm.trans hf
  refine j_callV (q := 0) (As := [.int v1]) (rest := []) C (k_X8_itemNumbered h2 y3) cw_X8_itemNumbered ml_X8_86 m_0 ce_0 rfl rfl ⟨Nat.le_of_ble_eq_true rfl, Nat.le_of_ble_eq_true rfl⟩ ⟨Nat.le_of_ble_eq_true rfl, Nat.le_of_ble_eq_true rfl⟩ rfl (Nat.le_of_ble_eq_true rfl) dX8_lock_2 ?_
  refine j_letO hf (fun o4 hf => ?_)
  refine j_astore_nq (i := 3) (lv' := [(3, itv ad o4), (0, .ref (ad 0)), (1, .int v1), (2, .int v2)]) (o := o4) C dX8_lock_5 rfl (by decide) rfl ?_
  refine j_aload_nq C 0 rfl dX8_lock_6 ?_
  obtain ⟨i5, e7, h6, hg⟩ := odr_some hf
  clear hf
  subst e7
  have hf := hg
  clear hg
  refine j_get (q := (ip i5)) (kf := 2) (T := TX4) (N := 13) (RC := RX4) C (mem_ip h6) ce_item rfl in_X4 (by decide) (fun _ h9 => h9) fl_X8_89 rfl dX8_lock_7 ?_
  refine j_letO hf (fun o8 hf => ?_)
  refine j_ifnonnull C 23 dX8_lock_10 (by decide) hf (fun e11 hg => ?_) (fun i10 e11 hg => ?_)
  · clear hf
    subst e11
    have hf := hg
    clear hg
    obtain rfl := Option.some.inj hf
    exact absurd (show (2 : Nat) = 0 from h0) (by decide)
  · clear hf
    subst e11
    have hf := hg
    clear hg
    refine j_iload_n C 3 rfl dX8_lock_23 ?_
    refine j_iconst (v := -1) C (by decide) dX8_lock_24 ?_
    refine j_icmp_lt C 35 dX8_lock_25 (by decide) hf (fun y12 hf => ?_) (fun y12 hf => ?_)
    · refine j_sub [] rfl ?_
      exact w_X8_lock_35 C hr hk h0 a hf
    · refine j_iload_n C 3 rfl dX8_lock_28 ?_
      refine j_sipush (v := 9999) C (by decide) dX8_lock_29 ?_
      refine j_icmp_le C 45 dX8_lock_32 (by decide) hf (fun y13 hf => ?_) (fun y13 hf => ?_)
      · refine j_aload_n C 1 rfl dX8_lock_45 ?_
        obtain ⟨z14, h15, hf⟩ := bnd_some hf
        have y16 : z14 = 0 := by refine Classical.byContradiction fun q => ?_; have hf := (if_neg q).symm.trans hf; obtain rfl := Option.some.inj hf; exact q h0
        have hf := (if_pos y16).symm.trans hf
        refine j_callV (q := 0) (As := []) (rest := []) C (k_X8_requireHome h15 y16) cw_X8_requireHome ml_X8_97 m_0 ce_0 rfl rfl ⟨Nat.le_of_ble_eq_true rfl, Nat.le_of_ble_eq_true rfl⟩ ⟨Nat.le_of_ble_eq_true rfl, Nat.le_of_ble_eq_true rfl⟩ rfl (Nat.le_of_ble_eq_true rfl) dX8_lock_46 ?_
        refine j_aload_n C 0 rfl dX8_lock_49 ?_
        refine j_get (q := (ip i5)) (kf := 11) (T := TX4) (N := 13) (RC := RX4) C (mem_ip h6) ce_item rfl in_X4 (by decide) (fun _ h9 => h9) fl_X8_100 rfl dX8_lock_50 ?_
        refine j_letI hf (fun x17 hf => ?_)
        refine j_istore (lv' := [(4, .int x17), (3, .ref (ad (ip i5))), (0, .ref (ad 0)), (1, .int v1), (2, .int v2)]) C dX8_lock_53 (by decide) rfl ?_
        refine j_aload_n C 1 rfl dX8_lock_55 ?_
        refine j_iload_n C 4 rfl dX8_lock_56 ?_
        refine put_X4_11 C h6 fl_X8_100 rfl rfl dX8_lock_57 ?_
        refine j_aload_n C 1 rfl dX8_lock_60 ?_
        refine j_iconst (v := 0) C (by decide) dX8_lock_61 ?_
        obtain ⟨h18, hf⟩ := gd_some hf
        refine put_X4_12 C h6 fl_X8_103 (okz_n h18) (okz_f h18) dX8_lock_62 ?_
        refine j_iload C 0 rfl dX8_lock_65 ?_
        obtain rfl := Option.some.inj hf
        exact j_iret C hr hk ⟨Nat.le_of_ble_eq_true rfl, Nat.le_of_ble_eq_true rfl⟩ rfl dX8_lock_67
      · refine j_sub [] rfl ?_
        exact w_X8_lock_35 C hr hk h0 a hf
set_option maxRecDepth 100000 in
set_option maxHeartbeats 4000000 in
theorem k_X8_items {l : Launch} {G : GT} {ad : Nat → Nat} {a : KS} {b : MS} {rr : Int32} (hf : f_X8_items a = some rr) : MT l G yX8_items cX8_items 1 (some .int) (RM 0) [.ref (ad 0)] ad a b (some (.int rr)) a b := by
  refine MT_of (by decide) (Nat.le_of_ble_eq_true rfl) ?_
  intro p e s m args below meth c A C hr hk
  unfold f_X8_items at hf
  refine j_aload_n C 0 rfl dX8_items_0 ?_
  refine j_get (q := 0) (kf := 0) (T := TX8) (N := 7) (RC := RX8) C m_0 ce_0 rfl in_X8 (by decide) (fun _ h9 => h9) fl_X8_10 rfl dX8_items_1 ?_
  refine j_get (q := 1) (kf := 2) (T := TX7) (N := 3) (RC := RX7) C m_1 ce_1 rfl in_X7 (by decide) (fun _ h9 => h9) fl_X8_107 rfl dX8_items_4 ?_
  obtain rfl := Option.some.inj hf
  exact j_iret C hr hk ⟨Nat.le_of_ble_eq_true rfl, Nat.le_of_ble_eq_true rfl⟩ rfl dX8_items_7
set_option maxRecDepth 100000 in
set_option maxHeartbeats 4000000 in
theorem k_X8_kind {l : Launch} {G : GT} {ad : Nat → Nat} {a : KS} {v1 : Int32} {b : MS} {rr : Nat × Int32} (hf : f_X8_kind a v1 = some rr) (h0 : rr.1 = 0) : MT l G yX8_kind cX8_kind 2 (some .int) (RM 2) [.ref (ad 0), .int v1] ad a b (some (.int rr.2)) a b := by
  refine MT_of2 (lv := [(0, .ref (ad 0)), (1, .int v1)]) (by decide) (by first | exact Nat.le_of_ble_eq_true rfl | (simp only [lg_sl, List.flatMap_cons, List.flatMap_nil, itv_cat]; exact Nat.le_of_ble_eq_true rfl)) (by first | rfl | (simp only [lv_args, itv_cat] <;> rfl)) ?_
  intro p e s m args below meth c A C hr hk
  unfold f_X8_kind at hf
  refine j_aload_n C 0 rfl dX8_kind_0 ?_
  refine j_iload_n C 1 rfl dX8_kind_1 ?_
  obtain ⟨z1, h2, hf⟩ := bnd_some hf
  have y3 : z1.1 = 0 := by refine Classical.byContradiction fun q => ?_; have hf := (if_neg q).symm.trans hf; obtain rfl := Option.some.inj hf; exact q h0
  have hf := (if_pos y3).symm.trans hf
  refine j_callV (q := 0) (As := [.int v1]) (rest := []) C (k_X8_itemNumbered h2 y3) cw_X8_itemNumbered ml_X8_86 m_0 ce_0 rfl rfl ⟨Nat.le_of_ble_eq_true rfl, Nat.le_of_ble_eq_true rfl⟩ ⟨Nat.le_of_ble_eq_true rfl, Nat.le_of_ble_eq_true rfl⟩ rfl (Nat.le_of_ble_eq_true rfl) dX8_kind_2 ?_
  refine j_letO hf (fun o4 hf => ?_)
  obtain ⟨i5, e7, h6, hg⟩ := odr_some hf
  clear hf
  subst e7
  have hf := hg
  clear hg
  refine j_get (q := (ip i5)) (kf := 1) (T := TX4) (N := 13) (RC := RX4) C (mem_ip h6) ce_item rfl in_X4 (by decide) (fun _ h9 => h9) fl_X8_110 rfl dX8_kind_5 ?_
  obtain rfl := Option.some.inj hf
  exact j_iret C hr hk ⟨Nat.le_of_ble_eq_true rfl, Nat.le_of_ble_eq_true rfl⟩ rfl dX8_kind_8
set_option maxRecDepth 100000 in
set_option maxHeartbeats 4000000 in
theorem k_X8_numberOf {l : Launch} {G : GT} {ad : Nat → Nat} {a : KS} {v0 : Option Nat} {b : MS} {rr : Int32} (hf : f_X8_numberOf a v0 = some rr) : MT l G yX8_numberOf cX8_numberOf 1 (some .int) (RM 0) [itv ad v0] ad a b (some (.int rr)) a b := by
  refine MT_of2 (lv := [(0, itv ad v0)]) (by decide) (by simp only [lg_sl, List.flatMap_cons, List.flatMap_nil, itv_cat]; exact Nat.le_of_ble_eq_true rfl) (by simp only [lv_args, itv_cat] <;> rfl) ?_
  intro p e s m args below meth c A C hr hk
  unfold f_X8_numberOf at hf
  refine j_aload_nq C 0 rfl dX8_numberOf_0 ?_
  refine j_ifnonnull C 8 dX8_numberOf_1 (by decide) hf (fun e3 hg => ?_) (fun i2 e3 hg => ?_)
  · clear hf
    subst e3
    have hf := hg
    clear hg
    refine j_iconst (v := -1) C (by decide) dX8_numberOf_4 ?_
    refine j_goto C 12 dX8_numberOf_5 (by decide) ?_
    obtain rfl := Option.some.inj hf
    exact j_iret C hr hk ⟨Nat.le_of_ble_eq_true rfl, Nat.le_of_ble_eq_true rfl⟩ rfl dX8_numberOf_12
  · clear hf
    subst e3
    have hf := hg
    clear hg
    refine j_aload_n C 0 rfl dX8_numberOf_8 ?_
    obtain ⟨h4, hf⟩ := gd_some hf
    have h4 := of_decide_eq_true h4
    refine j_get (q := (ip i2)) (kf := 0) (T := TX4) (N := 13) (RC := RX4) C (mem_ip h4) ce_item rfl in_X4 (by decide) (fun _ h9 => h9) fl_X8_180 rfl dX8_numberOf_9 ?_
    obtain rfl := Option.some.inj hf
    exact j_iret C hr hk ⟨Nat.le_of_ble_eq_true rfl, Nat.le_of_ble_eq_true rfl⟩ rfl dX8_numberOf_12
set_option maxRecDepth 100000 in
set_option maxHeartbeats 4000000 in
theorem k_X8_menuOf {l : Launch} {G : GT} {ad : Nat → Nat} {a : KS} {v1 : Int32} {b : MS} {rr : Nat × Int32} (hf : f_X8_menuOf a v1 = some rr) (h0 : rr.1 = 0) : MT l G yX8_menuOf cX8_menuOf 2 (some .int) (RM 2) [.ref (ad 0), .int v1] ad a b (some (.int rr.2)) a b := by
  refine MT_of2 (lv := [(0, .ref (ad 0)), (1, .int v1)]) (by decide) (by first | exact Nat.le_of_ble_eq_true rfl | (simp only [lg_sl, List.flatMap_cons, List.flatMap_nil, itv_cat]; exact Nat.le_of_ble_eq_true rfl)) (by first | rfl | (simp only [lv_args, itv_cat] <;> rfl)) ?_
  intro p e s m args below meth c A C hr hk
  unfold f_X8_menuOf at hf
  refine j_aload_n C 0 rfl dX8_menuOf_0 ?_
  refine j_iload_n C 1 rfl dX8_menuOf_1 ?_
  obtain ⟨z1, h2, hf⟩ := bnd_some hf
  have y3 : z1.1 = 0 := by refine Classical.byContradiction fun q => ?_; have hf := (if_neg q).symm.trans hf; obtain rfl := Option.some.inj hf; exact q h0
  have hf := (if_pos y3).symm.trans hf
  refine j_callV (q := 0) (As := [.int v1]) (rest := []) C (k_X8_itemNumbered h2 y3) cw_X8_itemNumbered ml_X8_86 m_0 ce_0 rfl rfl ⟨Nat.le_of_ble_eq_true rfl, Nat.le_of_ble_eq_true rfl⟩ ⟨Nat.le_of_ble_eq_true rfl, Nat.le_of_ble_eq_true rfl⟩ rfl (Nat.le_of_ble_eq_true rfl) dX8_menuOf_2 ?_
  refine j_letO hf (fun o4 hf => ?_)
  obtain ⟨i5, e7, h6, hg⟩ := odr_some hf
  clear hf
  subst e7
  have hf := hg
  clear hg
  refine j_get (q := (ip i5)) (kf := 2) (T := TX4) (N := 13) (RC := RX4) C (mem_ip h6) ce_item rfl in_X4 (by decide) (fun _ h9 => h9) fl_X8_89 rfl dX8_menuOf_5 ?_
  refine j_letO hf (fun o8 hf => ?_)
  obtain ⟨z9, h10, hf⟩ := bnd_some hf
  refine j_callS (As := [itv ad o8]) (rest := []) C (k_X8_numberOf h10) cw_X8_numberOf ml_X8_113 rfl ⟨Nat.le_of_ble_eq_true rfl, Nat.le_of_ble_eq_true rfl⟩ ⟨Nat.le_of_ble_eq_true rfl, Nat.le_of_ble_eq_true rfl⟩ rfl (Nat.le_of_ble_eq_true rfl) dX8_menuOf_8 ?_
  obtain rfl := Option.some.inj hf
  exact j_iret C hr hk ⟨Nat.le_of_ble_eq_true rfl, Nat.le_of_ble_eq_true rfl⟩ rfl dX8_menuOf_11
set_option maxRecDepth 100000 in
set_option maxHeartbeats 4000000 in
theorem k_X8_value {l : Launch} {G : GT} {ad : Nat → Nat} {a : KS} {v1 : Int32} {b : MS} {rr : Nat × Int32} (hf : f_X8_value a v1 = some rr) (h0 : rr.1 = 0) : MT l G yX8_value cX8_value 3 (some .int) (RM 2) [.ref (ad 0), .int v1] ad a b (some (.int rr.2)) a b := by
  refine MT_of2 (lv := [(0, .ref (ad 0)), (1, .int v1)]) (by decide) (by first | exact Nat.le_of_ble_eq_true rfl | (simp only [lg_sl, List.flatMap_cons, List.flatMap_nil, itv_cat]; exact Nat.le_of_ble_eq_true rfl)) (by first | rfl | (simp only [lv_args, itv_cat] <;> rfl)) ?_
  intro p e s m args below meth c A C hr hk
  unfold f_X8_value at hf
  refine j_aload_n C 0 rfl dX8_value_0 ?_
  refine j_iload_n C 1 rfl dX8_value_1 ?_
  obtain ⟨z1, h2, hf⟩ := bnd_some hf
  have y3 : z1.1 = 0 := by refine Classical.byContradiction fun q => ?_; have hf := (if_neg q).symm.trans hf; obtain rfl := Option.some.inj hf; exact q h0
  have hf := (if_pos y3).symm.trans hf
  refine j_callV (q := 0) (As := [.int v1]) (rest := []) C (k_X8_itemNumbered h2 y3) cw_X8_itemNumbered ml_X8_86 m_0 ce_0 rfl rfl ⟨Nat.le_of_ble_eq_true rfl, Nat.le_of_ble_eq_true rfl⟩ ⟨Nat.le_of_ble_eq_true rfl, Nat.le_of_ble_eq_true rfl⟩ rfl (Nat.le_of_ble_eq_true rfl) dX8_value_2 ?_
  refine j_letO hf (fun o4 hf => ?_)
  refine j_astore_nq (i := 2) (lv' := [(2, itv ad o4), (0, .ref (ad 0)), (1, .int v1)]) (o := o4) C dX8_value_5 rfl (by decide) rfl ?_
  refine j_aload_nq C 0 rfl dX8_value_6 ?_
  obtain ⟨i5, e7, h6, hg⟩ := odr_some hf
  clear hf
  subst e7
  have hf := hg
  clear hg
  refine j_get (q := (ip i5)) (kf := 1) (T := TX4) (N := 13) (RC := RX4) C (mem_ip h6) ce_item rfl in_X4 (by decide) (fun _ h9 => h9) fl_X8_110 rfl dX8_value_7 ?_
  refine j_if_ne C 23 dX8_value_10 (by decide) hf (fun y8 hf => ?_) (fun y8 hf => ?_)
  · refine j_aload_n C 0 rfl dX8_value_23 ?_
    refine j_get (q := (ip i5)) (kf := 10) (T := TX4) (N := 13) (RC := RX4) C (mem_ip h6) ce_item rfl in_X4 (by decide) (fun _ h9 => h9) fl_X8_119 rfl dX8_value_24 ?_
    obtain rfl := Option.some.inj hf
    exact j_iret C hr hk ⟨Nat.le_of_ble_eq_true rfl, Nat.le_of_ble_eq_true rfl⟩ rfl dX8_value_27
  · obtain rfl := Option.some.inj hf
    exact absurd (show (2 : Nat) = 0 from h0) (by decide)
set_option maxRecDepth 100000 in
set_option maxHeartbeats 4000000 in
theorem k_X8_isClosed {l : Launch} {G : GT} {ad : Nat → Nat} {a : KS} {v1 : Int32} {b : MS} {rr : Nat × Int32} (hf : f_X8_isClosed a v1 = some rr) (h0 : rr.1 = 0) : MT l G yX8_isClosed cX8_isClosed 2 (some .boolean) (RM 2) [.ref (ad 0), .int v1] ad a b (some (.int rr.2)) a b := by
  refine MT_of2 (lv := [(0, .ref (ad 0)), (1, .int v1)]) (by decide) (by first | exact Nat.le_of_ble_eq_true rfl | (simp only [lg_sl, List.flatMap_cons, List.flatMap_nil, itv_cat]; exact Nat.le_of_ble_eq_true rfl)) (by first | rfl | (simp only [lv_args, itv_cat] <;> rfl)) ?_
  intro p e s m args below meth c A C hr hk
  unfold f_X8_isClosed at hf
  refine j_aload_n C 0 rfl dX8_isClosed_0 ?_
  refine j_iload_n C 1 rfl dX8_isClosed_1 ?_
  obtain ⟨z1, h2, hf⟩ := bnd_some hf
  have y3 : z1.1 = 0 := by refine Classical.byContradiction fun q => ?_; have hf := (if_neg q).symm.trans hf; obtain rfl := Option.some.inj hf; exact q h0
  have hf := (if_pos y3).symm.trans hf
  refine j_callV (q := 0) (As := [.int v1]) (rest := []) C (k_X8_itemNumbered h2 y3) cw_X8_itemNumbered ml_X8_86 m_0 ce_0 rfl rfl ⟨Nat.le_of_ble_eq_true rfl, Nat.le_of_ble_eq_true rfl⟩ ⟨Nat.le_of_ble_eq_true rfl, Nat.le_of_ble_eq_true rfl⟩ rfl (Nat.le_of_ble_eq_true rfl) dX8_isClosed_2 ?_
  refine j_letO hf (fun o4 hf => ?_)
  obtain ⟨i5, e7, h6, hg⟩ := odr_some hf
  clear hf
  subst e7
  have hf := hg
  clear hg
  obtain ⟨z8, h9, hf⟩ := bnd_some hf
  refine j_callV (q := (ip i5)) (As := []) (rest := []) C (k_X4_closed h9) cw_X4_closed ml_X8_122 (mem_ip h6) ce_item rfl rfl ⟨Nat.le_of_ble_eq_true rfl, Nat.le_of_ble_eq_true rfl⟩ ⟨Nat.le_of_ble_eq_true rfl, Nat.le_of_ble_eq_true rfl⟩ rfl (Nat.le_of_ble_eq_true rfl) dX8_isClosed_5 ?_
  obtain ⟨h11, hf⟩ := gd_some hf
  obtain rfl := Option.some.inj hf
  exact j_zret C hr hk (okz_n h11) ⟨Nat.le_of_ble_eq_true rfl, Nat.le_of_ble_eq_true rfl⟩ rfl dX8_isClosed_8
set_option maxRecDepth 100000 in
set_option maxHeartbeats 4000000 in
theorem w_X8_requireDetents_12 {b : MS} {p : Program} {l : Launch} {e : Env} {s : State} {m : MethodId} {args : Array Value} {below : List Frame} {meth : Method} {c : Code} {G : GT} {A : Nat → Prop} {ad : Nat → Nat} (C : CX G A RX8 cX8_requireDetents 1 p s m args c) (hr : meth.sig.returnType = none) (hk : meth.locks = false) {rr : Nat} (h0 : rr = 0)   (a : KS) (hf : f_X8_requireDetents_12 a = some rr) : J p l e (RM 1) s m args below meth c G A 1 (MQ below (QV (none) (PosW G ad a b A) A) args s 0 0 A) 0 0 ad a b 12 [] [] := by
  unfold f_X8_requireDetents_12 at hf
  obtain rfl := Option.some.inj hf
  exact absurd (show (2 : Nat) = 0 from h0) (by decide)
set_option maxRecDepth 100000 in
set_option maxHeartbeats 4000000 in
theorem k_X8_requireDetents {l : Launch} {G : GT} {ad : Nat → Nat} {a : KS} {v0 : Int32} {b : MS} {rr : Nat} (hf : f_X8_requireDetents a v0 = some rr) (h0 : rr = 0) : MT l G yX8_requireDetents cX8_requireDetents 1 none (RM 1) [.int v0] ad a b (none) a b := by
  refine MT_of2 (lv := [(0, .int v0)]) (by decide) (by first | exact Nat.le_of_ble_eq_true rfl | (simp only [lg_sl, List.flatMap_cons, List.flatMap_nil, itv_cat]; exact Nat.le_of_ble_eq_true rfl)) (by first | rfl | (simp only [lv_args, itv_cat] <;> rfl)) ?_
  intro p e s m args below meth c A C hr hk
  unfold f_X8_requireDetents at hf
  refine j_iload_n C 0 rfl dX8_requireDetents_0 ?_
  refine j_bipush (v := -50) C (by decide) dX8_requireDetents_1 ?_
  refine j_icmp_lt C 12 dX8_requireDetents_3 (by decide) hf (fun y1 hf => ?_) (fun y1 hf => ?_)
  · refine j_sub [] rfl ?_
    exact w_X8_requireDetents_12 C hr hk h0 a hf
  · refine j_iload_n C 0 rfl dX8_requireDetents_6 ?_
    refine j_bipush (v := 50) C (by decide) dX8_requireDetents_7 ?_
    refine j_icmp_le C 23 dX8_requireDetents_9 (by decide) hf (fun y2 hf => ?_) (fun y2 hf => ?_)
    · obtain rfl := Option.some.inj hf
      exact j_vret C hr hk ⟨Nat.le_of_ble_eq_true rfl, Nat.le_of_ble_eq_true rfl⟩ rfl dX8_requireDetents_23
    · refine j_sub [] rfl ?_
      exact w_X8_requireDetents_12 C hr hk h0 a hf
set_option maxRecDepth 100000 in
set_option maxHeartbeats 4000000 in
theorem k_X8_turn {l : Launch} {G : GT} {ad : Nat → Nat} {a : KS} {v1 : Int32} {b : MS} {rr : Nat × Int32 × KS} (hf : f_X8_turn a v1 = some rr) (h0 : rr.1 = 0) : MT l G yX8_turn cX8_turn 2 (some .int) (RM 5) [.ref (ad 0), .int v1] ad a b (some (.int rr.2.1)) rr.2.2 b := by
  refine MT_of2 (lv := [(0, .ref (ad 0)), (1, .int v1)]) (by decide) (by first | exact Nat.le_of_ble_eq_true rfl | (simp only [lg_sl, List.flatMap_cons, List.flatMap_nil, itv_cat]; exact Nat.le_of_ble_eq_true rfl)) (by first | rfl | (simp only [lv_args, itv_cat] <;> rfl)) ?_
  intro p e s m args below meth c A C hr hk
  unfold f_X8_turn at hf
  refine j_iload_n C 1 rfl dX8_turn_0 ?_
  obtain ⟨z1, h2, hf⟩ := bnd_some hf
  have y3 : z1 = 0 := by refine Classical.byContradiction fun q => ?_; have hf := (if_neg q).symm.trans hf; obtain rfl := Option.some.inj hf; exact q h0
  have hf := (if_pos y3).symm.trans hf
  refine j_callS (As := [.int v1]) (rest := []) C (k_X8_requireDetents h2 y3) cw_X8_requireDetents ml_X8_126 rfl ⟨Nat.le_of_ble_eq_true rfl, Nat.le_of_ble_eq_true rfl⟩ ⟨Nat.le_of_ble_eq_true rfl, Nat.le_of_ble_eq_true rfl⟩ rfl (Nat.le_of_ble_eq_true rfl) dX8_turn_1 ?_
  refine j_aload_n C 0 rfl dX8_turn_4 ?_
  refine j_get (q := 0) (kf := 4) (T := TX8) (N := 7) (RC := RX8) C m_0 ce_0 rfl in_X8 (by decide) (fun _ h9 => h9) fl_X8_38 rfl dX8_turn_5 ?_
  refine j_iload_n C 1 rfl dX8_turn_8 ?_
  obtain ⟨z4, h5, hf⟩ := bnd_some hf
  refine j_callV (q := 10) (As := [.int v1]) (rest := []) C (k_X2_turnBy h5) cw_X2_turnBy ml_X8_130 m_10 ce_10 rfl rfl ⟨Nat.le_of_ble_eq_true rfl, Nat.le_of_ble_eq_true rfl⟩ ⟨Nat.le_of_ble_eq_true rfl, Nat.le_of_ble_eq_true rfl⟩ rfl (Nat.le_of_ble_eq_true rfl) dX8_turn_9 ?_
  obtain rfl := Option.some.inj hf
  exact j_iret C hr hk ⟨Nat.le_of_ble_eq_true rfl, Nat.le_of_ble_eq_true rfl⟩ rfl dX8_turn_12
set_option maxRecDepth 100000 in
set_option maxHeartbeats 4000000 in
theorem k_X8_press {l : Launch} {G : GT} {ad : Nat → Nat} {a : KS} {b : MS} {rr : Int32 × KS} (hf : f_X8_press a = some rr) : MT l G yX8_press cX8_press 1 (some .int) (RM 5) [.ref (ad 0)] ad a b (some (.int rr.1)) rr.2 b := by
  refine MT_of (by decide) (Nat.le_of_ble_eq_true rfl) ?_
  intro p e s m args below meth c A C hr hk
  unfold f_X8_press at hf
  refine j_aload_n C 0 rfl dX8_press_0 ?_
  refine j_get (q := 0) (kf := 4) (T := TX8) (N := 7) (RC := RX8) C m_0 ce_0 rfl in_X8 (by decide) (fun _ h9 => h9) fl_X8_38 rfl dX8_press_1 ?_
  obtain ⟨z1, h2, hf⟩ := bnd_some hf
  refine j_callV (q := 10) (As := []) (rest := []) C (k_X2_pressKnob h2) cw_X2_pressKnob ml_X8_134 m_10 ce_10 rfl rfl ⟨Nat.le_of_ble_eq_true rfl, Nat.le_of_ble_eq_true rfl⟩ ⟨Nat.le_of_ble_eq_true rfl, Nat.le_of_ble_eq_true rfl⟩ rfl (Nat.le_of_ble_eq_true rfl) dX8_press_4 ?_
  obtain rfl := Option.some.inj hf
  exact j_iret C hr hk ⟨Nat.le_of_ble_eq_true rfl, Nat.le_of_ble_eq_true rfl⟩ rfl dX8_press_7
set_option maxRecDepth 100000 in
set_option maxHeartbeats 4000000 in
theorem k_X8_hold {l : Launch} {G : GT} {ad : Nat → Nat} {a : KS} {b : MS} {rr : Int32 × KS} (hf : f_X8_hold a = some rr) : MT l G yX8_hold cX8_hold 1 (some .int) (RM 4) [.ref (ad 0)] ad a b (some (.int rr.1)) rr.2 b := by
  refine MT_of (by decide) (Nat.le_of_ble_eq_true rfl) ?_
  intro p e s m args below meth c A C hr hk
  unfold f_X8_hold at hf
  refine j_aload_n C 0 rfl dX8_hold_0 ?_
  refine j_get (q := 0) (kf := 4) (T := TX8) (N := 7) (RC := RX8) C m_0 ce_0 rfl in_X8 (by decide) (fun _ h9 => h9) fl_X8_38 rfl dX8_hold_1 ?_
  obtain ⟨z1, h2, hf⟩ := bnd_some hf
  refine j_callV (q := 10) (As := []) (rest := []) C (k_X2_holdKnob h2) cw_X2_holdKnob ml_X8_138 m_10 ce_10 rfl rfl ⟨Nat.le_of_ble_eq_true rfl, Nat.le_of_ble_eq_true rfl⟩ ⟨Nat.le_of_ble_eq_true rfl, Nat.le_of_ble_eq_true rfl⟩ rfl (Nat.le_of_ble_eq_true rfl) dX8_hold_4 ?_
  obtain rfl := Option.some.inj hf
  exact j_iret C hr hk ⟨Nat.le_of_ble_eq_true rfl, Nat.le_of_ble_eq_true rfl⟩ rfl dX8_hold_7
set_option maxRecDepth 100000 in
set_option maxHeartbeats 4000000 in
theorem w_X8_tick_11 {b : MS} {p : Program} {l : Launch} {e : Env} {s : State} {m : MethodId} {args : Array Value} {below : List Frame} {meth : Method} {c : Code} {G : GT} {A : Nat → Prop} {ad : Nat → Nat} (C : CX G A RX8 cX8_tick 2 p s m args c) (hr : meth.sig.returnType = (some .int)) (hk : meth.locks = false) {rr : Nat × Int32 × KS} (h0 : rr.1 = 0)   (a : KS) (hf : f_X8_tick_11 a = some rr) : J p l e (RM 6) s m args below meth c G A 2 (MQ below (QV (some (.int rr.2.1)) (PosW G ad rr.2.2 b A) A) args s 0 0 A) 0 0 ad a b 11 [] [] := by
  unfold f_X8_tick_11 at hf
  obtain rfl := Option.some.inj hf
  exact absurd (show (2 : Nat) = 0 from h0) (by decide)
set_option maxRecDepth 100000 in
set_option maxHeartbeats 4000000 in
theorem k_X8_tick {l : Launch} {G : GT} {ad : Nat → Nat} {a : KS} {v1 : Int32} {b : MS} {rr : Nat × Int32 × KS} (hf : f_X8_tick a v1 = some rr) (h0 : rr.1 = 0) : MT l G yX8_tick cX8_tick 2 (some .int) (RM 6) [.ref (ad 0), .int v1] ad a b (some (.int rr.2.1)) rr.2.2 b := by
  refine MT_of2 (lv := [(0, .ref (ad 0)), (1, .int v1)]) (by decide) (by first | exact Nat.le_of_ble_eq_true rfl | (simp only [lg_sl, List.flatMap_cons, List.flatMap_nil, itv_cat]; exact Nat.le_of_ble_eq_true rfl)) (by first | rfl | (simp only [lv_args, itv_cat] <;> rfl)) ?_
  intro p e s m args below meth c A C hr hk
  unfold f_X8_tick at hf
  refine j_iload_n C 1 rfl dX8_tick_0 ?_
  refine j_iconst (v := 1) C (by decide) dX8_tick_1 ?_
  refine j_icmp_lt C 11 dX8_tick_2 (by decide) hf (fun y1 hf => ?_) (fun y1 hf => ?_)
  · refine j_sub [] rfl ?_
    exact w_X8_tick_11 C hr hk h0 a hf
  · refine j_iload_n C 1 rfl dX8_tick_5 ?_
    refine j_bipush (v := 99) C (by decide) dX8_tick_6 ?_
    refine j_icmp_le C 21 dX8_tick_8 (by decide) hf (fun y2 hf => ?_) (fun y2 hf => ?_)
    · refine j_aload_n C 0 rfl dX8_tick_21 ?_
      refine j_get (q := 0) (kf := 4) (T := TX8) (N := 7) (RC := RX8) C m_0 ce_0 rfl in_X8 (by decide) (fun _ h9 => h9) fl_X8_38 rfl dX8_tick_22 ?_
      refine j_iload_n C 1 rfl dX8_tick_25 ?_
      obtain ⟨z3, h4, hf⟩ := bnd_some hf
      refine j_callV (q := 10) (As := [.int v1]) (rest := []) C (k_X2_passTicks h4) cw_X2_passTicks ml_X8_143 m_10 ce_10 rfl rfl ⟨Nat.le_of_ble_eq_true rfl, Nat.le_of_ble_eq_true rfl⟩ ⟨Nat.le_of_ble_eq_true rfl, Nat.le_of_ble_eq_true rfl⟩ rfl (Nat.le_of_ble_eq_true rfl) dX8_tick_26 ?_
      obtain rfl := Option.some.inj hf
      exact j_iret C hr hk ⟨Nat.le_of_ble_eq_true rfl, Nat.le_of_ble_eq_true rfl⟩ rfl dX8_tick_29
    · refine j_sub [] rfl ?_
      exact w_X8_tick_11 C hr hk h0 a hf
set_option maxRecDepth 100000 in
set_option maxHeartbeats 4000000 in
theorem k_X8_leastOf {l : Launch} {G : GT} {ad : Nat → Nat} {a : KS} {v0 : Int32} {b : MS} {rr : Int32} (hf : f_X8_leastOf a v0 = some rr) : MT l G yX8_leastOf cX8_leastOf 1 (some .int) (RM 0) [.int v0] ad a b (some (.int rr)) a b := by
  refine MT_of (by decide) (Nat.le_of_ble_eq_true rfl) ?_
  intro p e s m args below meth c A C hr hk
  unfold f_X8_leastOf at hf
  refine j_iload_n C 0 rfl dX8_leastOf_0 ?_
  refine j_iconst (v := 2) C (by decide) dX8_leastOf_1 ?_
  refine j_icmp_ne C 9 dX8_leastOf_2 (by decide) hf (fun y1 hf => ?_) (fun y1 hf => ?_)
  · refine j_iconst (v := 1) C (by decide) dX8_leastOf_9 ?_
    obtain rfl := Option.some.inj hf
    exact j_iret C hr hk ⟨Nat.le_of_ble_eq_true rfl, Nat.le_of_ble_eq_true rfl⟩ rfl dX8_leastOf_10
  · refine j_iconst (v := 0) C (by decide) dX8_leastOf_5 ?_
    refine j_goto C 10 dX8_leastOf_6 (by decide) ?_
    obtain rfl := Option.some.inj hf
    exact j_iret C hr hk ⟨Nat.le_of_ble_eq_true rfl, Nat.le_of_ble_eq_true rfl⟩ rfl dX8_leastOf_10
set_option maxRecDepth 100000 in
set_option maxHeartbeats 4000000 in
theorem k_X8_mostOf {l : Launch} {G : GT} {ad : Nat → Nat} {a : KS} {v0 : Int32} {b : MS} {rr : Int32} (hf : f_X8_mostOf a v0 = some rr) : MT l G yX8_mostOf cX8_mostOf 1 (some .int) (RM 0) [.int v0] ad a b (some (.int rr)) a b := by
  refine MT_of (by decide) (Nat.le_of_ble_eq_true rfl) ?_
  intro p e s m args below meth c A C hr hk
  unfold f_X8_mostOf at hf
  refine j_iload_n C 0 rfl dX8_mostOf_0 ?_
  refine j_if_ne C 7 dX8_mostOf_1 (by decide) hf (fun y1 hf => ?_) (fun y1 hf => ?_)
  · refine j_iload_n C 0 rfl dX8_mostOf_7 ?_
    refine j_iconst (v := 1) C (by decide) dX8_mostOf_8 ?_
    refine j_icmp_ne C 17 dX8_mostOf_9 (by decide) hf (fun y2 hf => ?_) (fun y2 hf => ?_)
    · refine j_iconst (v := 1) C (by decide) dX8_mostOf_17 ?_
      obtain rfl := Option.some.inj hf
      exact j_iret C hr hk ⟨Nat.le_of_ble_eq_true rfl, Nat.le_of_ble_eq_true rfl⟩ rfl dX8_mostOf_18
    · refine j_bipush (v := 99) C (by decide) dX8_mostOf_12 ?_
      refine j_goto C 18 dX8_mostOf_14 (by decide) ?_
      obtain rfl := Option.some.inj hf
      exact j_iret C hr hk ⟨Nat.le_of_ble_eq_true rfl, Nat.le_of_ble_eq_true rfl⟩ rfl dX8_mostOf_18
  · refine j_bipush (v := 60) C (by decide) dX8_mostOf_4 ?_
    obtain rfl := Option.some.inj hf
    exact j_iret C hr hk ⟨Nat.le_of_ble_eq_true rfl, Nat.le_of_ble_eq_true rfl⟩ rfl dX8_mostOf_6
set_option maxRecDepth 100000 in
set_option maxHeartbeats 4000000 in
theorem w_X8_set_9 {b : MS} {p : Program} {l : Launch} {e : Env} {s : State} {m : MethodId} {args : Array Value} {below : List Frame} {meth : Method} {c : Code} {G : GT} {A : Nat → Prop} {ad : Nat → Nat} (C : CX G A RX8 cX8_set 4 p s m args c) (hr : meth.sig.returnType = (some .int)) (hk : meth.locks = false) {rr : Nat × Int32 × KS} (h0 : rr.1 = 0)   (a : KS) (hf : f_X8_set_9 a = some rr) : J p l e (RM 1) s m args below meth c G A 4 (MQ below (QV (some (.int rr.2.1)) (PosW G ad rr.2.2 b A) A) args s 0 0 A) 0 0 ad a b 9 [] [] := by
  unfold f_X8_set_9 at hf
  obtain rfl := Option.some.inj hf
  exact absurd (show (1 : Nat) = 0 from h0) (by decide)
set_option maxRecDepth 100000 in
set_option maxHeartbeats 4000000 in
theorem w_X8_set_35 {b : MS} {p : Program} {l : Launch} {e : Env} {s : State} {m : MethodId} {args : Array Value} {below : List Frame} {meth : Method} {c : Code} {G : GT} {A : Nat → Prop} {ad : Nat → Nat} (C : CX G A RX8 cX8_set 4 p s m args c) (hr : meth.sig.returnType = (some .int)) (hk : meth.locks = false) {rr : Nat × Int32 × KS} (h0 : rr.1 = 0)   (a : KS) (hf : f_X8_set_35 a = some rr) : J p l e (RM 1) s m args below meth c G A 4 (MQ below (QV (some (.int rr.2.1)) (PosW G ad rr.2.2 b A) A) args s 0 0 A) 0 0 ad a b 35 [] [] := by
  unfold f_X8_set_35 at hf
  obtain rfl := Option.some.inj hf
  exact absurd (show (2 : Nat) = 0 from h0) (by decide)
set_option maxRecDepth 100000 in
set_option maxHeartbeats 4000000 in
theorem k_X8_set {l : Launch} {G : GT} {ad : Nat → Nat} {a : KS} {v1 : Int32} {v2 : Int32} {b : MS} {rr : Nat × Int32 × KS} (hf : f_X8_set a v1 v2 = some rr) (h0 : rr.1 = 0) : MT l G yX8_set cX8_set 4 (some .int) (RM 1) [.ref (ad 0), .int v1, .int v2] ad a b (some (.int rr.2.1)) rr.2.2 b := by
  refine MT_of2 (lv := [(0, .ref (ad 0)), (1, .int v1), (2, .int v2)]) (by decide) (by first | exact Nat.le_of_ble_eq_true rfl | (simp only [lg_sl, List.flatMap_cons, List.flatMap_nil, itv_cat]; exact Nat.le_of_ble_eq_true rfl)) (by first | rfl | (simp only [lv_args, itv_cat] <;> rfl)) ?_
  intro p e s m args below meth c A C hr hk
  unfold f_X8_set at hf
  refine j_iload_n C 1 rfl dX8_set_0 ?_
  refine j_if_lt C 9 dX8_set_1 (by decide) hf (fun y1 hf => ?_) (fun y1 hf => ?_)
  · refine j_sub [] rfl ?_
    exact w_X8_set_9 C hr hk h0 a hf
  · refine j_iload_n C 1 rfl dX8_set_4 ?_
    refine j_iconst (v := 3) C (by decide) dX8_set_5 ?_
    refine j_icmp_lt C 19 dX8_set_6 (by decide) hf (fun y2 hf => ?_) (fun y2 hf => ?_)
    · refine j_iload_n C 2 rfl dX8_set_19 ?_
      refine j_iload_n C 1 rfl dX8_set_20 ?_
      obtain ⟨z3, h4, hf⟩ := bnd_some hf
      refine j_callS (As := [.int v1]) (rest := [.int v2]) C (k_X8_leastOf h4) cw_X8_leastOf ml_X8_151 rfl ⟨Nat.le_of_ble_eq_true rfl, Nat.le_of_ble_eq_true rfl⟩ ⟨Nat.le_of_ble_eq_true rfl, Nat.le_of_ble_eq_true rfl⟩ rfl (Nat.le_of_ble_eq_true rfl) dX8_set_21 ?_
      refine j_icmp_lt C 35 dX8_set_24 (by decide) hf (fun y6 hf => ?_) (fun y6 hf => ?_)
      · refine j_sub [] rfl ?_
        exact w_X8_set_35 C hr hk h0 a hf
      · refine j_iload_n C 2 rfl dX8_set_27 ?_
        refine j_iload_n C 1 rfl dX8_set_28 ?_
        obtain ⟨z7, h8, hf⟩ := bnd_some hf
        refine j_callS (As := [.int v1]) (rest := [.int v2]) C (k_X8_mostOf h8) cw_X8_mostOf ml_X8_154 rfl ⟨Nat.le_of_ble_eq_true rfl, Nat.le_of_ble_eq_true rfl⟩ ⟨Nat.le_of_ble_eq_true rfl, Nat.le_of_ble_eq_true rfl⟩ rfl (Nat.le_of_ble_eq_true rfl) dX8_set_29 ?_
        refine j_icmp_le C 45 dX8_set_32 (by decide) hf (fun y10 hf => ?_) (fun y10 hf => ?_)
        · refine j_aload_n C 0 rfl dX8_set_45 ?_
          refine j_get (q := 0) (kf := 4) (T := TX8) (N := 7) (RC := RX8) C m_0 ce_0 rfl in_X8 (by decide) (fun _ h9 => h9) fl_X8_38 rfl dX8_set_46 ?_
          refine j_iload_n C 1 rfl dX8_set_49 ?_
          obtain ⟨z11, h12, hf⟩ := bnd_some hf
          refine j_callV (q := 10) (As := [.int v1]) (rest := []) C (k_X2_setting h12) cw_X2_setting ml_X8_159 m_10 ce_10 rfl rfl ⟨Nat.le_of_ble_eq_true rfl, Nat.le_of_ble_eq_true rfl⟩ ⟨Nat.le_of_ble_eq_true rfl, Nat.le_of_ble_eq_true rfl⟩ rfl (Nat.le_of_ble_eq_true rfl) dX8_set_50 ?_
          refine j_istore_n (i := 3) (lv' := [(3, .int z11), (0, .ref (ad 0)), (1, .int v1), (2, .int v2)]) C dX8_set_53 rfl (by decide) rfl ?_
          refine j_aload_n C 1 rfl dX8_set_54 ?_
          refine j_get (q := 0) (kf := 4) (T := TX8) (N := 7) (RC := RX8) C m_0 ce_0 rfl in_X8 (by decide) (fun _ h9 => h9) fl_X8_38 rfl dX8_set_55 ?_
          refine j_iload_n C 2 rfl dX8_set_58 ?_
          refine j_iload_n C 3 rfl dX8_set_59 ?_
          obtain ⟨z14, h15, hf⟩ := bnd_some hf
          refine j_callV (q := 10) (As := [.int v1, .int v2]) (rest := []) C (k_X2_changeSetting h15) cw_X2_changeSetting ml_X8_162 m_10 ce_10 rfl rfl ⟨Nat.le_of_ble_eq_true rfl, Nat.le_of_ble_eq_true rfl⟩ ⟨Nat.le_of_ble_eq_true rfl, Nat.le_of_ble_eq_true rfl⟩ rfl (Nat.le_of_ble_eq_true rfl) dX8_set_60 ?_
          refine j_iload_n C 0 rfl dX8_set_63 ?_
          obtain rfl := Option.some.inj hf
          exact j_iret C hr hk ⟨Nat.le_of_ble_eq_true rfl, Nat.le_of_ble_eq_true rfl⟩ rfl dX8_set_64
        · refine j_sub [] rfl ?_
          exact w_X8_set_35 C hr hk h0 a hf
    · refine j_sub [] rfl ?_
      exact w_X8_set_9 C hr hk h0 a hf
set_option maxRecDepth 100000 in
set_option maxHeartbeats 4000000 in
theorem k_X8_takeBack {l : Launch} {G : GT} {ad : Nat → Nat} {a : KS} {b : MS} {rr : Nat × Int32 × KS} (hf : f_X8_takeBack a = some rr) (h0 : rr.1 = 0) : MT l G yX8_takeBack cX8_takeBack 2 (some .int) (RM 1) [.ref (ad 0)] ad a b (some (.int rr.2.1)) rr.2.2 b := by
  refine MT_of2 (lv := [(0, .ref (ad 0))]) (by decide) (by first | exact Nat.le_of_ble_eq_true rfl | (simp only [lg_sl, List.flatMap_cons, List.flatMap_nil, itv_cat]; exact Nat.le_of_ble_eq_true rfl)) (by first | rfl | (simp only [lv_args, itv_cat] <;> rfl)) ?_
  intro p e s m args below meth c A C hr hk
  unfold f_X8_takeBack at hf
  refine j_aload_n C 0 rfl dX8_takeBack_0 ?_
  refine j_get (q := 0) (kf := 1) (T := TX8) (N := 7) (RC := RX8) C m_0 ce_0 rfl in_X8 (by decide) (fun _ h9 => h9) fl_X8_19 rfl dX8_takeBack_1 ?_
  obtain ⟨z1, h2, hf⟩ := bnd_some hf
  refine j_callV (q := 3) (As := []) (rest := []) C (k_X3_latestItem h2) cw_X3_latestItem ml_X8_166 m_3 ce_3 rfl rfl ⟨Nat.le_of_ble_eq_true rfl, Nat.le_of_ble_eq_true rfl⟩ ⟨Nat.le_of_ble_eq_true rfl, Nat.le_of_ble_eq_true rfl⟩ rfl (Nat.le_of_ble_eq_true rfl) dX8_takeBack_4 ?_
  refine j_astore_nq (i := 1) (lv' := [(1, itv ad z1), (0, .ref (ad 0))]) (o := z1) C dX8_takeBack_7 rfl (by decide) rfl ?_
  refine j_aload_nq C 0 rfl dX8_takeBack_8 ?_
  refine j_ifnonnull C 22 dX8_takeBack_9 (by decide) hf (fun e6 hg => ?_) (fun i5 e6 hg => ?_)
  · clear hf
    subst e6
    have hf := hg
    clear hg
    obtain rfl := Option.some.inj hf
    exact absurd (show (3 : Nat) = 0 from h0) (by decide)
  · clear hf
    subst e6
    have hf := hg
    clear hg
    refine j_aload_n C 0 rfl dX8_takeBack_22 ?_
    refine j_aload_n C 1 rfl dX8_takeBack_23 ?_
    refine j_get (q := 0) (kf := 1) (T := TX8) (N := 7) (RC := RX8) C m_0 ce_0 rfl in_X8 (by decide) (fun _ h9 => h9) fl_X8_19 rfl dX8_takeBack_24 ?_
    obtain ⟨z7, h8, hf⟩ := bnd_some hf
    refine j_callV (q := 3) (As := []) (rest := [.ref (ad (ip i5))]) C (k_X3_latestValue h8) cw_X3_latestValue ml_X8_172 m_3 ce_3 rfl rfl ⟨Nat.le_of_ble_eq_true rfl, Nat.le_of_ble_eq_true rfl⟩ ⟨Nat.le_of_ble_eq_true rfl, Nat.le_of_ble_eq_true rfl⟩ rfl (Nat.le_of_ble_eq_true rfl) dX8_takeBack_27 ?_
    obtain ⟨h10, hf⟩ := gd_some hf
    have h10 := of_decide_eq_true h10
    refine put_X4_10 C h10 fl_X8_119 rfl rfl dX8_takeBack_30 ?_
    refine j_aload_n C 1 rfl dX8_takeBack_33 ?_
    refine j_get (q := 0) (kf := 1) (T := TX8) (N := 7) (RC := RX8) C m_0 ce_0 rfl in_X8 (by decide) (fun _ h9 => h9) fl_X8_19 rfl dX8_takeBack_34 ?_
    obtain ⟨z11, h12, hf⟩ := bnd_some hf
    refine j_callV (q := 3) (As := []) (rest := []) C (k_X3_removeLatest h12) cw_X3_removeLatest ml_X8_175 m_3 ce_3 rfl rfl ⟨Nat.le_of_ble_eq_true rfl, Nat.le_of_ble_eq_true rfl⟩ ⟨Nat.le_of_ble_eq_true rfl, Nat.le_of_ble_eq_true rfl⟩ rfl (Nat.le_of_ble_eq_true rfl) dX8_takeBack_37 ?_
    refine j_aload_n C 1 rfl dX8_takeBack_40 ?_
    refine j_get (q := 0) (kf := 4) (T := TX8) (N := 7) (RC := RX8) C m_0 ce_0 rfl in_X8 (by decide) (fun _ h9 => h9) fl_X8_38 rfl dX8_takeBack_41 ?_
    refine j_iconst (v := 3) C (by decide) dX8_takeBack_44 ?_
    refine j_iconst (v := 1) C (by decide) dX8_takeBack_45 ?_
    obtain ⟨z17, h18, hf⟩ := bnd_some hf
    refine j_callV (q := 10) (As := [.int 3, .int 1]) (rest := []) C (k_X2_count h18) cw_X2_count ml_X8_178 m_10 ce_10 rfl rfl ⟨Nat.le_of_ble_eq_true rfl, Nat.le_of_ble_eq_true rfl⟩ ⟨Nat.le_of_ble_eq_true rfl, Nat.le_of_ble_eq_true rfl⟩ rfl (Nat.le_of_ble_eq_true rfl) dX8_takeBack_46 ?_
    refine j_aload_n C 0 rfl dX8_takeBack_49 ?_
    obtain ⟨h22, hf⟩ := gd_some hf
    have h22 := of_decide_eq_true h22
    refine j_get (q := (ip i5)) (kf := 0) (T := TX4) (N := 13) (RC := RX4) C (mem_ip h22) ce_item rfl in_X4 (by decide) (fun _ h9 => h9) fl_X8_180 rfl dX8_takeBack_50 ?_
    obtain rfl := Option.some.inj hf
    exact j_iret C hr hk ⟨Nat.le_of_ble_eq_true rfl, Nat.le_of_ble_eq_true rfl⟩ rfl dX8_takeBack_53
set_option maxRecDepth 100000 in
set_option maxHeartbeats 4000000 in
theorem w_X8_presetNumbered_9 {b : MS} {p : Program} {l : Launch} {e : Env} {s : State} {m : MethodId} {args : Array Value} {below : List Frame} {meth : Method} {c : Code} {G : GT} {A : Nat → Prop} {ad : Nat → Nat} (C : CX G A RX8 cX8_presetNumbered 2 p s m args c) (hr : meth.sig.returnType = (some (.object "KnobMenu$Preset"))) (hk : meth.locks = false) {rr : Nat × Nat} (h0 : rr.1 = 0)   (a : KS) (hf : f_X8_presetNumbered_9 a = some rr) : J p l e (RM 1) s m args below meth c G A 2 (MQ below (QV (some (.ref (ad rr.2))) (PosW G ad a b A) A) args s 0 0 A) 0 0 ad a b 9 [] [] := by
  unfold f_X8_presetNumbered_9 at hf
  obtain rfl := Option.some.inj hf
  exact absurd (show (2 : Nat) = 0 from h0) (by decide)
set_option maxRecDepth 100000 in
set_option maxHeartbeats 4000000 in
theorem k_X8_presetNumbered {l : Launch} {G : GT} {ad : Nat → Nat} {a : KS} {v1 : Int32} {b : MS} {rr : Nat × Nat} (hf : f_X8_presetNumbered a v1 = some rr) (h0 : rr.1 = 0) : MT l G yX8_presetNumbered cX8_presetNumbered 2 (some (.object "KnobMenu$Preset")) (RM 1) [.ref (ad 0), .int v1] ad a b (some (.ref (ad rr.2))) a b := by
  refine MT_of2 (lv := [(0, .ref (ad 0)), (1, .int v1)]) (by decide) (by first | exact Nat.le_of_ble_eq_true rfl | (simp only [lg_sl, List.flatMap_cons, List.flatMap_nil, itv_cat]; exact Nat.le_of_ble_eq_true rfl)) (by first | rfl | (simp only [lv_args, itv_cat] <;> rfl)) ?_
  intro p e s m args below meth c A C hr hk
  unfold f_X8_presetNumbered at hf
  refine j_iload_n C 1 rfl dX8_presetNumbered_0 ?_
  refine j_if_lt C 9 dX8_presetNumbered_1 (by decide) hf (fun y1 hf => ?_) (fun y1 hf => ?_)
  · refine j_sub [] rfl ?_
    exact w_X8_presetNumbered_9 C hr hk h0 a hf
  · refine j_iload_n C 1 rfl dX8_presetNumbered_4 ?_
    refine j_iconst (v := 1) C (by decide) dX8_presetNumbered_5 ?_
    refine j_icmp_le C 20 dX8_presetNumbered_6 (by decide) hf (fun y2 hf => ?_) (fun y2 hf => ?_)
    · refine j_iload_n C 1 rfl dX8_presetNumbered_20 ?_
      refine j_if_ne C 31 dX8_presetNumbered_21 (by decide) hf (fun y3 hf => ?_) (fun y3 hf => ?_)
      · refine j_aload_n C 0 rfl dX8_presetNumbered_31 ?_
        refine j_get (q := 0) (kf := 3) (T := TX8) (N := 7) (RC := RX8) C m_0 ce_0 rfl in_X8 (by decide) (fun _ h9 => h9) fl_X8_30 rfl dX8_presetNumbered_32 ?_
        obtain rfl := Option.some.inj hf
        exact j_aret C hr hk (Or.inl ⟨_, rfl⟩) (Or.inr ⟨_, rfl⟩) ⟨Nat.le_of_ble_eq_true rfl, Nat.le_of_ble_eq_true rfl⟩ rfl dX8_presetNumbered_35
      · refine j_aload_n C 0 rfl dX8_presetNumbered_24 ?_
        refine j_get (q := 0) (kf := 2) (T := TX8) (N := 7) (RC := RX8) C m_0 ce_0 rfl in_X8 (by decide) (fun _ h9 => h9) fl_X8_26 rfl dX8_presetNumbered_25 ?_
        refine j_goto C 35 dX8_presetNumbered_28 (by decide) ?_
        obtain rfl := Option.some.inj hf
        exact j_aret C hr hk (Or.inl ⟨_, rfl⟩) (Or.inr ⟨_, rfl⟩) ⟨Nat.le_of_ble_eq_true rfl, Nat.le_of_ble_eq_true rfl⟩ rfl dX8_presetNumbered_35
    · refine j_sub [] rfl ?_
      exact w_X8_presetNumbered_9 C hr hk h0 a hf
set_option maxRecDepth 100000 in
set_option maxHeartbeats 4000000 in
theorem k_X8_savePreset {l : Launch} {G : GT} {ad : Nat → Nat} {a : KS} {v1 : Int32} {b : MS} {rr : Nat × Int32 × KS} (hf : f_X8_savePreset a v1 = some rr) (h0 : rr.1 = 0) : MT l G yX8_savePreset cX8_savePreset 2 (some .int) (RM 2) [.ref (ad 0), .int v1] ad a b (some (.int rr.2.1)) rr.2.2 b := by
  refine MT_of2 (lv := [(0, .ref (ad 0)), (1, .int v1)]) (by decide) (by first | exact Nat.le_of_ble_eq_true rfl | (simp only [lg_sl, List.flatMap_cons, List.flatMap_nil, itv_cat]; exact Nat.le_of_ble_eq_true rfl)) (by first | rfl | (simp only [lv_args, itv_cat] <;> rfl)) ?_
  intro p e s m args below meth c A C hr hk
  unfold f_X8_savePreset at hf
  refine j_aload_n C 0 rfl dX8_savePreset_0 ?_
  refine j_iload_n C 1 rfl dX8_savePreset_1 ?_
  obtain ⟨z1, h2, hf⟩ := bnd_some hf
  have y3 : z1.1 = 0 := by refine Classical.byContradiction fun q => ?_; have hf := (if_neg q).symm.trans hf; obtain rfl := Option.some.inj hf; exact q h0
  have hf := (if_pos y3).symm.trans hf
  refine j_callV (q := 0) (As := [.int v1]) (rest := []) C (k_X8_presetNumbered h2 y3) cw_X8_presetNumbered ml_X8_183 m_0 ce_0 rfl rfl ⟨Nat.le_of_ble_eq_true rfl, Nat.le_of_ble_eq_true rfl⟩ ⟨Nat.le_of_ble_eq_true rfl, Nat.le_of_ble_eq_true rfl⟩ rfl (Nat.le_of_ble_eq_true rfl) dX8_savePreset_2 ?_
  refine j_aload_n C 0 rfl dX8_savePreset_5 ?_
  refine j_get (q := 0) (kf := 0) (T := TX8) (N := 7) (RC := RX8) C m_0 ce_0 rfl in_X8 (by decide) (fun _ h9 => h9) fl_X8_10 rfl dX8_savePreset_6 ?_
  obtain ⟨h4, hf⟩ := gd_some hf
  obtain ⟨z5, h6, hf⟩ := bnd_some hf
  refine j_callV (q := z1.2) (As := [.ref (ad 1)]) (rest := []) C (k_X5_save h6) cw_X5_save ml_X8_187 (m_pre h4) (ce_pre h4) rfl rfl ⟨Nat.le_of_ble_eq_true rfl, Nat.le_of_ble_eq_true rfl⟩ ⟨Nat.le_of_ble_eq_true rfl, Nat.le_of_ble_eq_true rfl⟩ rfl (Nat.le_of_ble_eq_true rfl) dX8_savePreset_9 ?_
  obtain rfl := Option.some.inj hf
  exact j_iret C hr hk ⟨Nat.le_of_ble_eq_true rfl, Nat.le_of_ble_eq_true rfl⟩ rfl dX8_savePreset_12
set_option maxRecDepth 100000 in
set_option maxHeartbeats 4000000 in
theorem k_X8_loadPreset {l : Launch} {G : GT} {ad : Nat → Nat} {a : KS} {v1 : Int32} {b : MS} {rr : Nat × Int32 × KS} (hf : f_X8_loadPreset a v1 = some rr) (h0 : rr.1 = 0) : MT l G yX8_loadPreset cX8_loadPreset 3 (some .int) (RM 2) [.ref (ad 0), .int v1] ad a b (some (.int rr.2.1)) rr.2.2 b := by
  refine MT_of2 (lv := [(0, .ref (ad 0)), (1, .int v1)]) (by decide) (by first | exact Nat.le_of_ble_eq_true rfl | (simp only [lg_sl, List.flatMap_cons, List.flatMap_nil, itv_cat]; exact Nat.le_of_ble_eq_true rfl)) (by first | rfl | (simp only [lv_args, itv_cat] <;> rfl)) ?_
  intro p e s m args below meth c A C hr hk
  unfold f_X8_loadPreset at hf
  refine j_aload_n C 0 rfl dX8_loadPreset_0 ?_
  refine j_iload_n C 1 rfl dX8_loadPreset_1 ?_
  obtain ⟨z1, h2, hf⟩ := bnd_some hf
  have y3 : z1.1 = 0 := by refine Classical.byContradiction fun q => ?_; have hf := (if_neg q).symm.trans hf; obtain rfl := Option.some.inj hf; exact q h0
  have hf := (if_pos y3).symm.trans hf
  refine j_callV (q := 0) (As := [.int v1]) (rest := []) C (k_X8_presetNumbered h2 y3) cw_X8_presetNumbered ml_X8_183 m_0 ce_0 rfl rfl ⟨Nat.le_of_ble_eq_true rfl, Nat.le_of_ble_eq_true rfl⟩ ⟨Nat.le_of_ble_eq_true rfl, Nat.le_of_ble_eq_true rfl⟩ rfl (Nat.le_of_ble_eq_true rfl) dX8_loadPreset_2 ?_
  refine j_astore_n (i := 2) (lv' := [(2, .ref (ad z1.2)), (0, .ref (ad 0)), (1, .int v1)]) C dX8_loadPreset_5 rfl (by decide) rfl ?_
  refine j_aload_n C 0 rfl dX8_loadPreset_6 ?_
  obtain ⟨h4, hf⟩ := gd_some hf
  refine j_get (q := z1.2) (kf := 2) (T := TX5) (N := 3) (RC := RX5) C (m_pre h4) (ce_pre h4) rfl in_X5 (by decide) (fun _ h9 => h9) fl_X8_191 rfl dX8_loadPreset_7 ?_
  refine j_if_ne C 23 dX8_loadPreset_10 (by decide) hf (fun y5 hf => ?_) (fun y5 hf => ?_)
  · refine j_aload_n C 1 rfl dX8_loadPreset_23 ?_
    refine j_get (q := 0) (kf := 1) (T := TX8) (N := 7) (RC := RX8) C m_0 ce_0 rfl in_X8 (by decide) (fun _ h9 => h9) fl_X8_19 rfl dX8_loadPreset_24 ?_
    obtain ⟨z6, h7, hf⟩ := bnd_some hf
    refine j_callV (q := 3) (As := []) (rest := []) C (k_X3_removeAll h7) cw_X3_removeAll ml_X8_196 m_3 ce_3 rfl rfl ⟨Nat.le_of_ble_eq_true rfl, Nat.le_of_ble_eq_true rfl⟩ ⟨Nat.le_of_ble_eq_true rfl, Nat.le_of_ble_eq_true rfl⟩ rfl (Nat.le_of_ble_eq_true rfl) dX8_loadPreset_27 ?_
    refine j_aload_n C 0 rfl dX8_loadPreset_30 ?_
    refine j_aload_n C 1 rfl dX8_loadPreset_31 ?_
    refine j_get (q := 0) (kf := 0) (T := TX8) (N := 7) (RC := RX8) C m_0 ce_0 rfl in_X8 (by decide) (fun _ h9 => h9) fl_X8_10 rfl dX8_loadPreset_32 ?_
    obtain ⟨z11, h12, hf⟩ := bnd_some hf
    refine j_callV (q := z1.2) (As := [.ref (ad 1)]) (rest := []) C (k_X5_load h12) cw_X5_load ml_X8_199 (m_pre h4) (ce_pre h4) rfl rfl ⟨Nat.le_of_ble_eq_true rfl, Nat.le_of_ble_eq_true rfl⟩ ⟨Nat.le_of_ble_eq_true rfl, Nat.le_of_ble_eq_true rfl⟩ rfl (Nat.le_of_ble_eq_true rfl) dX8_loadPreset_35 ?_
    obtain rfl := Option.some.inj hf
    exact j_iret C hr hk ⟨Nat.le_of_ble_eq_true rfl, Nat.le_of_ble_eq_true rfl⟩ rfl dX8_loadPreset_38
  · obtain rfl := Option.some.inj hf
    exact absurd (show (3 : Nat) = 0 from h0) (by decide)
set_option maxRecDepth 100000 in
set_option maxHeartbeats 4000000 in
theorem k_X8_mode {l : Launch} {G : GT} {ad : Nat → Nat} {a : KS} {b : MS} {rr : Int32} (hf : f_X8_mode a = some rr) : MT l G yX8_mode cX8_mode 1 (some .int) (RM 0) [.ref (ad 0)] ad a b (some (.int rr)) a b := by
  refine MT_of (by decide) (Nat.le_of_ble_eq_true rfl) ?_
  intro p e s m args below meth c A C hr hk
  unfold f_X8_mode at hf
  refine j_aload_n C 0 rfl dX8_mode_0 ?_
  refine j_get (q := 0) (kf := 4) (T := TX8) (N := 7) (RC := RX8) C m_0 ce_0 rfl in_X8 (by decide) (fun _ h9 => h9) fl_X8_38 rfl dX8_mode_1 ?_
  refine j_get (q := 10) (kf := 6) (T := TX2) (N := 13) (RC := RX2) C m_10 ce_10 rfl in_X2 (by decide) (fun _ h9 => h9) fl_X8_202 rfl dX8_mode_4 ?_
  obtain rfl := Option.some.inj hf
  exact j_iret C hr hk ⟨Nat.le_of_ble_eq_true rfl, Nat.le_of_ble_eq_true rfl⟩ rfl dX8_mode_7
set_option maxRecDepth 100000 in
set_option maxHeartbeats 4000000 in
theorem k_X8_shown {l : Launch} {G : GT} {ad : Nat → Nat} {a : KS} {b : MS} {rr : Int32} (hf : f_X8_shown a = some rr) : MT l G yX8_shown cX8_shown 1 (some .int) (RM 0) [.ref (ad 0)] ad a b (some (.int rr)) a b := by
  refine MT_of (by decide) (Nat.le_of_ble_eq_true rfl) ?_
  intro p e s m args below meth c A C hr hk
  unfold f_X8_shown at hf
  refine j_aload_n C 0 rfl dX8_shown_0 ?_
  refine j_get (q := 0) (kf := 4) (T := TX8) (N := 7) (RC := RX8) C m_0 ce_0 rfl in_X8 (by decide) (fun _ h9 => h9) fl_X8_38 rfl dX8_shown_1 ?_
  refine j_get (q := 10) (kf := 5) (T := TX2) (N := 13) (RC := RX2) C m_10 ce_10 rfl in_X2 (by decide) (fun _ h9 => h9) fl_X8_205 rfl dX8_shown_4 ?_
  refine j_letO hf (fun o1 hf => ?_)
  obtain ⟨i2, e4, h3, hg⟩ := odr_some hf
  clear hf
  subst e4
  have hf := hg
  clear hg
  refine j_get (q := (ip i2)) (kf := 0) (T := TX4) (N := 13) (RC := RX4) C (mem_ip h3) ce_item rfl in_X4 (by decide) (fun _ h9 => h9) fl_X8_180 rfl dX8_shown_7 ?_
  obtain rfl := Option.some.inj hf
  exact j_iret C hr hk ⟨Nat.le_of_ble_eq_true rfl, Nat.le_of_ble_eq_true rfl⟩ rfl dX8_shown_10
set_option maxRecDepth 100000 in
set_option maxHeartbeats 4000000 in
theorem k_X8_cursor {l : Launch} {G : GT} {ad : Nat → Nat} {a : KS} {b : MS} {rr : Int32} (hf : f_X8_cursor a = some rr) : MT l G yX8_cursor cX8_cursor 1 (some .int) (RM 0) [.ref (ad 0)] ad a b (some (.int rr)) a b := by
  refine MT_of (by decide) (Nat.le_of_ble_eq_true rfl) ?_
  intro p e s m args below meth c A C hr hk
  unfold f_X8_cursor at hf
  refine j_aload_n C 0 rfl dX8_cursor_0 ?_
  refine j_get (q := 0) (kf := 4) (T := TX8) (N := 7) (RC := RX8) C m_0 ce_0 rfl in_X8 (by decide) (fun _ h9 => h9) fl_X8_38 rfl dX8_cursor_1 ?_
  refine j_get (q := 10) (kf := 7) (T := TX2) (N := 13) (RC := RX2) C m_10 ce_10 rfl in_X2 (by decide) (fun _ h9 => h9) fl_X8_208 rfl dX8_cursor_4 ?_
  obtain rfl := Option.some.inj hf
  exact j_iret C hr hk ⟨Nat.le_of_ble_eq_true rfl, Nat.le_of_ble_eq_true rfl⟩ rfl dX8_cursor_7
set_option maxRecDepth 100000 in
set_option maxHeartbeats 4000000 in
theorem k_X8_chosen {l : Launch} {G : GT} {ad : Nat → Nat} {a : KS} {b : MS} {rr : Int32} (hf : f_X8_chosen a = some rr) : MT l G yX8_chosen cX8_chosen 1 (some .int) (RM 2) [.ref (ad 0)] ad a b (some (.int rr)) a b := by
  refine MT_of (by decide) (Nat.le_of_ble_eq_true rfl) ?_
  intro p e s m args below meth c A C hr hk
  unfold f_X8_chosen at hf
  refine j_aload_n C 0 rfl dX8_chosen_0 ?_
  refine j_get (q := 0) (kf := 4) (T := TX8) (N := 7) (RC := RX8) C m_0 ce_0 rfl in_X8 (by decide) (fun _ h9 => h9) fl_X8_38 rfl dX8_chosen_1 ?_
  obtain ⟨z1, h2, hf⟩ := bnd_some hf
  refine j_callV (q := 10) (As := []) (rest := []) C (k_X2_chosenItem h2) cw_X2_chosenItem ml_X8_211 m_10 ce_10 rfl rfl ⟨Nat.le_of_ble_eq_true rfl, Nat.le_of_ble_eq_true rfl⟩ ⟨Nat.le_of_ble_eq_true rfl, Nat.le_of_ble_eq_true rfl⟩ rfl (Nat.le_of_ble_eq_true rfl) dX8_chosen_4 ?_
  obtain ⟨z4, h5, hf⟩ := bnd_some hf
  refine j_callS (As := [itv ad z1]) (rest := []) C (k_X8_numberOf h5) cw_X8_numberOf ml_X8_113 rfl ⟨Nat.le_of_ble_eq_true rfl, Nat.le_of_ble_eq_true rfl⟩ ⟨Nat.le_of_ble_eq_true rfl, Nat.le_of_ble_eq_true rfl⟩ rfl (Nat.le_of_ble_eq_true rfl) dX8_chosen_7 ?_
  obtain rfl := Option.some.inj hf
  exact j_iret C hr hk ⟨Nat.le_of_ble_eq_true rfl, Nat.le_of_ble_eq_true rfl⟩ rfl dX8_chosen_10
set_option maxRecDepth 100000 in
set_option maxHeartbeats 4000000 in
theorem k_X8_draft {l : Launch} {G : GT} {ad : Nat → Nat} {a : KS} {b : MS} {rr : Int32} (hf : f_X8_draft a = some rr) : MT l G yX8_draft cX8_draft 1 (some .int) (RM 0) [.ref (ad 0)] ad a b (some (.int rr)) a b := by
  refine MT_of (by decide) (Nat.le_of_ble_eq_true rfl) ?_
  intro p e s m args below meth c A C hr hk
  unfold f_X8_draft at hf
  refine j_aload_n C 0 rfl dX8_draft_0 ?_
  refine j_get (q := 0) (kf := 4) (T := TX8) (N := 7) (RC := RX8) C m_0 ce_0 rfl in_X8 (by decide) (fun _ h9 => h9) fl_X8_38 rfl dX8_draft_1 ?_
  refine j_get (q := 10) (kf := 6) (T := TX2) (N := 13) (RC := RX2) C m_10 ce_10 rfl in_X2 (by decide) (fun _ h9 => h9) fl_X8_202 rfl dX8_draft_4 ?_
  refine j_iconst (v := 1) C (by decide) dX8_draft_7 ?_
  refine j_icmp_ne C 21 dX8_draft_8 (by decide) hf (fun y1 hf => ?_) (fun y1 hf => ?_)
  · refine j_iconst (v := 0) C (by decide) dX8_draft_21 ?_
    obtain rfl := Option.some.inj hf
    exact j_iret C hr hk ⟨Nat.le_of_ble_eq_true rfl, Nat.le_of_ble_eq_true rfl⟩ rfl dX8_draft_22
  · refine j_aload_n C 0 rfl dX8_draft_11 ?_
    refine j_get (q := 0) (kf := 4) (T := TX8) (N := 7) (RC := RX8) C m_0 ce_0 rfl in_X8 (by decide) (fun _ h9 => h9) fl_X8_38 rfl dX8_draft_12 ?_
    refine j_get (q := 10) (kf := 8) (T := TX2) (N := 13) (RC := RX2) C m_10 ce_10 rfl in_X2 (by decide) (fun _ h9 => h9) fl_X8_214 rfl dX8_draft_15 ?_
    refine j_goto C 22 dX8_draft_18 (by decide) ?_
    obtain rfl := Option.some.inj hf
    exact j_iret C hr hk ⟨Nat.le_of_ble_eq_true rfl, Nat.le_of_ble_eq_true rfl⟩ rfl dX8_draft_22
set_option maxRecDepth 100000 in
set_option maxHeartbeats 4000000 in
theorem k_X8_idle {l : Launch} {G : GT} {ad : Nat → Nat} {a : KS} {b : MS} {rr : Int32} (hf : f_X8_idle a = some rr) : MT l G yX8_idle cX8_idle 1 (some .int) (RM 0) [.ref (ad 0)] ad a b (some (.int rr)) a b := by
  refine MT_of (by decide) (Nat.le_of_ble_eq_true rfl) ?_
  intro p e s m args below meth c A C hr hk
  unfold f_X8_idle at hf
  refine j_aload_n C 0 rfl dX8_idle_0 ?_
  refine j_get (q := 0) (kf := 4) (T := TX8) (N := 7) (RC := RX8) C m_0 ce_0 rfl in_X8 (by decide) (fun _ h9 => h9) fl_X8_38 rfl dX8_idle_1 ?_
  refine j_get (q := 10) (kf := 10) (T := TX2) (N := 13) (RC := RX2) C m_10 ce_10 rfl in_X2 (by decide) (fun _ h9 => h9) fl_X8_217 rfl dX8_idle_4 ?_
  obtain rfl := Option.some.inj hf
  exact j_iret C hr hk ⟨Nat.le_of_ble_eq_true rfl, Nat.le_of_ble_eq_true rfl⟩ rfl dX8_idle_7
set_option maxRecDepth 100000 in
set_option maxHeartbeats 4000000 in
theorem k_X8_barred {l : Launch} {G : GT} {ad : Nat → Nat} {a : KS} {b : MS} {rr : Int32} (hf : f_X8_barred a = some rr) : MT l G yX8_barred cX8_barred 1 (some .int) (RM 0) [.ref (ad 0)] ad a b (some (.int rr)) a b := by
  refine MT_of (by decide) (Nat.le_of_ble_eq_true rfl) ?_
  intro p e s m args below meth c A C hr hk
  unfold f_X8_barred at hf
  refine j_aload_n C 0 rfl dX8_barred_0 ?_
  refine j_get (q := 0) (kf := 4) (T := TX8) (N := 7) (RC := RX8) C m_0 ce_0 rfl in_X8 (by decide) (fun _ h9 => h9) fl_X8_38 rfl dX8_barred_1 ?_
  refine j_get (q := 10) (kf := 11) (T := TX2) (N := 13) (RC := RX2) C m_10 ce_10 rfl in_X2 (by decide) (fun _ h9 => h9) fl_X8_220 rfl dX8_barred_4 ?_
  obtain rfl := Option.some.inj hf
  exact j_iret C hr hk ⟨Nat.le_of_ble_eq_true rfl, Nat.le_of_ble_eq_true rfl⟩ rfl dX8_barred_7
set_option maxRecDepth 100000 in
set_option maxHeartbeats 4000000 in
theorem k_X8_logged {l : Launch} {G : GT} {ad : Nat → Nat} {a : KS} {b : MS} {rr : Int32} (hf : f_X8_logged a = some rr) : MT l G yX8_logged cX8_logged 1 (some .int) (RM 0) [.ref (ad 0)] ad a b (some (.int rr)) a b := by
  refine MT_of (by decide) (Nat.le_of_ble_eq_true rfl) ?_
  intro p e s m args below meth c A C hr hk
  unfold f_X8_logged at hf
  refine j_aload_n C 0 rfl dX8_logged_0 ?_
  refine j_get (q := 0) (kf := 1) (T := TX8) (N := 7) (RC := RX8) C m_0 ce_0 rfl in_X8 (by decide) (fun _ h9 => h9) fl_X8_19 rfl dX8_logged_1 ?_
  refine j_get (q := 3) (kf := 2) (T := TX3) (N := 3) (RC := RX3) C m_3 ce_3 rfl in_X3 (by decide) (fun _ h9 => h9) fl_X8_223 rfl dX8_logged_4 ?_
  obtain rfl := Option.some.inj hf
  exact j_iret C hr hk ⟨Nat.le_of_ble_eq_true rfl, Nat.le_of_ble_eq_true rfl⟩ rfl dX8_logged_7
set_option maxRecDepth 100000 in
set_option maxHeartbeats 4000000 in
theorem k_X8_isHome {l : Launch} {G : GT} {ad : Nat → Nat} {a : KS} {b : MS} {rr : Int32} (hf : f_X8_isHome a = some rr) : MT l G yX8_isHome cX8_isHome 1 (some .boolean) (RM 4) [.ref (ad 0)] ad a b (some (.int rr)) a b := by
  refine MT_of (by decide) (Nat.le_of_ble_eq_true rfl) ?_
  intro p e s m args below meth c A C hr hk
  unfold f_X8_isHome at hf
  refine j_aload_n C 0 rfl dX8_isHome_0 ?_
  refine j_get (q := 0) (kf := 4) (T := TX8) (N := 7) (RC := RX8) C m_0 ce_0 rfl in_X8 (by decide) (fun _ h9 => h9) fl_X8_38 rfl dX8_isHome_1 ?_
  obtain ⟨z1, h2, hf⟩ := bnd_some hf
  refine j_callV (q := 10) (As := []) (rest := []) C (k_X2_atHome h2) cw_X2_atHome ml_X8_224 m_10 ce_10 rfl rfl ⟨Nat.le_of_ble_eq_true rfl, Nat.le_of_ble_eq_true rfl⟩ ⟨Nat.le_of_ble_eq_true rfl, Nat.le_of_ble_eq_true rfl⟩ rfl (Nat.le_of_ble_eq_true rfl) dX8_isHome_4 ?_
  obtain ⟨h4, hf⟩ := gd_some hf
  obtain rfl := Option.some.inj hf
  exact j_zret C hr hk (okz_n h4) ⟨Nat.le_of_ble_eq_true rfl, Nat.le_of_ble_eq_true rfl⟩ rfl dX8_isHome_7
set_option maxRecDepth 100000 in
set_option maxHeartbeats 4000000 in
theorem w_X8_display_19 {b : MS} {p : Program} {l : Launch} {e : Env} {s : State} {m : MethodId} {args : Array Value} {below : List Frame} {meth : Method} {c : Code} {G : GT} {A : Nat → Prop} {ad : Nat → Nat} (C : CX G A RX8 cX8_display 3 p s m args c) (hr : meth.sig.returnType = (some .int)) (hk : meth.locks = false) {rr : Nat × Int32 × KS} (h0 : rr.1 = 0)   (a : KS) (hf : f_X8_display_19 a = some rr) : J p l e (RM 10) s m args below meth c G A 3 (MQ below (QV (some (.int rr.2.1)) (PosW G ad rr.2.2 b A) A) args s 0 0 A) 0 0 ad a b 19 [] [] := by
  unfold f_X8_display_19 at hf
  obtain rfl := Option.some.inj hf
  exact absurd (show (1 : Nat) = 0 from h0) (by decide)
set_option maxRecDepth 100000 in
set_option maxHeartbeats 4000000 in
theorem k_X8_display {l : Launch} {G : GT} {ad : Nat → Nat} {a : KS} {v1 : Int32} {v2 : Int32} {b : MS} {rr : Nat × Int32 × KS} (hf : f_X8_display a v1 v2 = some rr) (h0 : rr.1 = 0) : MT l G yX8_display cX8_display 3 (some .int) (RM 10) [.ref (ad 0), .int v1, .int v2] ad a b (some (.int rr.2.1)) rr.2.2 b := by
  refine MT_of2 (lv := [(0, .ref (ad 0)), (1, .int v1), (2, .int v2)]) (by decide) (by first | exact Nat.le_of_ble_eq_true rfl | (simp only [lg_sl, List.flatMap_cons, List.flatMap_nil, itv_cat]; exact Nat.le_of_ble_eq_true rfl)) (by first | rfl | (simp only [lv_args, itv_cat] <;> rfl)) ?_
  intro p e s m args below meth c A C hr hk
  unfold f_X8_display at hf
  refine j_iload_n C 1 rfl dX8_display_0 ?_
  refine j_if_lt C 19 dX8_display_1 (by decide) hf (fun y1 hf => ?_) (fun y1 hf => ?_)
  · refine j_sub [] rfl ?_
    exact w_X8_display_19 C hr hk h0 a hf
  · refine j_iload_n C 1 rfl dX8_display_4 ?_
    refine j_iconst (v := 2) C (by decide) dX8_display_5 ?_
    refine j_icmp_ge C 19 dX8_display_6 (by decide) hf (fun y2 hf => ?_) (fun y2 hf => ?_)
    · refine j_sub [] rfl ?_
      exact w_X8_display_19 C hr hk h0 a hf
    · refine j_iload_n C 2 rfl dX8_display_9 ?_
      refine j_if_lt C 19 dX8_display_10 (by decide) hf (fun y3 hf => ?_) (fun y3 hf => ?_)
      · refine j_sub [] rfl ?_
        exact w_X8_display_19 C hr hk h0 a hf
      · refine j_iload_n C 2 rfl dX8_display_13 ?_
        refine j_bipush (v := 16) C (by decide) dX8_display_14 ?_
        refine j_icmp_lt C 29 dX8_display_16 (by decide) hf (fun y4 hf => ?_) (fun y4 hf => ?_)
        · refine j_aload_n C 0 rfl dX8_display_29 ?_
          refine j_get (q := 0) (kf := 5) (T := TX8) (N := 7) (RC := RX8) C m_0 ce_0 rfl in_X8 (by decide) (fun _ h9 => h9) fl_X8_45 rfl dX8_display_30 ?_
          refine j_aload_n C 0 rfl dX8_display_33 ?_
          refine j_get (q := 0) (kf := 4) (T := TX8) (N := 7) (RC := RX8) C m_0 ce_0 rfl in_X8 (by decide) (fun _ h9 => h9) fl_X8_38 rfl dX8_display_34 ?_
          obtain ⟨z5, h6, hf⟩ := bnd_some hf
          refine j_callV (q := 14) (As := [.ref (ad 10)]) (rest := []) C (k_X6_draw h6) cw_X6_draw ml_X8_229 m_14 ce_14 rfl rfl ⟨Nat.le_of_ble_eq_true rfl, Nat.le_of_ble_eq_true rfl⟩ ⟨Nat.le_of_ble_eq_true rfl, Nat.le_of_ble_eq_true rfl⟩ rfl (Nat.le_of_ble_eq_true rfl) dX8_display_37 ?_
          refine j_aload_n C 0 rfl dX8_display_40 ?_
          refine j_get (q := 0) (kf := 5) (T := TX8) (N := 7) (RC := RX8) C m_0 ce_0 rfl in_X8 (by decide) (fun _ h9 => h9) fl_X8_45 rfl dX8_display_41 ?_
          refine j_iload_n C 1 rfl dX8_display_44 ?_
          refine j_iload_n C 2 rfl dX8_display_45 ?_
          obtain ⟨z10, h11, hf⟩ := bnd_some hf
          refine j_callV (q := 14) (As := [.int v1, .int v2]) (rest := []) C (k_X6_signAt h11) cw_X6_signAt ml_X8_233 m_14 ce_14 rfl rfl ⟨Nat.le_of_ble_eq_true rfl, Nat.le_of_ble_eq_true rfl⟩ ⟨Nat.le_of_ble_eq_true rfl, Nat.le_of_ble_eq_true rfl⟩ rfl (Nat.le_of_ble_eq_true rfl) dX8_display_46 ?_
          obtain rfl := Option.some.inj hf
          exact j_iret C hr hk ⟨Nat.le_of_ble_eq_true rfl, Nat.le_of_ble_eq_true rfl⟩ rfl dX8_display_49
        · refine j_sub [] rfl ?_
          exact w_X8_display_19 C hr hk h0 a hf
set_option maxRecDepth 100000 in
set_option maxHeartbeats 4000000 in
theorem w_X8_events_10 {b : MS} {p : Program} {l : Launch} {e : Env} {s : State} {m : MethodId} {args : Array Value} {below : List Frame} {meth : Method} {c : Code} {G : GT} {A : Nat → Prop} {ad : Nat → Nat} (C : CX G A RX8 cX8_events 2 p s m args c) (hr : meth.sig.returnType = (some .int)) (hk : meth.locks = false) {rr : Nat × Int32} (h0 : rr.1 = 0)   (a : KS) (hf : f_X8_events_10 a = some rr) : J p l e (RM 1) s m args below meth c G A 2 (MQ below (QV (some (.int rr.2)) (PosW G ad a b A) A) args s 0 0 A) 0 0 ad a b 10 [] [] := by
  unfold f_X8_events_10 at hf
  obtain rfl := Option.some.inj hf
  exact absurd (show (1 : Nat) = 0 from h0) (by decide)
set_option maxRecDepth 100000 in
set_option maxHeartbeats 4000000 in
theorem k_X8_events {l : Launch} {G : GT} {ad : Nat → Nat} {a : KS} {v1 : Int32} {b : MS} {rr : Nat × Int32} (hf : f_X8_events a v1 = some rr) (h0 : rr.1 = 0) : MT l G yX8_events cX8_events 2 (some .int) (RM 1) [.ref (ad 0), .int v1] ad a b (some (.int rr.2)) a b := by
  refine MT_of2 (lv := [(0, .ref (ad 0)), (1, .int v1)]) (by decide) (by first | exact Nat.le_of_ble_eq_true rfl | (simp only [lg_sl, List.flatMap_cons, List.flatMap_nil, itv_cat]; exact Nat.le_of_ble_eq_true rfl)) (by first | rfl | (simp only [lv_args, itv_cat] <;> rfl)) ?_
  intro p e s m args below meth c A C hr hk
  unfold f_X8_events at hf
  refine j_iload_n C 1 rfl dX8_events_0 ?_
  refine j_if_lt C 10 dX8_events_1 (by decide) hf (fun y1 hf => ?_) (fun y1 hf => ?_)
  · refine j_sub [] rfl ?_
    exact w_X8_events_10 C hr hk h0 a hf
  · refine j_iload_n C 1 rfl dX8_events_4 ?_
    refine j_bipush (v := 8) C (by decide) dX8_events_5 ?_
    refine j_icmp_lt C 20 dX8_events_7 (by decide) hf (fun y2 hf => ?_) (fun y2 hf => ?_)
    · refine j_aload_n C 0 rfl dX8_events_20 ?_
      refine j_get (q := 0) (kf := 4) (T := TX8) (N := 7) (RC := RX8) C m_0 ce_0 rfl in_X8 (by decide) (fun _ h9 => h9) fl_X8_38 rfl dX8_events_21 ?_
      refine j_iload_n C 1 rfl dX8_events_24 ?_
      obtain ⟨z3, h4, hf⟩ := bnd_some hf
      refine j_callV (q := 10) (As := [.int v1]) (rest := []) C (k_X2_counted h4) cw_X2_counted ml_X8_239 m_10 ce_10 rfl rfl ⟨Nat.le_of_ble_eq_true rfl, Nat.le_of_ble_eq_true rfl⟩ ⟨Nat.le_of_ble_eq_true rfl, Nat.le_of_ble_eq_true rfl⟩ rfl (Nat.le_of_ble_eq_true rfl) dX8_events_25 ?_
      obtain rfl := Option.some.inj hf
      exact j_iret C hr hk ⟨Nat.le_of_ble_eq_true rfl, Nat.le_of_ble_eq_true rfl⟩ rfl dX8_events_28
    · refine j_sub [] rfl ?_
      exact w_X8_events_10 C hr hk h0 a hf
set_option maxRecDepth 100000 in
set_option maxHeartbeats 4000000 in
theorem k_X8_ifTurned {l : Launch} {G : GT} {ad : Nat → Nat} {a : KS} {v1 : Int32} {b : MS} {rr : Nat × Int32} (hf : f_X8_ifTurned a v1 = some rr) (h0 : rr.1 = 0) : MT l G yX8_ifTurned cX8_ifTurned 2 (some .int) (RM 4) [.ref (ad 0), .int v1] ad a b (some (.int rr.2)) a b := by
  refine MT_of2 (lv := [(0, .ref (ad 0)), (1, .int v1)]) (by decide) (by first | exact Nat.le_of_ble_eq_true rfl | (simp only [lg_sl, List.flatMap_cons, List.flatMap_nil, itv_cat]; exact Nat.le_of_ble_eq_true rfl)) (by first | rfl | (simp only [lv_args, itv_cat] <;> rfl)) ?_
  intro p e s m args below meth c A C hr hk
  unfold f_X8_ifTurned at hf
  refine j_iload_n C 1 rfl dX8_ifTurned_0 ?_
  obtain ⟨z1, h2, hf⟩ := bnd_some hf
  have y3 : z1 = 0 := by refine Classical.byContradiction fun q => ?_; have hf := (if_neg q).symm.trans hf; obtain rfl := Option.some.inj hf; exact q h0
  have hf := (if_pos y3).symm.trans hf
  refine j_callS (As := [.int v1]) (rest := []) C (k_X8_requireDetents h2 y3) cw_X8_requireDetents ml_X8_126 rfl ⟨Nat.le_of_ble_eq_true rfl, Nat.le_of_ble_eq_true rfl⟩ ⟨Nat.le_of_ble_eq_true rfl, Nat.le_of_ble_eq_true rfl⟩ rfl (Nat.le_of_ble_eq_true rfl) dX8_ifTurned_1 ?_
  refine j_aload_n C 0 rfl dX8_ifTurned_4 ?_
  refine j_get (q := 0) (kf := 4) (T := TX8) (N := 7) (RC := RX8) C m_0 ce_0 rfl in_X8 (by decide) (fun _ h9 => h9) fl_X8_38 rfl dX8_ifTurned_5 ?_
  refine j_iload_n C 1 rfl dX8_ifTurned_8 ?_
  obtain ⟨z4, h5, hf⟩ := bnd_some hf
  refine j_callV (q := 10) (As := [.int v1]) (rest := []) C (k_X2_turned h5) cw_X2_turned ml_X8_242 m_10 ce_10 rfl rfl ⟨Nat.le_of_ble_eq_true rfl, Nat.le_of_ble_eq_true rfl⟩ ⟨Nat.le_of_ble_eq_true rfl, Nat.le_of_ble_eq_true rfl⟩ rfl (Nat.le_of_ble_eq_true rfl) dX8_ifTurned_9 ?_
  obtain rfl := Option.some.inj hf
  exact j_iret C hr hk ⟨Nat.le_of_ble_eq_true rfl, Nat.le_of_ble_eq_true rfl⟩ rfl dX8_ifTurned_12
set_option maxRecDepth 100000 in
set_option maxHeartbeats 4000000 in
theorem k_X8_pressesTo {l : Launch} {G : GT} {ad : Nat → Nat} {a : KS} {v1 : Int32} {b : MS} {rr : Nat × Int32} (hf : f_X8_pressesTo a v1 = some rr) (h0 : rr.1 = 0) : MT l G yX8_pressesTo cX8_pressesTo 2 (some .int) (RM 2) [.ref (ad 0), .int v1] ad a b (some (.int rr.2)) a b := by
  refine MT_of2 (lv := [(0, .ref (ad 0)), (1, .int v1)]) (by decide) (by first | exact Nat.le_of_ble_eq_true rfl | (simp only [lg_sl, List.flatMap_cons, List.flatMap_nil, itv_cat]; exact Nat.le_of_ble_eq_true rfl)) (by first | rfl | (simp only [lv_args, itv_cat] <;> rfl)) ?_
  intro p e s m args below meth c A C hr hk
  unfold f_X8_pressesTo at hf
  refine j_aload_n C 0 rfl dX8_pressesTo_0 ?_
  refine j_iload_n C 1 rfl dX8_pressesTo_1 ?_
  obtain ⟨z1, h2, hf⟩ := bnd_some hf
  have y3 : z1.1 = 0 := by refine Classical.byContradiction fun q => ?_; have hf := (if_neg q).symm.trans hf; obtain rfl := Option.some.inj hf; exact q h0
  have hf := (if_pos y3).symm.trans hf
  refine j_callV (q := 0) (As := [.int v1]) (rest := []) C (k_X8_itemNumbered h2 y3) cw_X8_itemNumbered ml_X8_86 m_0 ce_0 rfl rfl ⟨Nat.le_of_ble_eq_true rfl, Nat.le_of_ble_eq_true rfl⟩ ⟨Nat.le_of_ble_eq_true rfl, Nat.le_of_ble_eq_true rfl⟩ rfl (Nat.le_of_ble_eq_true rfl) dX8_pressesTo_2 ?_
  refine j_letO hf (fun o4 hf => ?_)
  obtain ⟨i5, e7, h6, hg⟩ := odr_some hf
  clear hf
  subst e7
  have hf := hg
  clear hg
  refine j_get (q := (ip i5)) (kf := 3) (T := TX4) (N := 13) (RC := RX4) C (mem_ip h6) ce_item rfl in_X4 (by decide) (fun _ h9 => h9) fl_X8_60 rfl dX8_pressesTo_5 ?_
  obtain rfl := Option.some.inj hf
  exact j_iret C hr hk ⟨Nat.le_of_ble_eq_true rfl, Nat.le_of_ble_eq_true rfl⟩ rfl dX8_pressesTo_8
set_option maxRecDepth 100000 in
set_option maxHeartbeats 4000000 in
theorem k_X8_detentsTo {l : Launch} {G : GT} {ad : Nat → Nat} {a : KS} {v1 : Int32} {b : MS} {rr : Nat × Int32} (hf : f_X8_detentsTo a v1 = some rr) (h0 : rr.1 = 0) : MT l G yX8_detentsTo cX8_detentsTo 2 (some .int) (RM 3) [.ref (ad 0), .int v1] ad a b (some (.int rr.2)) a b := by
  refine MT_of2 (lv := [(0, .ref (ad 0)), (1, .int v1)]) (by decide) (by first | exact Nat.le_of_ble_eq_true rfl | (simp only [lg_sl, List.flatMap_cons, List.flatMap_nil, itv_cat]; exact Nat.le_of_ble_eq_true rfl)) (by first | rfl | (simp only [lv_args, itv_cat] <;> rfl)) ?_
  intro p e s m args below meth c A C hr hk
  unfold f_X8_detentsTo at hf
  refine j_aload_n C 0 rfl dX8_detentsTo_0 ?_
  refine j_get (q := 0) (kf := 4) (T := TX8) (N := 7) (RC := RX8) C m_0 ce_0 rfl in_X8 (by decide) (fun _ h9 => h9) fl_X8_38 rfl dX8_detentsTo_1 ?_
  refine j_aload_n C 0 rfl dX8_detentsTo_4 ?_
  refine j_iload_n C 1 rfl dX8_detentsTo_5 ?_
  obtain ⟨z1, h2, hf⟩ := bnd_some hf
  have y3 : z1.1 = 0 := by refine Classical.byContradiction fun q => ?_; have hf := (if_neg q).symm.trans hf; obtain rfl := Option.some.inj hf; exact q h0
  have hf := (if_pos y3).symm.trans hf
  refine j_callV (q := 0) (As := [.int v1]) (rest := [.ref (ad 10)]) C (k_X8_itemNumbered h2 y3) cw_X8_itemNumbered ml_X8_86 m_0 ce_0 rfl rfl ⟨Nat.le_of_ble_eq_true rfl, Nat.le_of_ble_eq_true rfl⟩ ⟨Nat.le_of_ble_eq_true rfl, Nat.le_of_ble_eq_true rfl⟩ rfl (Nat.le_of_ble_eq_true rfl) dX8_detentsTo_6 ?_
  refine j_letO hf (fun o4 hf => ?_)
  obtain ⟨z5, h6, hf⟩ := bnd_some hf
  refine j_callV (q := 10) (As := [itv ad o4]) (rest := []) C (k_X2_detentsFromHome h6) cw_X2_detentsFromHome ml_X8_245 m_10 ce_10 rfl rfl ⟨Nat.le_of_ble_eq_true rfl, Nat.le_of_ble_eq_true rfl⟩ ⟨Nat.le_of_ble_eq_true rfl, Nat.le_of_ble_eq_true rfl⟩ rfl (Nat.le_of_ble_eq_true rfl) dX8_detentsTo_9 ?_
  obtain rfl := Option.some.inj hf
  exact j_iret C hr hk ⟨Nat.le_of_ble_eq_true rfl, Nat.le_of_ble_eq_true rfl⟩ rfl dX8_detentsTo_12
set_option maxRecDepth 100000 in
set_option maxHeartbeats 4000000 in
theorem w_X8_codesTo_22 {b : MS} {p : Program} {l : Launch} {e : Env} {s : State} {m : MethodId} {args : Array Value} {below : List Frame} {meth : Method} {c : Code} {G : GT} {A : Nat → Prop} {ad : Nat → Nat} (C : CX G A RX8 cX8_codesTo 4 p s m args c) (hr : meth.sig.returnType = (some .int)) (hk : meth.locks = false) {rr : Nat × Int32} (h0 : rr.1 = 0) (c8 : KS → Int32 → Option Nat → Option (Nat × Int32)) (K8 : ∀ (a : KS) (v2 : Int32) (v3 : Option Nat), c8 a v2 v3 = some rr → J p l e (RM 2) s m args below meth c G A 4 (MQ below (QV (some (.int rr.2)) (PosW G ad a b A) A) args s 0 0 A) 0 0 ad a b 8 [(2, .int v2), (3, itv ad v3)] []) (a : KS) (v2 : Int32) (v3 : Nat) (hf : f_X8_codesTo_22 c8 a v2 v3 = some rr) : J p l e (RM 2) s m args below meth c G A 4 (MQ below (QV (some (.int rr.2)) (PosW G ad a b A) A) args s 0 0 A) 0 0 ad a b 22 [(2, .int v2), (3, .ref (ad (ip v3)))] [] := by
  unfold f_X8_codesTo_22 at hf
  refine j_aload_n C 1 rfl dX8_codesTo_22 ?_
  obtain ⟨h1, hf⟩ := gd_some hf
  have h1 := of_decide_eq_true h1
  refine j_get (q := (ip v3)) (kf := 2) (T := TX4) (N := 13) (RC := RX4) C (mem_ip h1) ce_item rfl in_X4 (by decide) (fun _ h9 => h9) fl_X8_89 rfl dX8_codesTo_23 ?_
  refine j_letO hf (fun o2 hf => ?_)
  refine j_astore_nq (i := 3) (lv' := [(3, itv ad o2), (2, .int v2)]) (o := o2) C dX8_codesTo_26 rfl (by decide) rfl ?_
  refine j_goto C 8 dX8_codesTo_27 (by decide) ?_
  refine j_sub [1, 0] rfl ?_
  exact K8 a v2 o2 hf
set_option maxRecDepth 100000 in
set_option maxHeartbeats 4000000 in
theorem w_X8_codesTo_8 {b : MS} {p : Program} {l : Launch} {e : Env} {s : State} {m : MethodId} {args : Array Value} {below : List Frame} {meth : Method} {c : Code} {G : GT} {A : Nat → Prop} {ad : Nat → Nat} (C : CX G A RX8 cX8_codesTo 4 p s m args c) (hr : meth.sig.returnType = (some .int)) (hk : meth.locks = false) {rr : Nat × Int32} (h0 : rr.1 = 0) (c8 : KS → Int32 → Option Nat → Option (Nat × Int32)) (K8 : ∀ (a : KS) (v2 : Int32) (v3 : Option Nat), c8 a v2 v3 = some rr → J p l e (RM 2) s m args below meth c G A 4 (MQ below (QV (some (.int rr.2)) (PosW G ad a b A) A) args s 0 0 A) 0 0 ad a b 8 [(2, .int v2), (3, itv ad v3)] []) (a : KS) (v2 : Int32) (v3 : Option Nat) (hf : f_X8_codesTo_8 c8 a v2 v3 = some rr) : J p l e (RM 2) s m args below meth c G A 4 (MQ below (QV (some (.int rr.2)) (PosW G ad a b A) A) args s 0 0 A) 0 0 ad a b 8 [(2, .int v2), (3, itv ad v3)] [] := by
  unfold f_X8_codesTo_8 at hf
  refine j_aload_nq C 1 rfl dX8_codesTo_8 ?_
  refine j_ifnull C 30 dX8_codesTo_9 (by decide) hf (fun e3 hg => ?_) (fun i2 e3 hg => ?_)
  · clear hf
    subst e3
    have hf := hg
    clear hg
    refine j_iload_n C 0 rfl dX8_codesTo_30 ?_
    obtain rfl := Option.some.inj hf
    exact j_iret C hr hk ⟨Nat.le_of_ble_eq_true rfl, Nat.le_of_ble_eq_true rfl⟩ rfl dX8_codesTo_31
  · clear hf
    subst e3
    have hf := hg
    clear hg
    refine j_aload_n C 1 rfl dX8_codesTo_12 ?_
    obtain ⟨h4, hf⟩ := gd_some hf
    have h4 := of_decide_eq_true h4
    obtain ⟨z5, h6, hf⟩ := bnd_some hf
    refine j_callV (q := (ip i2)) (As := []) (rest := []) C (k_X4_closed h6) cw_X4_closed ml_X8_122 (mem_ip h4) ce_item rfl rfl ⟨Nat.le_of_ble_eq_true rfl, Nat.le_of_ble_eq_true rfl⟩ ⟨Nat.le_of_ble_eq_true rfl, Nat.le_of_ble_eq_true rfl⟩ rfl (Nat.le_of_ble_eq_true rfl) dX8_codesTo_13 ?_
    refine j_if_eq C 22 dX8_codesTo_16 (by decide) hf (fun y8 hf => ?_) (fun y8 hf => ?_)
    · refine j_sub [0, 1] rfl ?_
      exact w_X8_codesTo_22 C hr hk h0 c8 K8 a v2 i2 hf
    · refine j_iinc (v := v2 + 1) (lv' := [(2, .int (v2 + 1)), (3, .ref (ad (ip i2)))]) C 0 rfl rfl (by decide) rfl dX8_codesTo_19 ?_
      refine j_sub [0, 1] rfl ?_
      exact w_X8_codesTo_22 C hr hk h0 c8 K8 a (v2 + 1) i2 hf
theorem wl_X8_codesTo_8 {b : MS} {p : Program} {l : Launch} {e : Env} {s : State} {m : MethodId} {args : Array Value} {below : List Frame} {meth : Method} {c : Code} {G : GT} {A : Nat → Prop} {ad : Nat → Nat} (C : CX G A RX8 cX8_codesTo 4 p s m args c) (hr : meth.sig.returnType = (some .int)) (hk : meth.locks = false) {rr : Nat × Int32} (h0 : rr.1 = 0) (fuel : Nat)   : ∀ (a : KS) (v2 : Int32) (v3 : Option Nat), l_X8_codesTo_8 fuel  a v2 v3 = some rr → J p l e (RM 2) s m args below meth c G A 4 (MQ below (QV (some (.int rr.2)) (PosW G ad a b A) A) args s 0 0 A) 0 0 ad a b 8 [(2, .int v2), (3, itv ad v3)] [] := by
  induction fuel with
  | zero => intro a v2 v3 hf; cases hf
  | succ n ih =>
    intro a v2 v3 hf
    have hf : f_X8_codesTo_8 (l_X8_codesTo_8 n ) a v2 v3 = some rr := hf
    exact w_X8_codesTo_8 C hr hk h0 (l_X8_codesTo_8 n ) ih a v2 v3 hf
set_option maxRecDepth 100000 in
set_option maxHeartbeats 4000000 in
theorem k_X8_codesTo {l : Launch} {G : GT} {ad : Nat → Nat} {a : KS} {v1 : Int32} {b : MS} {rr : Nat × Int32} (hf : f_X8_codesTo a v1 = some rr) (h0 : rr.1 = 0) : MT l G yX8_codesTo cX8_codesTo 4 (some .int) (RM 2) [.ref (ad 0), .int v1] ad a b (some (.int rr.2)) a b := by
  refine MT_of2 (lv := [(0, .ref (ad 0)), (1, .int v1)]) (by decide) (by first | exact Nat.le_of_ble_eq_true rfl | (simp only [lg_sl, List.flatMap_cons, List.flatMap_nil, itv_cat]; exact Nat.le_of_ble_eq_true rfl)) (by first | rfl | (simp only [lv_args, itv_cat] <;> rfl)) ?_
  intro p e s m args below meth c A C hr hk
  unfold f_X8_codesTo at hf
  refine j_iconst (v := 0) C (by decide) dX8_codesTo_0 ?_
  refine j_istore_n (i := 2) (lv' := [(2, .int 0), (0, .ref (ad 0)), (1, .int v1)]) C dX8_codesTo_1 rfl (by decide) rfl ?_
  refine j_aload_n C 1 rfl dX8_codesTo_2 ?_
  refine j_iload_n C 2 rfl dX8_codesTo_3 ?_
  obtain ⟨z1, h2, hf⟩ := bnd_some hf
  have y3 : z1.1 = 0 := by refine Classical.byContradiction fun q => ?_; have hf := (if_neg q).symm.trans hf; obtain rfl := Option.some.inj hf; exact q h0
  have hf := (if_pos y3).symm.trans hf
  refine j_callV (q := 0) (As := [.int v1]) (rest := []) C (k_X8_itemNumbered h2 y3) cw_X8_itemNumbered ml_X8_86 m_0 ce_0 rfl rfl ⟨Nat.le_of_ble_eq_true rfl, Nat.le_of_ble_eq_true rfl⟩ ⟨Nat.le_of_ble_eq_true rfl, Nat.le_of_ble_eq_true rfl⟩ rfl (Nat.le_of_ble_eq_true rfl) dX8_codesTo_4 ?_
  refine j_letO hf (fun o4 hf => ?_)
  refine j_astore_nq (i := 3) (lv' := [(3, itv ad o4), (2, .int 0), (0, .ref (ad 0)), (1, .int v1)]) (o := o4) C dX8_codesTo_7 rfl (by decide) rfl ?_
  refine j_sub [1, 0] rfl ?_
  exact wl_X8_codesTo_8 C hr hk h0 FU a 0 o4 hf
set_option maxRecDepth 100000 in
set_option maxHeartbeats 4000000 in
theorem k_X8_ticksToHome {l : Launch} {G : GT} {ad : Nat → Nat} {a : KS} {b : MS} {rr : Int32} (hf : f_X8_ticksToHome a = some rr) : MT l G yX8_ticksToHome cX8_ticksToHome 1 (some .int) (RM 5) [.ref (ad 0)] ad a b (some (.int rr)) a b := by
  refine MT_of (by decide) (Nat.le_of_ble_eq_true rfl) ?_
  intro p e s m args below meth c A C hr hk
  unfold f_X8_ticksToHome at hf
  refine j_aload_n C 0 rfl dX8_ticksToHome_0 ?_
  refine j_get (q := 0) (kf := 4) (T := TX8) (N := 7) (RC := RX8) C m_0 ce_0 rfl in_X8 (by decide) (fun _ h9 => h9) fl_X8_38 rfl dX8_ticksToHome_1 ?_
  obtain ⟨z1, h2, hf⟩ := bnd_some hf
  refine j_callV (q := 10) (As := []) (rest := []) C (k_X2_ticksUntilHome h2) cw_X2_ticksUntilHome ml_X8_248 m_10 ce_10 rfl rfl ⟨Nat.le_of_ble_eq_true rfl, Nat.le_of_ble_eq_true rfl⟩ ⟨Nat.le_of_ble_eq_true rfl, Nat.le_of_ble_eq_true rfl⟩ rfl (Nat.le_of_ble_eq_true rfl) dX8_ticksToHome_4 ?_
  obtain rfl := Option.some.inj hf
  exact j_iret C hr hk ⟨Nat.le_of_ble_eq_true rfl, Nat.le_of_ble_eq_true rfl⟩ rfl dX8_ticksToHome_7
set_option maxRecDepth 100000 in
set_option maxHeartbeats 4000000 in
theorem w_X8_fraction_69 {b : MS} {p : Program} {l : Launch} {e : Env} {s : State} {m : MethodId} {args : Array Value} {below : List Frame} {meth : Method} {c : Code} {G : GT} {A : Nat → Prop} {ad : Nat → Nat} (C : CX G A RX8 cX8_fraction 5 p s m args c) (hr : meth.sig.returnType = (some .double)) (hk : meth.locks = false) {rr : UInt64} (c6 : KS → Int32 → Int32 → Int32 → Option UInt64) (K6 : ∀ (a : KS) (v1 : Int32) (v2 : Int32) (v3 : Int32), c6 a v1 v2 v3 = some rr → J p l e (RM 1) s m args below meth c G A 5 (MQ below (QV (some (.double rr)) (PosW G ad a b A) A) args s 0 0 A) 0 0 ad a b 6 [(0, .ref (ad 0)), (1, .int v1), (2, .int v2), (3, .int v3)] []) (a : KS) (v1 : Int32) (v2 : Int32) (v3 : Int32) (hf : f_X8_fraction_69 c6 a v1 v2 v3 = some rr) : J p l e (RM 1) s m args below meth c G A 5 (MQ below (QV (some (.double rr)) (PosW G ad a b A) A) args s 0 0 A) 0 0 ad a b 69 [(0, .ref (ad 0)), (1, .int v1), (2, .int v2), (3, .int v3)] [] := by
  unfold f_X8_fraction_69 at hf
  refine j_iinc (v := v3 + 1) (lv' := [(3, .int (v3 + 1)), (0, .ref (ad 0)), (1, .int v1), (2, .int v2)]) C 3 rfl rfl (by decide) rfl dX8_fraction_69 ?_
  refine j_goto C 6 dX8_fraction_72 (by decide) ?_
  refine j_sub [1, 2, 3, 0] rfl ?_
  exact K6 a v1 v2 (v3 + 1) hf
set_option maxRecDepth 100000 in
set_option maxHeartbeats 4000000 in
theorem w_X8_fraction_6 {b : MS} {p : Program} {l : Launch} {e : Env} {s : State} {m : MethodId} {args : Array Value} {below : List Frame} {meth : Method} {c : Code} {G : GT} {A : Nat → Prop} {ad : Nat → Nat} (C : CX G A RX8 cX8_fraction 5 p s m args c) (hr : meth.sig.returnType = (some .double)) (hk : meth.locks = false) {rr : UInt64} (c6 : KS → Int32 → Int32 → Int32 → Option UInt64) (K6 : ∀ (a : KS) (v1 : Int32) (v2 : Int32) (v3 : Int32), c6 a v1 v2 v3 = some rr → J p l e (RM 1) s m args below meth c G A 5 (MQ below (QV (some (.double rr)) (PosW G ad a b A) A) args s 0 0 A) 0 0 ad a b 6 [(0, .ref (ad 0)), (1, .int v1), (2, .int v2), (3, .int v3)] []) (a : KS) (v1 : Int32) (v2 : Int32) (v3 : Int32) (hf : f_X8_fraction_6 c6 a v1 v2 v3 = some rr) : J p l e (RM 1) s m args below meth c G A 5 (MQ below (QV (some (.double rr)) (PosW G ad a b A) A) args s 0 0 A) 0 0 ad a b 6 [(0, .ref (ad 0)), (1, .int v1), (2, .int v2), (3, .int v3)] [] := by
  unfold f_X8_fraction_6 at hf
  refine j_iload_n C 3 rfl dX8_fraction_6 ?_
  refine j_aload_n C 0 rfl dX8_fraction_7 ?_
  refine j_get (q := 0) (kf := 0) (T := TX8) (N := 7) (RC := RX8) C m_0 ce_0 rfl in_X8 (by decide) (fun _ h9 => h9) fl_X8_10 rfl dX8_fraction_8 ?_
  refine j_get (q := 1) (kf := 2) (T := TX7) (N := 3) (RC := RX7) C m_1 ce_1 rfl in_X7 (by decide) (fun _ h9 => h9) fl_X8_107 rfl dX8_fraction_11 ?_
  refine j_icmp_ge C 75 dX8_fraction_14 (by decide) hf (fun y1 hf => ?_) (fun y1 hf => ?_)
  · refine j_iload_n C 2 rfl dX8_fraction_75 ?_
    refine j_if_le C 87 dX8_fraction_76 (by decide) hf (fun y2 hf => ?_) (fun y2 hf => ?_)
    · refine j_dconst0 C dX8_fraction_87 ?_
      obtain rfl := Option.some.inj hf
      exact j_dret C hr hk ⟨Nat.le_of_ble_eq_true rfl, Nat.le_of_ble_eq_true rfl⟩ rfl dX8_fraction_88
    · refine j_iload_n C 1 rfl dX8_fraction_79 ?_
      refine j_i2d C dX8_fraction_80 ?_
      refine j_iload_n C 2 rfl dX8_fraction_81 ?_
      refine j_i2d C dX8_fraction_82 ?_
      obtain ⟨h3, hf⟩ := gd_some hf
      refine j_ddiv C (nn64_of h3) dX8_fraction_83 ?_
      refine j_goto C 88 dX8_fraction_84 (by decide) ?_
      obtain rfl := Option.some.inj hf
      exact j_dret C hr hk ⟨Nat.le_of_ble_eq_true rfl, Nat.le_of_ble_eq_true rfl⟩ rfl dX8_fraction_88
  · refine j_aload_n C 0 rfl dX8_fraction_17 ?_
    refine j_get (q := 0) (kf := 0) (T := TX8) (N := 7) (RC := RX8) C m_0 ce_0 rfl in_X8 (by decide) (fun _ h9 => h9) fl_X8_10 rfl dX8_fraction_18 ?_
    refine j_iload_n C 3 rfl dX8_fraction_21 ?_
    obtain ⟨z4, h5, hf⟩ := bnd_some hf
    refine j_callV (q := 1) (As := [.int v3]) (rest := []) C (k_X7_find h5) cw_X7_find ml_X8_251 m_1 ce_1 rfl rfl ⟨Nat.le_of_ble_eq_true rfl, Nat.le_of_ble_eq_true rfl⟩ ⟨Nat.le_of_ble_eq_true rfl, Nat.le_of_ble_eq_true rfl⟩ rfl (Nat.le_of_ble_eq_true rfl) dX8_fraction_22 ?_
    refine j_astoreq (lv' := [(4, itv ad z4), (0, .ref (ad 0)), (1, .int v1), (2, .int v2), (3, .int v3)]) (o := z4) C dX8_fraction_25 (by decide) rfl ?_
    refine j_aloadq C 0 rfl dX8_fraction_27 ?_
    refine j_ifnull C 69 dX8_fraction_29 (by decide) hf (fun e9 hg => ?_) (fun i8 e9 hg => ?_)
    · clear hf
      subst e9
      have hf := hg
      clear hg
      refine j_sub [1, 2, 3, 4] rfl ?_
      exact w_X8_fraction_69 C hr hk c6 K6 a v1 v2 v3 hf
    · clear hf
      subst e9
      have hf := hg
      clear hg
      refine j_aload C 0 rfl dX8_fraction_32 ?_
      obtain ⟨h10, hf⟩ := gd_some hf
      have h10 := of_decide_eq_true h10
      refine j_get (q := (ip i8)) (kf := 1) (T := TX4) (N := 13) (RC := RX4) C (mem_ip h10) ce_item rfl in_X4 (by decide) (fun _ h9 => h9) fl_X8_110 rfl dX8_fraction_34 ?_
      refine j_iconst (v := 1) C (by decide) dX8_fraction_37 ?_
      refine j_icmp_ne C 69 dX8_fraction_38 (by decide) hf (fun y11 hf => ?_) (fun y11 hf => ?_)
      · refine j_sub [1, 2, 3, 4] rfl ?_
        exact w_X8_fraction_69 C hr hk c6 K6 a v1 v2 v3 hf
      · refine j_iload_n C 2 rfl dX8_fraction_41 ?_
        refine j_aload C 0 rfl dX8_fraction_42 ?_
        refine j_get (q := (ip i8)) (kf := 10) (T := TX4) (N := 13) (RC := RX4) C (mem_ip h10) ce_item rfl in_X4 (by decide) (fun _ h9 => h9) fl_X8_119 rfl dX8_fraction_44 ?_
        refine j_aload C 0 rfl dX8_fraction_47 ?_
        refine j_get (q := (ip i8)) (kf := 5) (T := TX4) (N := 13) (RC := RX4) C (mem_ip h10) ce_item rfl in_X4 (by decide) (fun _ h9 => h9) fl_X8_254 rfl dX8_fraction_49 ?_
        refine j_isub C dX8_fraction_52 ?_
        refine j_iadd C dX8_fraction_53 ?_
        refine j_letI hf (fun x12 hf => ?_)
        refine j_istore_n (i := 1) (lv' := [(1, .int x12), (4, .ref (ad (ip i8))), (0, .ref (ad 0)), (2, .int v2), (3, .int v3)]) C dX8_fraction_54 rfl (by decide) rfl ?_
        refine j_iload_n C 3 rfl dX8_fraction_55 ?_
        refine j_aload C 1 rfl dX8_fraction_56 ?_
        refine j_get (q := (ip i8)) (kf := 6) (T := TX4) (N := 13) (RC := RX4) C (mem_ip h10) ce_item rfl in_X4 (by decide) (fun _ h9 => h9) fl_X8_257 rfl dX8_fraction_58 ?_
        refine j_aload C 1 rfl dX8_fraction_61 ?_
        refine j_get (q := (ip i8)) (kf := 5) (T := TX4) (N := 13) (RC := RX4) C (mem_ip h10) ce_item rfl in_X4 (by decide) (fun _ h9 => h9) fl_X8_254 rfl dX8_fraction_63 ?_
        refine j_isub C dX8_fraction_66 ?_
        refine j_iadd C dX8_fraction_67 ?_
        refine j_letI hf (fun x13 hf => ?_)
        refine j_istore_n (i := 2) (lv' := [(2, .int x13), (1, .int x12), (4, .ref (ad (ip i8))), (0, .ref (ad 0)), (3, .int v3)]) C dX8_fraction_68 rfl (by decide) rfl ?_
        refine j_sub [3, 1, 0, 4] rfl ?_
        exact w_X8_fraction_69 C hr hk c6 K6 a x12 x13 v3 hf
theorem wl_X8_fraction_6 {b : MS} {p : Program} {l : Launch} {e : Env} {s : State} {m : MethodId} {args : Array Value} {below : List Frame} {meth : Method} {c : Code} {G : GT} {A : Nat → Prop} {ad : Nat → Nat} (C : CX G A RX8 cX8_fraction 5 p s m args c) (hr : meth.sig.returnType = (some .double)) (hk : meth.locks = false) {rr : UInt64} (fuel : Nat)   : ∀ (a : KS) (v1 : Int32) (v2 : Int32) (v3 : Int32), l_X8_fraction_6 fuel  a v1 v2 v3 = some rr → J p l e (RM 1) s m args below meth c G A 5 (MQ below (QV (some (.double rr)) (PosW G ad a b A) A) args s 0 0 A) 0 0 ad a b 6 [(0, .ref (ad 0)), (1, .int v1), (2, .int v2), (3, .int v3)] [] := by
  induction fuel with
  | zero => intro a v1 v2 v3 hf; cases hf
  | succ n ih =>
    intro a v1 v2 v3 hf
    have hf : f_X8_fraction_6 (l_X8_fraction_6 n ) a v1 v2 v3 = some rr := hf
    exact w_X8_fraction_6 C hr hk (l_X8_fraction_6 n ) ih a v1 v2 v3 hf
set_option maxRecDepth 100000 in
set_option maxHeartbeats 4000000 in
theorem k_X8_fraction {l : Launch} {G : GT} {ad : Nat → Nat} {a : KS} {b : MS} {rr : UInt64} (hf : f_X8_fraction a = some rr) : MT l G yX8_fraction cX8_fraction 5 (some .double) (RM 1) [.ref (ad 0)] ad a b (some (.double rr)) a b := by
  refine MT_of (by decide) (Nat.le_of_ble_eq_true rfl) ?_
  intro p e s m args below meth c A C hr hk
  unfold f_X8_fraction at hf
  refine j_iconst (v := 0) C (by decide) dX8_fraction_0 ?_
  refine j_istore_n (i := 1) (lv' := [(1, .int 0), (0, .ref (ad 0))]) C dX8_fraction_1 rfl (by decide) rfl ?_
  refine j_iconst (v := 0) C (by decide) dX8_fraction_2 ?_
  refine j_istore_n (i := 2) (lv' := [(2, .int 0), (1, .int 0), (0, .ref (ad 0))]) C dX8_fraction_3 rfl (by decide) rfl ?_
  refine j_iconst (v := 0) C (by decide) dX8_fraction_4 ?_
  refine j_istore_n (i := 3) (lv' := [(3, .int 0), (2, .int 0), (1, .int 0), (0, .ref (ad 0))]) C dX8_fraction_5 rfl (by decide) rfl ?_
  refine j_sub [3, 2, 1, 0] rfl ?_
  exact wl_X8_fraction_6 C hr hk FU a 0 0 0 hf
set_option maxRecDepth 100000 in
set_option maxHeartbeats 4000000 in
theorem k_X8_mix {l : Launch} {G : GT} {ad : Nat → Nat} {a : KS} {v0 : Int64} {v2 : Int64} {b : MS} {rr : Int64} (hf : f_X8_mix a v0 v2 = some rr) : MT l G yX8_mix cX8_mix 4 (some .long) (RM 0) [.long v0, .long v2] ad a b (some (.long rr)) a b := by
  refine MT_of (by decide) (Nat.le_of_ble_eq_true rfl) ?_
  intro p e s m args below meth c A C hr hk
  unfold f_X8_mix at hf
  refine j_ldc2 C wk_X8_347 dX8_mix_0 ?_
  refine j_lload_n C 0 rfl dX8_mix_3 ?_
  refine j_lmul C dX8_mix_4 ?_
  refine j_lload_n C 1 rfl dX8_mix_5 ?_
  refine j_ladd C dX8_mix_6 ?_
  obtain rfl := Option.some.inj hf
  exact j_lret C hr hk ⟨Nat.le_of_ble_eq_true rfl, Nat.le_of_ble_eq_true rfl⟩ rfl dX8_mix_7
set_option maxRecDepth 100000 in
set_option maxHeartbeats 4000000 in
theorem k_X8_mixPosition {l : Launch} {G : GT} {ad : Nat → Nat} {a : KS} {v1 : Int64} {b : MS} {rr : Int64} (hf : f_X8_mixPosition a v1 = some rr) : MT l G yX8_mixPosition cX8_mixPosition 5 (some .long) (RM 6) [.ref (ad 0), .long v1] ad a b (some (.long rr)) a b := by
  refine MT_of (by decide) (Nat.le_of_ble_eq_true rfl) ?_
  intro p e s m args below meth c A C hr hk
  unfold f_X8_mixPosition at hf
  refine j_lload_n C 1 rfl dX8_mixPosition_0 ?_
  refine j_aload_n C 0 rfl dX8_mixPosition_1 ?_
  obtain ⟨z1, h2, hf⟩ := bnd_some hf
  refine j_callV (q := 0) (As := []) (rest := [.long v1]) C (k_X8_items h2) cw_X8_items ml_X8_349 m_0 ce_0 rfl rfl ⟨Nat.le_of_ble_eq_true rfl, Nat.le_of_ble_eq_true rfl⟩ ⟨Nat.le_of_ble_eq_true rfl, Nat.le_of_ble_eq_true rfl⟩ rfl (Nat.le_of_ble_eq_true rfl) dX8_mixPosition_2 ?_
  refine j_i2l C dX8_mixPosition_5 ?_
  obtain ⟨z4, h5, hf⟩ := bnd_some hf
  refine j_callS (As := [.long v1, .long z1.toInt64]) (rest := []) C (k_X8_mix h5) cw_X8_mix ml_X8_306 rfl ⟨Nat.le_of_ble_eq_true rfl, Nat.le_of_ble_eq_true rfl⟩ ⟨Nat.le_of_ble_eq_true rfl, Nat.le_of_ble_eq_true rfl⟩ rfl (Nat.le_of_ble_eq_true rfl) dX8_mixPosition_6 ?_
  refine j_lstore_n (i := 3) (lv' := [(3, .long z4), (0, .ref (ad 0)), (1, .long v1)]) C dX8_mixPosition_9 rfl (by decide) rfl ?_
  refine j_lload_n C 0 rfl dX8_mixPosition_10 ?_
  refine j_aload_n C 1 rfl dX8_mixPosition_11 ?_
  obtain ⟨z7, h8, hf⟩ := bnd_some hf
  refine j_callV (q := 0) (As := []) (rest := [.long z4]) C (k_X8_mode h8) cw_X8_mode ml_X8_352 m_0 ce_0 rfl rfl ⟨Nat.le_of_ble_eq_true rfl, Nat.le_of_ble_eq_true rfl⟩ ⟨Nat.le_of_ble_eq_true rfl, Nat.le_of_ble_eq_true rfl⟩ rfl (Nat.le_of_ble_eq_true rfl) dX8_mixPosition_12 ?_
  refine j_i2l C dX8_mixPosition_15 ?_
  obtain ⟨z10, h11, hf⟩ := bnd_some hf
  refine j_callS (As := [.long z4, .long z7.toInt64]) (rest := []) C (k_X8_mix h11) cw_X8_mix ml_X8_306 rfl ⟨Nat.le_of_ble_eq_true rfl, Nat.le_of_ble_eq_true rfl⟩ ⟨Nat.le_of_ble_eq_true rfl, Nat.le_of_ble_eq_true rfl⟩ rfl (Nat.le_of_ble_eq_true rfl) dX8_mixPosition_16 ?_
  refine j_lstore_n (i := 3) (lv' := [(3, .long z10), (0, .ref (ad 0)), (1, .long v1)]) C dX8_mixPosition_19 rfl (by decide) rfl ?_
  refine j_lload_n C 0 rfl dX8_mixPosition_20 ?_
  refine j_aload_n C 1 rfl dX8_mixPosition_21 ?_
  obtain ⟨z13, h14, hf⟩ := bnd_some hf
  refine j_callV (q := 0) (As := []) (rest := [.long z10]) C (k_X8_shown h14) cw_X8_shown ml_X8_354 m_0 ce_0 rfl rfl ⟨Nat.le_of_ble_eq_true rfl, Nat.le_of_ble_eq_true rfl⟩ ⟨Nat.le_of_ble_eq_true rfl, Nat.le_of_ble_eq_true rfl⟩ rfl (Nat.le_of_ble_eq_true rfl) dX8_mixPosition_22 ?_
  refine j_i2l C dX8_mixPosition_25 ?_
  obtain ⟨z16, h17, hf⟩ := bnd_some hf
  refine j_callS (As := [.long z10, .long z13.toInt64]) (rest := []) C (k_X8_mix h17) cw_X8_mix ml_X8_306 rfl ⟨Nat.le_of_ble_eq_true rfl, Nat.le_of_ble_eq_true rfl⟩ ⟨Nat.le_of_ble_eq_true rfl, Nat.le_of_ble_eq_true rfl⟩ rfl (Nat.le_of_ble_eq_true rfl) dX8_mixPosition_26 ?_
  refine j_lstore_n (i := 3) (lv' := [(3, .long z16), (0, .ref (ad 0)), (1, .long v1)]) C dX8_mixPosition_29 rfl (by decide) rfl ?_
  refine j_lload_n C 0 rfl dX8_mixPosition_30 ?_
  refine j_aload_n C 1 rfl dX8_mixPosition_31 ?_
  obtain ⟨z19, h20, hf⟩ := bnd_some hf
  refine j_callV (q := 0) (As := []) (rest := [.long z16]) C (k_X8_cursor h20) cw_X8_cursor ml_X8_356 m_0 ce_0 rfl rfl ⟨Nat.le_of_ble_eq_true rfl, Nat.le_of_ble_eq_true rfl⟩ ⟨Nat.le_of_ble_eq_true rfl, Nat.le_of_ble_eq_true rfl⟩ rfl (Nat.le_of_ble_eq_true rfl) dX8_mixPosition_32 ?_
  refine j_i2l C dX8_mixPosition_35 ?_
  obtain ⟨z22, h23, hf⟩ := bnd_some hf
  refine j_callS (As := [.long z16, .long z19.toInt64]) (rest := []) C (k_X8_mix h23) cw_X8_mix ml_X8_306 rfl ⟨Nat.le_of_ble_eq_true rfl, Nat.le_of_ble_eq_true rfl⟩ ⟨Nat.le_of_ble_eq_true rfl, Nat.le_of_ble_eq_true rfl⟩ rfl (Nat.le_of_ble_eq_true rfl) dX8_mixPosition_36 ?_
  refine j_lstore_n (i := 3) (lv' := [(3, .long z22), (0, .ref (ad 0)), (1, .long v1)]) C dX8_mixPosition_39 rfl (by decide) rfl ?_
  refine j_lload_n C 0 rfl dX8_mixPosition_40 ?_
  refine j_aload_n C 1 rfl dX8_mixPosition_41 ?_
  obtain ⟨z25, h26, hf⟩ := bnd_some hf
  refine j_callV (q := 0) (As := []) (rest := [.long z22]) C (k_X8_chosen h26) cw_X8_chosen ml_X8_358 m_0 ce_0 rfl rfl ⟨Nat.le_of_ble_eq_true rfl, Nat.le_of_ble_eq_true rfl⟩ ⟨Nat.le_of_ble_eq_true rfl, Nat.le_of_ble_eq_true rfl⟩ rfl (Nat.le_of_ble_eq_true rfl) dX8_mixPosition_42 ?_
  refine j_i2l C dX8_mixPosition_45 ?_
  obtain ⟨z28, h29, hf⟩ := bnd_some hf
  refine j_callS (As := [.long z22, .long z25.toInt64]) (rest := []) C (k_X8_mix h29) cw_X8_mix ml_X8_306 rfl ⟨Nat.le_of_ble_eq_true rfl, Nat.le_of_ble_eq_true rfl⟩ ⟨Nat.le_of_ble_eq_true rfl, Nat.le_of_ble_eq_true rfl⟩ rfl (Nat.le_of_ble_eq_true rfl) dX8_mixPosition_46 ?_
  refine j_lstore_n (i := 3) (lv' := [(3, .long z28), (0, .ref (ad 0)), (1, .long v1)]) C dX8_mixPosition_49 rfl (by decide) rfl ?_
  refine j_lload_n C 0 rfl dX8_mixPosition_50 ?_
  refine j_aload_n C 1 rfl dX8_mixPosition_51 ?_
  obtain ⟨z31, h32, hf⟩ := bnd_some hf
  refine j_callV (q := 0) (As := []) (rest := [.long z28]) C (k_X8_draft h32) cw_X8_draft ml_X8_361 m_0 ce_0 rfl rfl ⟨Nat.le_of_ble_eq_true rfl, Nat.le_of_ble_eq_true rfl⟩ ⟨Nat.le_of_ble_eq_true rfl, Nat.le_of_ble_eq_true rfl⟩ rfl (Nat.le_of_ble_eq_true rfl) dX8_mixPosition_52 ?_
  refine j_i2l C dX8_mixPosition_55 ?_
  obtain ⟨z34, h35, hf⟩ := bnd_some hf
  refine j_callS (As := [.long z28, .long z31.toInt64]) (rest := []) C (k_X8_mix h35) cw_X8_mix ml_X8_306 rfl ⟨Nat.le_of_ble_eq_true rfl, Nat.le_of_ble_eq_true rfl⟩ ⟨Nat.le_of_ble_eq_true rfl, Nat.le_of_ble_eq_true rfl⟩ rfl (Nat.le_of_ble_eq_true rfl) dX8_mixPosition_56 ?_
  refine j_lstore_n (i := 3) (lv' := [(3, .long z34), (0, .ref (ad 0)), (1, .long v1)]) C dX8_mixPosition_59 rfl (by decide) rfl ?_
  refine j_lload_n C 0 rfl dX8_mixPosition_60 ?_
  refine j_aload_n C 1 rfl dX8_mixPosition_61 ?_
  obtain ⟨z37, h38, hf⟩ := bnd_some hf
  refine j_callV (q := 0) (As := []) (rest := [.long z34]) C (k_X8_idle h38) cw_X8_idle ml_X8_363 m_0 ce_0 rfl rfl ⟨Nat.le_of_ble_eq_true rfl, Nat.le_of_ble_eq_true rfl⟩ ⟨Nat.le_of_ble_eq_true rfl, Nat.le_of_ble_eq_true rfl⟩ rfl (Nat.le_of_ble_eq_true rfl) dX8_mixPosition_62 ?_
  refine j_i2l C dX8_mixPosition_65 ?_
  obtain ⟨z40, h41, hf⟩ := bnd_some hf
  refine j_callS (As := [.long z34, .long z37.toInt64]) (rest := []) C (k_X8_mix h41) cw_X8_mix ml_X8_306 rfl ⟨Nat.le_of_ble_eq_true rfl, Nat.le_of_ble_eq_true rfl⟩ ⟨Nat.le_of_ble_eq_true rfl, Nat.le_of_ble_eq_true rfl⟩ rfl (Nat.le_of_ble_eq_true rfl) dX8_mixPosition_66 ?_
  refine j_lstore_n (i := 3) (lv' := [(3, .long z40), (0, .ref (ad 0)), (1, .long v1)]) C dX8_mixPosition_69 rfl (by decide) rfl ?_
  refine j_lload_n C 0 rfl dX8_mixPosition_70 ?_
  refine j_aload_n C 1 rfl dX8_mixPosition_71 ?_
  obtain ⟨z43, h44, hf⟩ := bnd_some hf
  refine j_callV (q := 0) (As := []) (rest := [.long z40]) C (k_X8_barred h44) cw_X8_barred ml_X8_365 m_0 ce_0 rfl rfl ⟨Nat.le_of_ble_eq_true rfl, Nat.le_of_ble_eq_true rfl⟩ ⟨Nat.le_of_ble_eq_true rfl, Nat.le_of_ble_eq_true rfl⟩ rfl (Nat.le_of_ble_eq_true rfl) dX8_mixPosition_72 ?_
  refine j_i2l C dX8_mixPosition_75 ?_
  obtain ⟨z46, h47, hf⟩ := bnd_some hf
  refine j_callS (As := [.long z40, .long z43.toInt64]) (rest := []) C (k_X8_mix h47) cw_X8_mix ml_X8_306 rfl ⟨Nat.le_of_ble_eq_true rfl, Nat.le_of_ble_eq_true rfl⟩ ⟨Nat.le_of_ble_eq_true rfl, Nat.le_of_ble_eq_true rfl⟩ rfl (Nat.le_of_ble_eq_true rfl) dX8_mixPosition_76 ?_
  refine j_lstore_n (i := 3) (lv' := [(3, .long z46), (0, .ref (ad 0)), (1, .long v1)]) C dX8_mixPosition_79 rfl (by decide) rfl ?_
  refine j_lload_n C 0 rfl dX8_mixPosition_80 ?_
  refine j_aload_n C 1 rfl dX8_mixPosition_81 ?_
  obtain ⟨z49, h50, hf⟩ := bnd_some hf
  refine j_callV (q := 0) (As := []) (rest := [.long z46]) C (k_X8_logged h50) cw_X8_logged ml_X8_368 m_0 ce_0 rfl rfl ⟨Nat.le_of_ble_eq_true rfl, Nat.le_of_ble_eq_true rfl⟩ ⟨Nat.le_of_ble_eq_true rfl, Nat.le_of_ble_eq_true rfl⟩ rfl (Nat.le_of_ble_eq_true rfl) dX8_mixPosition_82 ?_
  refine j_i2l C dX8_mixPosition_85 ?_
  obtain ⟨z52, h53, hf⟩ := bnd_some hf
  refine j_callS (As := [.long z46, .long z49.toInt64]) (rest := []) C (k_X8_mix h53) cw_X8_mix ml_X8_306 rfl ⟨Nat.le_of_ble_eq_true rfl, Nat.le_of_ble_eq_true rfl⟩ ⟨Nat.le_of_ble_eq_true rfl, Nat.le_of_ble_eq_true rfl⟩ rfl (Nat.le_of_ble_eq_true rfl) dX8_mixPosition_86 ?_
  refine j_lstore_n (i := 3) (lv' := [(3, .long z52), (0, .ref (ad 0)), (1, .long v1)]) C dX8_mixPosition_89 rfl (by decide) rfl ?_
  refine j_lload_n C 0 rfl dX8_mixPosition_90 ?_
  refine j_aload_n C 1 rfl dX8_mixPosition_91 ?_
  obtain ⟨z55, h56, hf⟩ := bnd_some hf
  refine j_callV (q := 0) (As := []) (rest := [.long z52]) C (k_X8_ticksToHome h56) cw_X8_ticksToHome ml_X8_371 m_0 ce_0 rfl rfl ⟨Nat.le_of_ble_eq_true rfl, Nat.le_of_ble_eq_true rfl⟩ ⟨Nat.le_of_ble_eq_true rfl, Nat.le_of_ble_eq_true rfl⟩ rfl (Nat.le_of_ble_eq_true rfl) dX8_mixPosition_92 ?_
  refine j_i2l C dX8_mixPosition_95 ?_
  obtain ⟨z58, h59, hf⟩ := bnd_some hf
  refine j_callS (As := [.long z52, .long z55.toInt64]) (rest := []) C (k_X8_mix h59) cw_X8_mix ml_X8_306 rfl ⟨Nat.le_of_ble_eq_true rfl, Nat.le_of_ble_eq_true rfl⟩ ⟨Nat.le_of_ble_eq_true rfl, Nat.le_of_ble_eq_true rfl⟩ rfl (Nat.le_of_ble_eq_true rfl) dX8_mixPosition_96 ?_
  obtain rfl := Option.some.inj hf
  exact j_lret C hr hk ⟨Nat.le_of_ble_eq_true rfl, Nat.le_of_ble_eq_true rfl⟩ rfl dX8_mixPosition_99
set_option maxRecDepth 100000 in
set_option maxHeartbeats 4000000 in
theorem w_X8_mixItems_87 {b : MS} {p : Program} {l : Launch} {e : Env} {s : State} {m : MethodId} {args : Array Value} {below : List Frame} {meth : Method} {c : Code} {G : GT} {A : Nat → Prop} {ad : Nat → Nat} (C : CX G A RX8 cX8_mixItems 7 p s m args c) (hr : meth.sig.returnType = (some .long)) (hk : meth.locks = false) {rr : Int64} (c5 : KS → Int64 → Int32 → Option Int64) (K5 : ∀ (a : KS) (v3 : Int64) (v5 : Int32), c5 a v3 v5 = some rr → J p l e (RM 2) s m args below meth c G A 7 (MQ below (QV (some (.long rr)) (PosW G ad a b A) A) args s 0 0 A) 0 0 ad a b 5 [(0, .ref (ad 0)), (3, .long v3), (5, .int v5)] []) (a : KS) (v3 : Int64) (v5 : Int32) (hf : f_X8_mixItems_87 c5 a v3 v5 = some rr) : J p l e (RM 2) s m args below meth c G A 7 (MQ below (QV (some (.long rr)) (PosW G ad a b A) A) args s 0 0 A) 0 0 ad a b 87 [(0, .ref (ad 0)), (3, .long v3), (5, .int v5)] [] := by
  unfold f_X8_mixItems_87 at hf
  refine j_iinc (v := v5 + 1) (lv' := [(5, .int (v5 + 1)), (0, .ref (ad 0)), (3, .long v3)]) C 2 rfl rfl (by decide) rfl dX8_mixItems_87 ?_
  refine j_goto C 5 dX8_mixItems_90 (by decide) ?_
  refine j_sub [1, 2, 0] rfl ?_
  exact K5 a v3 (v5 + 1) hf
set_option maxRecDepth 100000 in
set_option maxHeartbeats 4000000 in
theorem w_X8_mixItems_72 {b : MS} {p : Program} {l : Launch} {e : Env} {s : State} {m : MethodId} {args : Array Value} {below : List Frame} {meth : Method} {c : Code} {G : GT} {A : Nat → Prop} {ad : Nat → Nat} (C : CX G A RX8 cX8_mixItems 7 p s m args c) (hr : meth.sig.returnType = (some .long)) (hk : meth.locks = false) {rr : Int64} (c5 : KS → Int64 → Int32 → Option Int64) (K5 : ∀ (a : KS) (v3 : Int64) (v5 : Int32), c5 a v3 v5 = some rr → J p l e (RM 2) s m args below meth c G A 7 (MQ below (QV (some (.long rr)) (PosW G ad a b A) A) args s 0 0 A) 0 0 ad a b 5 [(0, .ref (ad 0)), (3, .long v3), (5, .int v5)] []) (a : KS) (v5 : Int32) (v6 : Nat) (s0 : Int64) (s1 : Int64) (hf : f_X8_mixItems_72 c5 a v5 v6 s0 s1 = some rr) : J p l e (RM 2) s m args below meth c G A 7 (MQ below (QV (some (.long rr)) (PosW G ad a b A) A) args s 0 0 A) 0 0 ad a b 72 [(0, .ref (ad 0)), (5, .int v5), (6, .ref (ad (ip v6)))] [.long s1, .long s0] := by
  unfold f_X8_mixItems_72 at hf
  obtain ⟨z1, h2, hf⟩ := bnd_some hf
  refine j_callS (As := [.long s0, .long s1]) (rest := []) C (k_X8_mix h2) cw_X8_mix ml_X8_306 rfl ⟨Nat.le_of_ble_eq_true rfl, Nat.le_of_ble_eq_true rfl⟩ ⟨Nat.le_of_ble_eq_true rfl, Nat.le_of_ble_eq_true rfl⟩ rfl (Nat.le_of_ble_eq_true rfl) dX8_mixItems_72 ?_
  refine j_lstore_n (i := 3) (lv' := [(3, .long z1), (0, .ref (ad 0)), (5, .int v5), (6, .ref (ad (ip v6)))]) C dX8_mixItems_75 rfl (by decide) rfl ?_
  refine j_lload_n C 0 rfl dX8_mixItems_76 ?_
  refine j_aload C 3 rfl dX8_mixItems_77 ?_
  obtain ⟨h4, hf⟩ := gd_some hf
  have h4 := of_decide_eq_true h4
  refine j_get (q := (ip v6)) (kf := 10) (T := TX4) (N := 13) (RC := RX4) C (mem_ip h4) ce_item rfl in_X4 (by decide) (fun _ h9 => h9) fl_X8_119 rfl dX8_mixItems_79 ?_
  refine j_i2l C dX8_mixItems_82 ?_
  obtain ⟨z5, h6, hf⟩ := bnd_some hf
  refine j_callS (As := [.long z1, .long ((Kit a v6 10).toInt64)]) (rest := []) C (k_X8_mix h6) cw_X8_mix ml_X8_306 rfl ⟨Nat.le_of_ble_eq_true rfl, Nat.le_of_ble_eq_true rfl⟩ ⟨Nat.le_of_ble_eq_true rfl, Nat.le_of_ble_eq_true rfl⟩ rfl (Nat.le_of_ble_eq_true rfl) dX8_mixItems_83 ?_
  refine j_lstore_n (i := 3) (lv' := [(3, .long z5), (0, .ref (ad 0)), (5, .int v5), (6, .ref (ad (ip v6)))]) C dX8_mixItems_86 rfl (by decide) rfl ?_
  refine j_sub [1, 0, 2] rfl ?_
  exact w_X8_mixItems_87 C hr hk c5 K5 a z5 v5 hf
set_option maxRecDepth 100000 in
set_option maxHeartbeats 4000000 in
theorem w_X8_mixItems_5 {b : MS} {p : Program} {l : Launch} {e : Env} {s : State} {m : MethodId} {args : Array Value} {below : List Frame} {meth : Method} {c : Code} {G : GT} {A : Nat → Prop} {ad : Nat → Nat} (C : CX G A RX8 cX8_mixItems 7 p s m args c) (hr : meth.sig.returnType = (some .long)) (hk : meth.locks = false) {rr : Int64} (c5 : KS → Int64 → Int32 → Option Int64) (K5 : ∀ (a : KS) (v3 : Int64) (v5 : Int32), c5 a v3 v5 = some rr → J p l e (RM 2) s m args below meth c G A 7 (MQ below (QV (some (.long rr)) (PosW G ad a b A) A) args s 0 0 A) 0 0 ad a b 5 [(0, .ref (ad 0)), (3, .long v3), (5, .int v5)] []) (a : KS) (v3 : Int64) (v5 : Int32) (hf : f_X8_mixItems_5 c5 a v3 v5 = some rr) : J p l e (RM 2) s m args below meth c G A 7 (MQ below (QV (some (.long rr)) (PosW G ad a b A) A) args s 0 0 A) 0 0 ad a b 5 [(0, .ref (ad 0)), (3, .long v3), (5, .int v5)] [] := by
  unfold f_X8_mixItems_5 at hf
  refine j_iload C 2 rfl dX8_mixItems_5 ?_
  refine j_aload_n C 0 rfl dX8_mixItems_7 ?_
  refine j_get (q := 0) (kf := 0) (T := TX8) (N := 7) (RC := RX8) C m_0 ce_0 rfl in_X8 (by decide) (fun _ h9 => h9) fl_X8_10 rfl dX8_mixItems_8 ?_
  refine j_get (q := 1) (kf := 2) (T := TX7) (N := 3) (RC := RX7) C m_1 ce_1 rfl in_X7 (by decide) (fun _ h9 => h9) fl_X8_107 rfl dX8_mixItems_11 ?_
  refine j_icmp_ge C 93 dX8_mixItems_14 (by decide) hf (fun y1 hf => ?_) (fun y1 hf => ?_)
  · refine j_lload_n C 1 rfl dX8_mixItems_93 ?_
    obtain rfl := Option.some.inj hf
    exact j_lret C hr hk ⟨Nat.le_of_ble_eq_true rfl, Nat.le_of_ble_eq_true rfl⟩ rfl dX8_mixItems_94
  · refine j_aload_n C 0 rfl dX8_mixItems_17 ?_
    refine j_get (q := 0) (kf := 0) (T := TX8) (N := 7) (RC := RX8) C m_0 ce_0 rfl in_X8 (by decide) (fun _ h9 => h9) fl_X8_10 rfl dX8_mixItems_18 ?_
    refine j_iload C 2 rfl dX8_mixItems_21 ?_
    obtain ⟨z2, h3, hf⟩ := bnd_some hf
    refine j_callV (q := 1) (As := [.int v5]) (rest := []) C (k_X7_find h3) cw_X7_find ml_X8_251 m_1 ce_1 rfl rfl ⟨Nat.le_of_ble_eq_true rfl, Nat.le_of_ble_eq_true rfl⟩ ⟨Nat.le_of_ble_eq_true rfl, Nat.le_of_ble_eq_true rfl⟩ rfl (Nat.le_of_ble_eq_true rfl) dX8_mixItems_23 ?_
    refine j_astoreq (lv' := [(6, itv ad z2), (0, .ref (ad 0)), (3, .long v3), (5, .int v5)]) (o := z2) C dX8_mixItems_26 (by decide) rfl ?_
    refine j_aloadq C 0 rfl dX8_mixItems_28 ?_
    refine j_ifnull C 87 dX8_mixItems_30 (by decide) hf (fun e7 hg => ?_) (fun i6 e7 hg => ?_)
    · clear hf
      subst e7
      have hf := hg
      clear hg
      refine j_sub [1, 2, 3] rfl ?_
      exact w_X8_mixItems_87 C hr hk c5 K5 a v3 v5 hf
    · clear hf
      subst e7
      have hf := hg
      clear hg
      refine j_lload_n C 2 rfl dX8_mixItems_33 ?_
      refine j_aload C 0 rfl dX8_mixItems_34 ?_
      obtain ⟨h8, hf⟩ := gd_some hf
      have h8 := of_decide_eq_true h8
      refine j_get (q := (ip i6)) (kf := 1) (T := TX4) (N := 13) (RC := RX4) C (mem_ip h8) ce_item rfl in_X4 (by decide) (fun _ h9 => h9) fl_X8_110 rfl dX8_mixItems_36 ?_
      refine j_i2l C dX8_mixItems_39 ?_
      obtain ⟨z9, h10, hf⟩ := bnd_some hf
      refine j_callS (As := [.long v3, .long ((Kit a i6 1).toInt64)]) (rest := []) C (k_X8_mix h10) cw_X8_mix ml_X8_306 rfl ⟨Nat.le_of_ble_eq_true rfl, Nat.le_of_ble_eq_true rfl⟩ ⟨Nat.le_of_ble_eq_true rfl, Nat.le_of_ble_eq_true rfl⟩ rfl (Nat.le_of_ble_eq_true rfl) dX8_mixItems_40 ?_
      refine j_lstore_n (i := 3) (lv' := [(3, .long z9), (6, .ref (ad (ip i6))), (0, .ref (ad 0)), (5, .int v5)]) C dX8_mixItems_43 rfl (by decide) rfl ?_
      refine j_lload_n C 0 rfl dX8_mixItems_44 ?_
      refine j_aload C 1 rfl dX8_mixItems_45 ?_
      refine j_get (q := (ip i6)) (kf := 2) (T := TX4) (N := 13) (RC := RX4) C (mem_ip h8) ce_item rfl in_X4 (by decide) (fun _ h9 => h9) fl_X8_89 rfl dX8_mixItems_47 ?_
      refine j_letO hf (fun o12 hf => ?_)
      obtain ⟨z13, h14, hf⟩ := bnd_some hf
      refine j_callS (As := [itv ad o12]) (rest := [.long z9]) C (k_X8_numberOf h14) cw_X8_numberOf ml_X8_113 rfl ⟨Nat.le_of_ble_eq_true rfl, Nat.le_of_ble_eq_true rfl⟩ ⟨Nat.le_of_ble_eq_true rfl, Nat.le_of_ble_eq_true rfl⟩ rfl (Nat.le_of_ble_eq_true rfl) dX8_mixItems_50 ?_
      refine j_i2l C dX8_mixItems_53 ?_
      obtain ⟨z16, h17, hf⟩ := bnd_some hf
      refine j_callS (As := [.long z9, .long z13.toInt64]) (rest := []) C (k_X8_mix h17) cw_X8_mix ml_X8_306 rfl ⟨Nat.le_of_ble_eq_true rfl, Nat.le_of_ble_eq_true rfl⟩ ⟨Nat.le_of_ble_eq_true rfl, Nat.le_of_ble_eq_true rfl⟩ rfl (Nat.le_of_ble_eq_true rfl) dX8_mixItems_54 ?_
      refine j_lstore_n (i := 3) (lv' := [(3, .long z16), (6, .ref (ad (ip i6))), (0, .ref (ad 0)), (5, .int v5)]) C dX8_mixItems_57 rfl (by decide) rfl ?_
      refine j_lload_n C 0 rfl dX8_mixItems_58 ?_
      refine j_aload C 1 rfl dX8_mixItems_59 ?_
      obtain ⟨z19, h20, hf⟩ := bnd_some hf
      refine j_callV (q := (ip i6)) (As := []) (rest := [.long z16]) C (k_X4_closed h20) cw_X4_closed ml_X8_122 (mem_ip h8) ce_item rfl rfl ⟨Nat.le_of_ble_eq_true rfl, Nat.le_of_ble_eq_true rfl⟩ ⟨Nat.le_of_ble_eq_true rfl, Nat.le_of_ble_eq_true rfl⟩ rfl (Nat.le_of_ble_eq_true rfl) dX8_mixItems_61 ?_
      refine j_if_eq C 71 dX8_mixItems_64 (by decide) hf (fun y22 hf => ?_) (fun y22 hf => ?_)
      · refine j_lconst (v := 0) C (by decide) dX8_mixItems_71 ?_
        refine j_sub [2, 3, 1] rfl ?_
        exact w_X8_mixItems_72 C hr hk c5 K5 a v5 i6 z16 0 hf
      · refine j_lconst (v := 1) C (by decide) dX8_mixItems_67 ?_
        refine j_goto C 72 dX8_mixItems_68 (by decide) ?_
        refine j_sub [2, 3, 1] rfl ?_
        exact w_X8_mixItems_72 C hr hk c5 K5 a v5 i6 z16 1 hf
theorem wl_X8_mixItems_5 {b : MS} {p : Program} {l : Launch} {e : Env} {s : State} {m : MethodId} {args : Array Value} {below : List Frame} {meth : Method} {c : Code} {G : GT} {A : Nat → Prop} {ad : Nat → Nat} (C : CX G A RX8 cX8_mixItems 7 p s m args c) (hr : meth.sig.returnType = (some .long)) (hk : meth.locks = false) {rr : Int64} (fuel : Nat)   : ∀ (a : KS) (v3 : Int64) (v5 : Int32), l_X8_mixItems_5 fuel  a v3 v5 = some rr → J p l e (RM 2) s m args below meth c G A 7 (MQ below (QV (some (.long rr)) (PosW G ad a b A) A) args s 0 0 A) 0 0 ad a b 5 [(0, .ref (ad 0)), (3, .long v3), (5, .int v5)] [] := by
  induction fuel with
  | zero => intro a v3 v5 hf; cases hf
  | succ n ih =>
    intro a v3 v5 hf
    have hf : f_X8_mixItems_5 (l_X8_mixItems_5 n ) a v3 v5 = some rr := hf
    exact w_X8_mixItems_5 C hr hk (l_X8_mixItems_5 n ) ih a v3 v5 hf
set_option maxRecDepth 100000 in
set_option maxHeartbeats 4000000 in
theorem k_X8_mixItems {l : Launch} {G : GT} {ad : Nat → Nat} {a : KS} {v1 : Int64} {b : MS} {rr : Int64} (hf : f_X8_mixItems a v1 = some rr) : MT l G yX8_mixItems cX8_mixItems 7 (some .long) (RM 2) [.ref (ad 0), .long v1] ad a b (some (.long rr)) a b := by
  refine MT_of (by decide) (Nat.le_of_ble_eq_true rfl) ?_
  intro p e s m args below meth c A C hr hk
  unfold f_X8_mixItems at hf
  refine j_lload_n C 1 rfl dX8_mixItems_0 ?_
  refine j_lstore_n (i := 3) (lv' := [(3, .long v1), (0, .ref (ad 0)), (1, .long v1)]) C dX8_mixItems_1 rfl (by decide) rfl ?_
  refine j_iconst (v := 0) C (by decide) dX8_mixItems_2 ?_
  refine j_istore (lv' := [(5, .int 0), (3, .long v1), (0, .ref (ad 0)), (1, .long v1)]) C dX8_mixItems_3 (by decide) rfl ?_
  refine j_sub [2, 1, 0] rfl ?_
  exact wl_X8_mixItems_5 C hr hk FU a v1 0 hf
set_option maxRecDepth 100000 in
set_option maxHeartbeats 4000000 in
theorem w_X8_mixScreen_14 {b : MS} {p : Program} {l : Launch} {e : Env} {s : State} {m : MethodId} {args : Array Value} {below : List Frame} {meth : Method} {c : Code} {G : GT} {A : Nat → Prop} {ad : Nat → Nat} (C : CX G A RX8 cX8_mixScreen 7 p s m args c) (hr : meth.sig.returnType = (some .long)) (hk : meth.locks = false) {rr : Int64} (c5 : KS → Int64 → Int32 → Option Int64) (c14 : KS → Int64 → Int32 → Int32 → Option Int64) (K5 : ∀ (a : KS) (v3 : Int64) (v5 : Int32), c5 a v3 v5 = some rr → J p l e (RM 1) s m args below meth c G A 7 (MQ below (QV (some (.long rr)) (PosW G ad a b A) A) args s 0 0 A) 0 0 ad a b 5 [(0, .ref (ad 0)), (3, .long v3), (5, .int v5)] []) (K14 : ∀ (a : KS) (v3 : Int64) (v5 : Int32) (v6 : Int32), c14 a v3 v5 v6 = some rr → J p l e (RM 1) s m args below meth c G A 7 (MQ below (QV (some (.long rr)) (PosW G ad a b A) A) args s 0 0 A) 0 0 ad a b 14 [(0, .ref (ad 0)), (3, .long v3), (5, .int v5), (6, .int v6)] []) (a : KS) (v3 : Int64) (v5 : Int32) (v6 : Int32) (hf : f_X8_mixScreen_14 c5 c14 a v3 v5 v6 = some rr) : J p l e (RM 1) s m args below meth c G A 7 (MQ below (QV (some (.long rr)) (PosW G ad a b A) A) args s 0 0 A) 0 0 ad a b 14 [(0, .ref (ad 0)), (3, .long v3), (5, .int v5), (6, .int v6)] [] := by
  unfold f_X8_mixScreen_14 at hf
  refine j_iload C 3 rfl dX8_mixScreen_14 ?_
  refine j_bipush (v := 16) C (by decide) dX8_mixScreen_16 ?_
  refine j_icmp_ge C 44 dX8_mixScreen_18 (by decide) hf (fun y1 hf => ?_) (fun y1 hf => ?_)
  · refine j_iinc (v := v5 + 1) (lv' := [(5, .int (v5 + 1)), (0, .ref (ad 0)), (3, .long v3), (6, .int v6)]) C 2 rfl rfl (by decide) rfl dX8_mixScreen_44 ?_
    refine j_goto C 5 dX8_mixScreen_47 (by decide) ?_
    refine j_sub [1, 2, 0] rfl ?_
    exact K5 a v3 (v5 + 1) hf
  · refine j_lload_n C 1 rfl dX8_mixScreen_21 ?_
    refine j_aload_n C 0 rfl dX8_mixScreen_22 ?_
    refine j_get (q := 0) (kf := 5) (T := TX8) (N := 7) (RC := RX8) C m_0 ce_0 rfl in_X8 (by decide) (fun _ h9 => h9) fl_X8_45 rfl dX8_mixScreen_23 ?_
    refine j_iload C 2 rfl dX8_mixScreen_26 ?_
    refine j_iload C 3 rfl dX8_mixScreen_28 ?_
    obtain ⟨z2, h3, hf⟩ := bnd_some hf
    refine j_callV (q := 14) (As := [.int v5, .int v6]) (rest := [.long v3]) C (k_X6_signAt h3) cw_X6_signAt ml_X8_233 m_14 ce_14 rfl rfl ⟨Nat.le_of_ble_eq_true rfl, Nat.le_of_ble_eq_true rfl⟩ ⟨Nat.le_of_ble_eq_true rfl, Nat.le_of_ble_eq_true rfl⟩ rfl (Nat.le_of_ble_eq_true rfl) dX8_mixScreen_30 ?_
    refine j_i2l C dX8_mixScreen_33 ?_
    obtain ⟨z5, h6, hf⟩ := bnd_some hf
    refine j_callS (As := [.long v3, .long z2.toInt64]) (rest := []) C (k_X8_mix h6) cw_X8_mix ml_X8_306 rfl ⟨Nat.le_of_ble_eq_true rfl, Nat.le_of_ble_eq_true rfl⟩ ⟨Nat.le_of_ble_eq_true rfl, Nat.le_of_ble_eq_true rfl⟩ rfl (Nat.le_of_ble_eq_true rfl) dX8_mixScreen_34 ?_
    refine j_lstore_n (i := 3) (lv' := [(3, .long z5), (0, .ref (ad 0)), (5, .int v5), (6, .int v6)]) C dX8_mixScreen_37 rfl (by decide) rfl ?_
    refine j_iinc (v := v6 + 1) (lv' := [(6, .int (v6 + 1)), (3, .long z5), (0, .ref (ad 0)), (5, .int v5)]) C 3 rfl rfl (by decide) rfl dX8_mixScreen_38 ?_
    refine j_goto C 14 dX8_mixScreen_41 (by decide) ?_
    refine j_sub [2, 1, 3, 0] rfl ?_
    exact K14 a z5 v5 (v6 + 1) hf
theorem wl_X8_mixScreen_14 {b : MS} {p : Program} {l : Launch} {e : Env} {s : State} {m : MethodId} {args : Array Value} {below : List Frame} {meth : Method} {c : Code} {G : GT} {A : Nat → Prop} {ad : Nat → Nat} (C : CX G A RX8 cX8_mixScreen 7 p s m args c) (hr : meth.sig.returnType = (some .long)) (hk : meth.locks = false) {rr : Int64} (fuel : Nat) (c5 : KS → Int64 → Int32 → Option Int64) (K5 : ∀ (a : KS) (v3 : Int64) (v5 : Int32), c5 a v3 v5 = some rr → J p l e (RM 1) s m args below meth c G A 7 (MQ below (QV (some (.long rr)) (PosW G ad a b A) A) args s 0 0 A) 0 0 ad a b 5 [(0, .ref (ad 0)), (3, .long v3), (5, .int v5)] []) : ∀ (a : KS) (v3 : Int64) (v5 : Int32) (v6 : Int32), l_X8_mixScreen_14 fuel c5 a v3 v5 v6 = some rr → J p l e (RM 1) s m args below meth c G A 7 (MQ below (QV (some (.long rr)) (PosW G ad a b A) A) args s 0 0 A) 0 0 ad a b 14 [(0, .ref (ad 0)), (3, .long v3), (5, .int v5), (6, .int v6)] [] := by
  induction fuel with
  | zero => intro a v3 v5 v6 hf; cases hf
  | succ n ih =>
    intro a v3 v5 v6 hf
    have hf : f_X8_mixScreen_14 c5 (l_X8_mixScreen_14 n c5) a v3 v5 v6 = some rr := hf
    exact w_X8_mixScreen_14 C hr hk c5 (l_X8_mixScreen_14 n c5) K5 ih a v3 v5 v6 hf
set_option maxRecDepth 100000 in
set_option maxHeartbeats 4000000 in
theorem w_X8_mixScreen_5 {b : MS} {p : Program} {l : Launch} {e : Env} {s : State} {m : MethodId} {args : Array Value} {below : List Frame} {meth : Method} {c : Code} {G : GT} {A : Nat → Prop} {ad : Nat → Nat} (C : CX G A RX8 cX8_mixScreen 7 p s m args c) (hr : meth.sig.returnType = (some .long)) (hk : meth.locks = false) {rr : Int64} (c5 : KS → Int64 → Int32 → Option Int64) (K5 : ∀ (a : KS) (v3 : Int64) (v5 : Int32), c5 a v3 v5 = some rr → J p l e (RM 1) s m args below meth c G A 7 (MQ below (QV (some (.long rr)) (PosW G ad a b A) A) args s 0 0 A) 0 0 ad a b 5 [(0, .ref (ad 0)), (3, .long v3), (5, .int v5)] []) (a : KS) (v3 : Int64) (v5 : Int32) (hf : f_X8_mixScreen_5 c5 a v3 v5 = some rr) : J p l e (RM 1) s m args below meth c G A 7 (MQ below (QV (some (.long rr)) (PosW G ad a b A) A) args s 0 0 A) 0 0 ad a b 5 [(0, .ref (ad 0)), (3, .long v3), (5, .int v5)] [] := by
  unfold f_X8_mixScreen_5 at hf
  refine j_iload C 2 rfl dX8_mixScreen_5 ?_
  refine j_iconst (v := 2) C (by decide) dX8_mixScreen_7 ?_
  refine j_icmp_ge C 50 dX8_mixScreen_8 (by decide) hf (fun y1 hf => ?_) (fun y1 hf => ?_)
  · refine j_lload_n C 1 rfl dX8_mixScreen_50 ?_
    obtain rfl := Option.some.inj hf
    exact j_lret C hr hk ⟨Nat.le_of_ble_eq_true rfl, Nat.le_of_ble_eq_true rfl⟩ rfl dX8_mixScreen_51
  · refine j_iconst (v := 0) C (by decide) dX8_mixScreen_11 ?_
    refine j_istore (lv' := [(6, .int 0), (0, .ref (ad 0)), (3, .long v3), (5, .int v5)]) C dX8_mixScreen_12 (by decide) rfl ?_
    refine j_sub [1, 2, 3, 0] rfl ?_
    exact wl_X8_mixScreen_14 C hr hk FU c5 K5 a v3 v5 0 hf
theorem wl_X8_mixScreen_5 {b : MS} {p : Program} {l : Launch} {e : Env} {s : State} {m : MethodId} {args : Array Value} {below : List Frame} {meth : Method} {c : Code} {G : GT} {A : Nat → Prop} {ad : Nat → Nat} (C : CX G A RX8 cX8_mixScreen 7 p s m args c) (hr : meth.sig.returnType = (some .long)) (hk : meth.locks = false) {rr : Int64} (fuel : Nat)   : ∀ (a : KS) (v3 : Int64) (v5 : Int32), l_X8_mixScreen_5 fuel  a v3 v5 = some rr → J p l e (RM 1) s m args below meth c G A 7 (MQ below (QV (some (.long rr)) (PosW G ad a b A) A) args s 0 0 A) 0 0 ad a b 5 [(0, .ref (ad 0)), (3, .long v3), (5, .int v5)] [] := by
  induction fuel with
  | zero => intro a v3 v5 hf; cases hf
  | succ n ih =>
    intro a v3 v5 hf
    have hf : f_X8_mixScreen_5 (l_X8_mixScreen_5 n ) a v3 v5 = some rr := hf
    exact w_X8_mixScreen_5 C hr hk (l_X8_mixScreen_5 n ) ih a v3 v5 hf
set_option maxRecDepth 100000 in
set_option maxHeartbeats 4000000 in
theorem k_X8_mixScreen {l : Launch} {G : GT} {ad : Nat → Nat} {a : KS} {v1 : Int64} {b : MS} {rr : Int64} (hf : f_X8_mixScreen a v1 = some rr) : MT l G yX8_mixScreen cX8_mixScreen 7 (some .long) (RM 1) [.ref (ad 0), .long v1] ad a b (some (.long rr)) a b := by
  refine MT_of (by decide) (Nat.le_of_ble_eq_true rfl) ?_
  intro p e s m args below meth c A C hr hk
  unfold f_X8_mixScreen at hf
  refine j_lload_n C 1 rfl dX8_mixScreen_0 ?_
  refine j_lstore_n (i := 3) (lv' := [(3, .long v1), (0, .ref (ad 0)), (1, .long v1)]) C dX8_mixScreen_1 rfl (by decide) rfl ?_
  refine j_iconst (v := 0) C (by decide) dX8_mixScreen_2 ?_
  refine j_istore (lv' := [(5, .int 0), (3, .long v1), (0, .ref (ad 0)), (1, .long v1)]) C dX8_mixScreen_3 (by decide) rfl ?_
  refine j_sub [2, 1, 0] rfl ?_
  exact wl_X8_mixScreen_5 C hr hk FU a v1 0 hf
set_option maxRecDepth 100000 in
set_option maxHeartbeats 4000000 in
theorem w_X8_floatBits_34 {b : MS} {p : Program} {l : Launch} {e : Env} {s : State} {m : MethodId} {args : Array Value} {below : List Frame} {meth : Method} {c : Code} {G : GT} {A : Nat → Prop} {ad : Nat → Nat} (C : CX G A RX8 cX8_floatBits 3 p s m args c) (hr : meth.sig.returnType = (some .int)) (hk : meth.locks = false) {rr : Int32}   (a : KS) (v1 : UInt32) (v2 : Int32) (hf : f_X8_floatBits_34 a v1 v2 = some rr) : J p l e (RM 0) s m args below meth c G A 3 (MQ below (QV (some (.int rr)) (PosW G ad a b A) A) args s 0 0 A) 0 0 ad a b 34 [(1, .float v1), (2, .int v2)] [] := by
  unfold f_X8_floatBits_34 at hf
  refine j_iload_n C 1 rfl dX8_floatBits_34 ?_
  refine j_bipush (v := 23) C (by decide) dX8_floatBits_35 ?_
  refine j_ishl C dX8_floatBits_37 ?_
  refine j_fload_n C 0 rfl dX8_floatBits_38 ?_
  refine j_fconst1 C dX8_floatBits_39 ?_
  obtain ⟨h1, hf⟩ := gd_some hf
  refine j_fsub C (nn32_of h1) dX8_floatBits_40 ?_
  refine j_ldcfw C wk_X8_374 dX8_floatBits_41 ?_
  obtain ⟨h2, hf⟩ := gd_some hf
  refine j_fmul C (nn32_of h2) dX8_floatBits_44 ?_
  refine j_f2i C dX8_floatBits_45 ?_
  refine j_iadd C dX8_floatBits_46 ?_
  obtain rfl := Option.some.inj hf
  exact j_iret C hr hk ⟨Nat.le_of_ble_eq_true rfl, Nat.le_of_ble_eq_true rfl⟩ rfl dX8_floatBits_47
set_option maxRecDepth 100000 in
set_option maxHeartbeats 4000000 in
theorem w_X8_floatBits_13 {b : MS} {p : Program} {l : Launch} {e : Env} {s : State} {m : MethodId} {args : Array Value} {below : List Frame} {meth : Method} {c : Code} {G : GT} {A : Nat → Prop} {ad : Nat → Nat} (C : CX G A RX8 cX8_floatBits 3 p s m args c) (hr : meth.sig.returnType = (some .int)) (hk : meth.locks = false) {rr : Int32} (c13 : KS → UInt32 → Int32 → Option Int32) (K13 : ∀ (a : KS) (v1 : UInt32) (v2 : Int32), c13 a v1 v2 = some rr → J p l e (RM 0) s m args below meth c G A 3 (MQ below (QV (some (.int rr)) (PosW G ad a b A) A) args s 0 0 A) 0 0 ad a b 13 [(1, .float v1), (2, .int v2)] []) (a : KS) (v1 : UInt32) (v2 : Int32) (hf : f_X8_floatBits_13 c13 a v1 v2 = some rr) : J p l e (RM 0) s m args below meth c G A 3 (MQ below (QV (some (.int rr)) (PosW G ad a b A) A) args s 0 0 A) 0 0 ad a b 13 [(1, .float v1), (2, .int v2)] [] := by
  unfold f_X8_floatBits_13 at hf
  refine j_fload_n C 0 rfl dX8_floatBits_13 ?_
  refine j_fconst1 C dX8_floatBits_14 ?_
  refine j_fcmp C dX8_floatBits_15 ?_
  refine j_if_ge C 34 dX8_floatBits_16 (by decide) hf (fun y1 hf => ?_) (fun y1 hf => ?_)
  · refine j_sub [0, 1] rfl ?_
    exact w_X8_floatBits_34 C hr hk a v1 v2 hf
  · refine j_iload_n C 1 rfl dX8_floatBits_19 ?_
    refine j_iconst (v := 1) C (by decide) dX8_floatBits_20 ?_
    refine j_icmp_le C 34 dX8_floatBits_21 (by decide) hf (fun y2 hf => ?_) (fun y2 hf => ?_)
    · refine j_sub [0, 1] rfl ?_
      exact w_X8_floatBits_34 C hr hk a v1 v2 hf
    · refine j_fload_n C 0 rfl dX8_floatBits_24 ?_
      refine j_fconst2 C dX8_floatBits_25 ?_
      obtain ⟨h3, hf⟩ := gd_some hf
      refine j_fmul C (nn32_of h3) dX8_floatBits_26 ?_
      refine j_letF hf (fun x4 hf => ?_)
      refine j_fstore_n (i := 1) (lv' := [(1, .float x4), (2, .int v2)]) C dX8_floatBits_27 rfl (by decide) rfl ?_
      refine j_iinc (v := v2 + (-1)) (lv' := [(2, .int (v2 + (-1))), (1, .float x4)]) C 1 rfl (ii_m1 _) (by decide) rfl dX8_floatBits_28 ?_
      refine j_goto C 13 dX8_floatBits_31 (by decide) ?_
      refine j_sub [1, 0] rfl ?_
      exact K13 a x4 (v2 + (-1)) hf
theorem wl_X8_floatBits_13 {b : MS} {p : Program} {l : Launch} {e : Env} {s : State} {m : MethodId} {args : Array Value} {below : List Frame} {meth : Method} {c : Code} {G : GT} {A : Nat → Prop} {ad : Nat → Nat} (C : CX G A RX8 cX8_floatBits 3 p s m args c) (hr : meth.sig.returnType = (some .int)) (hk : meth.locks = false) {rr : Int32} (fuel : Nat)   : ∀ (a : KS) (v1 : UInt32) (v2 : Int32), l_X8_floatBits_13 fuel  a v1 v2 = some rr → J p l e (RM 0) s m args below meth c G A 3 (MQ below (QV (some (.int rr)) (PosW G ad a b A) A) args s 0 0 A) 0 0 ad a b 13 [(1, .float v1), (2, .int v2)] [] := by
  induction fuel with
  | zero => intro a v1 v2 hf; cases hf
  | succ n ih =>
    intro a v1 v2 hf
    have hf : f_X8_floatBits_13 (l_X8_floatBits_13 n ) a v1 v2 = some rr := hf
    exact w_X8_floatBits_13 C hr hk (l_X8_floatBits_13 n ) ih a v1 v2 hf
set_option maxRecDepth 100000 in
set_option maxHeartbeats 4000000 in
theorem k_X8_floatBits {l : Launch} {G : GT} {ad : Nat → Nat} {a : KS} {v0 : UInt32} {b : MS} {rr : Int32} (hf : f_X8_floatBits a v0 = some rr) : MT l G yX8_floatBits cX8_floatBits 3 (some .int) (RM 0) [.float v0] ad a b (some (.int rr)) a b := by
  refine MT_of (by decide) (Nat.le_of_ble_eq_true rfl) ?_
  intro p e s m args below meth c A C hr hk
  unfold f_X8_floatBits at hf
  refine j_fload_n C 0 rfl dX8_floatBits_0 ?_
  refine j_fconst0 C dX8_floatBits_1 ?_
  refine j_fcmp C dX8_floatBits_2 ?_
  refine j_if_gt C 8 dX8_floatBits_3 (by decide) hf (fun y1 hf => ?_) (fun y1 hf => ?_)
  · refine j_fload_n C 0 rfl dX8_floatBits_8 ?_
    refine j_fstore_n (i := 1) (lv' := [(1, .float v0), (0, .float v0)]) C dX8_floatBits_9 rfl (by decide) rfl ?_
    refine j_bipush (v := 127) C (by decide) dX8_floatBits_10 ?_
    refine j_istore_n (i := 2) (lv' := [(2, .int 127), (1, .float v0), (0, .float v0)]) C dX8_floatBits_12 rfl (by decide) rfl ?_
    refine j_sub [1, 0] rfl ?_
    exact wl_X8_floatBits_13 C hr hk FU a v0 127 hf
  · refine j_iconst (v := 0) C (by decide) dX8_floatBits_6 ?_
    obtain rfl := Option.some.inj hf
    exact j_iret C hr hk ⟨Nat.le_of_ble_eq_true rfl, Nat.le_of_ble_eq_true rfl⟩ rfl dX8_floatBits_7
set_option maxRecDepth 100000 in
set_option maxHeartbeats 4000000 in
theorem w_X8_digest_16 {b : MS} {p : Program} {l : Launch} {e : Env} {s : State} {m : MethodId} {args : Array Value} {below : List Frame} {meth : Method} {c : Code} {G : GT} {A : Nat → Prop} {ad : Nat → Nat} (C : CX G A RX8 cX8_digest 4 p s m args c) (hr : meth.sig.returnType = (some .long)) (hk : meth.locks = false) {rr : Int64 × KS} (c16 : KS → Int64 → Int32 → Option (Int64 × KS)) (K16 : ∀ (a : KS) (v1 : Int64) (v3 : Int32), c16 a v1 v3 = some rr → J p l e (RM 10) s m args below meth c G A 4 (MQ below (QV (some (.long rr.1)) (PosW G ad rr.2 b A) A) args s 0 0 A) 0 0 ad a b 16 [(0, .ref (ad 0)), (1, .long v1), (3, .int v3)] []) (a : KS) (v1 : Int64) (v3 : Int32) (hf : f_X8_digest_16 c16 a v1 v3 = some rr) : J p l e (RM 10) s m args below meth c G A 4 (MQ below (QV (some (.long rr.1)) (PosW G ad rr.2 b A) A) args s 0 0 A) 0 0 ad a b 16 [(0, .ref (ad 0)), (1, .long v1), (3, .int v3)] [] := by
  unfold f_X8_digest_16 at hf
  refine j_iload_n C 2 rfl dX8_digest_16 ?_
  refine j_bipush (v := 8) C (by decide) dX8_digest_17 ?_
  refine j_icmp_ge C 42 dX8_digest_19 (by decide) hf (fun y1 hf => ?_) (fun y1 hf => ?_)
  · refine j_aload_n C 0 rfl dX8_digest_42 ?_
    refine j_get (q := 0) (kf := 5) (T := TX8) (N := 7) (RC := RX8) C m_0 ce_0 rfl in_X8 (by decide) (fun _ h9 => h9) fl_X8_45 rfl dX8_digest_43 ?_
    refine j_aload_n C 0 rfl dX8_digest_46 ?_
    refine j_get (q := 0) (kf := 4) (T := TX8) (N := 7) (RC := RX8) C m_0 ce_0 rfl in_X8 (by decide) (fun _ h9 => h9) fl_X8_38 rfl dX8_digest_47 ?_
    obtain ⟨z2, h3, hf⟩ := bnd_some hf
    refine j_callV (q := 14) (As := [.ref (ad 10)]) (rest := []) C (k_X6_draw h3) cw_X6_draw ml_X8_229 m_14 ce_14 rfl rfl ⟨Nat.le_of_ble_eq_true rfl, Nat.le_of_ble_eq_true rfl⟩ ⟨Nat.le_of_ble_eq_true rfl, Nat.le_of_ble_eq_true rfl⟩ rfl (Nat.le_of_ble_eq_true rfl) dX8_digest_50 ?_
    refine j_aload_n C 0 rfl dX8_digest_53 ?_
    refine j_lload_n C 1 rfl dX8_digest_54 ?_
    obtain ⟨z7, h8, hf⟩ := bnd_some hf
    refine j_callV (q := 0) (As := [.long v1]) (rest := []) C (k_X8_mixScreen h8) cw_X8_mixScreen ml_X8_310 m_0 ce_0 rfl rfl ⟨Nat.le_of_ble_eq_true rfl, Nat.le_of_ble_eq_true rfl⟩ ⟨Nat.le_of_ble_eq_true rfl, Nat.le_of_ble_eq_true rfl⟩ rfl (Nat.le_of_ble_eq_true rfl) dX8_digest_55 ?_
    refine j_lstore_n (i := 1) (lv' := [(1, .long z7), (0, .ref (ad 0)), (3, .int v3)]) C dX8_digest_58 rfl (by decide) rfl ?_
    refine j_lload_n C 0 rfl dX8_digest_59 ?_
    refine j_aload_n C 1 rfl dX8_digest_60 ?_
    obtain ⟨z10, h11, hf⟩ := bnd_some hf
    refine j_callV (q := 0) (As := []) (rest := [.long z7]) C (k_X8_fraction h11) cw_X8_fraction ml_X8_313 m_0 ce_0 rfl rfl ⟨Nat.le_of_ble_eq_true rfl, Nat.le_of_ble_eq_true rfl⟩ ⟨Nat.le_of_ble_eq_true rfl, Nat.le_of_ble_eq_true rfl⟩ rfl (Nat.le_of_ble_eq_true rfl) dX8_digest_61 ?_
    obtain ⟨h13, hf⟩ := gd_some hf
    refine j_d2f C (nn32_of h13) dX8_digest_64 ?_
    obtain ⟨z14, h15, hf⟩ := bnd_some hf
    refine j_callS (As := [.float (FP.d2f z10)]) (rest := [.long z7]) C (k_X8_floatBits h15) cw_X8_floatBits ml_X8_317 rfl ⟨Nat.le_of_ble_eq_true rfl, Nat.le_of_ble_eq_true rfl⟩ ⟨Nat.le_of_ble_eq_true rfl, Nat.le_of_ble_eq_true rfl⟩ rfl (Nat.le_of_ble_eq_true rfl) dX8_digest_65 ?_
    refine j_i2l C dX8_digest_68 ?_
    obtain ⟨z17, h18, hf⟩ := bnd_some hf
    refine j_callS (As := [.long z7, .long z14.toInt64]) (rest := []) C (k_X8_mix h18) cw_X8_mix ml_X8_306 rfl ⟨Nat.le_of_ble_eq_true rfl, Nat.le_of_ble_eq_true rfl⟩ ⟨Nat.le_of_ble_eq_true rfl, Nat.le_of_ble_eq_true rfl⟩ rfl (Nat.le_of_ble_eq_true rfl) dX8_digest_69 ?_
    obtain rfl := Option.some.inj hf
    exact j_lret C hr hk ⟨Nat.le_of_ble_eq_true rfl, Nat.le_of_ble_eq_true rfl⟩ rfl dX8_digest_72
  · refine j_lload_n C 1 rfl dX8_digest_22 ?_
    refine j_aload_n C 0 rfl dX8_digest_23 ?_
    refine j_get (q := 0) (kf := 4) (T := TX8) (N := 7) (RC := RX8) C m_0 ce_0 rfl in_X8 (by decide) (fun _ h9 => h9) fl_X8_38 rfl dX8_digest_24 ?_
    refine j_iload_n C 2 rfl dX8_digest_27 ?_
    obtain ⟨z20, h21, hf⟩ := bnd_some hf
    refine j_callV (q := 10) (As := [.int v3]) (rest := [.long v1]) C (k_X2_counted h21) cw_X2_counted ml_X8_239 m_10 ce_10 rfl rfl ⟨Nat.le_of_ble_eq_true rfl, Nat.le_of_ble_eq_true rfl⟩ ⟨Nat.le_of_ble_eq_true rfl, Nat.le_of_ble_eq_true rfl⟩ rfl (Nat.le_of_ble_eq_true rfl) dX8_digest_28 ?_
    refine j_i2l C dX8_digest_31 ?_
    obtain ⟨z23, h24, hf⟩ := bnd_some hf
    refine j_callS (As := [.long v1, .long z20.toInt64]) (rest := []) C (k_X8_mix h24) cw_X8_mix ml_X8_306 rfl ⟨Nat.le_of_ble_eq_true rfl, Nat.le_of_ble_eq_true rfl⟩ ⟨Nat.le_of_ble_eq_true rfl, Nat.le_of_ble_eq_true rfl⟩ rfl (Nat.le_of_ble_eq_true rfl) dX8_digest_32 ?_
    refine j_lstore_n (i := 1) (lv' := [(1, .long z23), (0, .ref (ad 0)), (3, .int v3)]) C dX8_digest_35 rfl (by decide) rfl ?_
    refine j_iinc (v := v3 + 1) (lv' := [(3, .int (v3 + 1)), (1, .long z23), (0, .ref (ad 0))]) C 2 rfl rfl (by decide) rfl dX8_digest_36 ?_
    refine j_goto C 16 dX8_digest_39 (by decide) ?_
    refine j_sub [2, 1, 0] rfl ?_
    exact K16 a z23 (v3 + 1) hf
theorem wl_X8_digest_16 {b : MS} {p : Program} {l : Launch} {e : Env} {s : State} {m : MethodId} {args : Array Value} {below : List Frame} {meth : Method} {c : Code} {G : GT} {A : Nat → Prop} {ad : Nat → Nat} (C : CX G A RX8 cX8_digest 4 p s m args c) (hr : meth.sig.returnType = (some .long)) (hk : meth.locks = false) {rr : Int64 × KS} (fuel : Nat)   : ∀ (a : KS) (v1 : Int64) (v3 : Int32), l_X8_digest_16 fuel  a v1 v3 = some rr → J p l e (RM 10) s m args below meth c G A 4 (MQ below (QV (some (.long rr.1)) (PosW G ad rr.2 b A) A) args s 0 0 A) 0 0 ad a b 16 [(0, .ref (ad 0)), (1, .long v1), (3, .int v3)] [] := by
  induction fuel with
  | zero => intro a v1 v3 hf; cases hf
  | succ n ih =>
    intro a v1 v3 hf
    have hf : f_X8_digest_16 (l_X8_digest_16 n ) a v1 v3 = some rr := hf
    exact w_X8_digest_16 C hr hk (l_X8_digest_16 n ) ih a v1 v3 hf
set_option maxRecDepth 100000 in
set_option maxHeartbeats 4000000 in
theorem k_X8_digest {l : Launch} {G : GT} {ad : Nat → Nat} {a : KS} {b : MS} {rr : Int64 × KS} (hf : f_X8_digest a = some rr) : MT l G yX8_digest cX8_digest 4 (some .long) (RM 10) [.ref (ad 0)] ad a b (some (.long rr.1)) rr.2 b := by
  refine MT_of (by decide) (Nat.le_of_ble_eq_true rfl) ?_
  intro p e s m args below meth c A C hr hk
  unfold f_X8_digest at hf
  refine j_aload_n C 0 rfl dX8_digest_0 ?_
  refine j_ldc2 C wk_X8_297 dX8_digest_1 ?_
  obtain ⟨z1, h2, hf⟩ := bnd_some hf
  refine j_callV (q := 0) (As := [.long 4364]) (rest := []) C (k_X8_mixPosition h2) cw_X8_mixPosition ml_X8_299 m_0 ce_0 rfl rfl ⟨Nat.le_of_ble_eq_true rfl, Nat.le_of_ble_eq_true rfl⟩ ⟨Nat.le_of_ble_eq_true rfl, Nat.le_of_ble_eq_true rfl⟩ rfl (Nat.le_of_ble_eq_true rfl) dX8_digest_4 ?_
  refine j_lstore_n (i := 1) (lv' := [(1, .long z1), (0, .ref (ad 0))]) C dX8_digest_7 rfl (by decide) rfl ?_
  refine j_aload_n C 1 rfl dX8_digest_8 ?_
  refine j_lload_n C 0 rfl dX8_digest_9 ?_
  obtain ⟨z4, h5, hf⟩ := bnd_some hf
  refine j_callV (q := 0) (As := [.long z1]) (rest := []) C (k_X8_mixItems h5) cw_X8_mixItems ml_X8_303 m_0 ce_0 rfl rfl ⟨Nat.le_of_ble_eq_true rfl, Nat.le_of_ble_eq_true rfl⟩ ⟨Nat.le_of_ble_eq_true rfl, Nat.le_of_ble_eq_true rfl⟩ rfl (Nat.le_of_ble_eq_true rfl) dX8_digest_10 ?_
  refine j_lstore_n (i := 1) (lv' := [(1, .long z4), (0, .ref (ad 0))]) C dX8_digest_13 rfl (by decide) rfl ?_
  refine j_iconst (v := 0) C (by decide) dX8_digest_14 ?_
  refine j_istore_n (i := 3) (lv' := [(3, .int 0), (1, .long z4), (0, .ref (ad 0))]) C dX8_digest_15 rfl (by decide) rfl ?_
  refine j_sub [2, 1, 0] rfl ?_
  exact wl_X8_digest_16 C hr hk FU a z4 0 hf
