set_option maxRecDepth 100000 in
set_option maxHeartbeats 4000000 in
theorem k_X8_added {l : Launch} {G : GT} {ad : Nat → Nat} {a : KS} {v1 : Option Nat} {v2 : Int32} {v3 : Int32} {v4 : Int32} {v5 : Int32} {b : MS} {rr : Nat × Int32 × KS} (hf : f_X8_added a v1 v2 v3 v4 v5 = some rr) (h0 : rr.1 = 0) : MN l G yX8_added cX8_added 7 (some .int) (RX 5 2 21) [.ref (ad 0), itv ad v1, .int v2, .int v3, .int v4, .int v5] ad a b (some (.int rr.2.1)) rr.2.2 b := by
  refine MN_of2 (lv := [(0, .ref (ad 0)), (1, itv ad v1), (2, .int v2), (3, .int v3), (4, .int v4), (5, .int v5)]) (by decide) (by first | exact Nat.le_of_ble_eq_true rfl | (simp only [lg_sl, List.flatMap_cons, List.flatMap_nil, itv_cat]; exact Nat.le_of_ble_eq_true rfl)) (by first | rfl | (simp only [lv_args, itv_cat] <;> rfl)) ?_
  intro p e s m args below meth c A C hr hk
  have hag0 : AGK ad ad (Kn a) (Kn a) := ⟨fun _ _ => rfl, Nat.le_refl _⟩
  unfold f_X8_added at hf
  refine j_aload_n C 0 rfl dX8_added_0 ?_
  obtain ⟨z1, h2, hf⟩ := bnd_some hf
  have y3 : z1 = 0 := by refine Classical.byContradiction fun q => ?_; have hf := (if_neg q).symm.trans hf; obtain rfl := Option.some.inj hf; exact q h0
  have hf := (if_pos y3).symm.trans hf
  refine j_callV (q := 0) (As := []) (rest := []) C (k_X8_requireHome h2 y3) cw_X8_requireHome ml_X8_97 m_0 ce_0 rfl rfl ⟨Nat.le_of_ble_eq_true rfl, Nat.le_of_ble_eq_true rfl⟩ ⟨Nat.le_of_ble_eq_true rfl, Nat.le_of_ble_eq_true rfl⟩ rfl (Nat.le_of_ble_eq_true rfl) dX8_added_1 ?_
  refine j_aload_n C 0 rfl dX8_added_4 ?_
  refine j_get (q := 0) (kf := 0) (T := TX8) (N := 7) (RC := RX8) C m_0 ce_0 rfl in_X8 (by decide) (fun _ h9 => h9) fl_X8_10 rfl dX8_added_5 ?_
  refine j_get (q := 1) (kf := 2) (T := TX7) (N := 3) (RC := RX7) C m_1 ce_1 rfl in_X7 (by decide) (fun _ h9 => h9) fl_X8_107 rfl dX8_added_8 ?_
  refine j_bipush (v := 24) C (by decide) dX8_added_11 ?_
  refine j_icmp_lt C 27 dX8_added_13 (by decide) hf (fun y4 hf => ?_) (fun y4 hf => ?_)
  · refine j_aload_nq C 1 rfl dX8_added_27 ?_
    obtain ⟨i5, e7, h6, hg⟩ := odr_some hf
    clear hf
    subst e7
    have hf := hg
    clear hg
    refine j_get (q := (ip i5)) (kf := 9) (T := TX4) (N := 13) (RC := RX4) C (mem_ip h6) ce_item rfl in_X4 (by decide) (fun _ h9 => h9) fl_X8_333 rfl dX8_added_28 ?_
    refine j_bipush (v := 8) C (by decide) dX8_added_31 ?_
    refine j_icmp_lt C 47 dX8_added_33 (by decide) hf (fun y8 hf => ?_) (fun y8 hf => ?_)
    · obtain ⟨h9, hf⟩ := gdp_some hf
      refine j_newitem C h9 h6 ⟨Nat.le_of_ble_eq_true rfl, Nat.le_of_ble_eq_true rfl⟩ ⟨Nat.le_of_ble_eq_true rfl, Nat.le_of_ble_eq_true rfl⟩ (fun ad10 hg11 => ?_)
      rw [← hg11 0 m_0, ← hg11 (ip i5) (mem_ip h6)]
      refine j_widen 2 21 (Nat.le_of_ble_eq_true rfl) (Nat.le_of_ble_eq_true rfl) ?_
      refine j_astore (lv' := [(6, .ref (ad10 (ip (Kn a)))), (0, .ref (ad10 0)), (1, .ref (ad10 (ip i5))), (2, .int v2), (3, .int v3), (4, .int v4), (5, .int v5)]) C dX8_added_68 (by decide) rfl ?_
      refine j_aload_n C 2 rfl dX8_added_70 ?_
      refine j_aload C 0 rfl dX8_added_71 ?_
      obtain ⟨h12, hf⟩ := gd_some hf
      have h12 := of_decide_eq_true h12
      obtain ⟨z13, h14, hf⟩ := bnd_some hf
      refine j_callV (q := (ip i5)) (As := [itv ad10 (some (Kn a))]) (rest := []) C (k_X4_keepChild h14) cw_X4_keepChild ml_X8_341 (mem_ip h12) ce_item rfl rfl ⟨Nat.le_of_ble_eq_true rfl, Nat.le_of_ble_eq_true rfl⟩ ⟨Nat.le_of_ble_eq_true rfl, Nat.le_of_ble_eq_true rfl⟩ rfl (Nat.le_of_ble_eq_true rfl) dX8_added_73 ?_
      refine j_aload_n C 1 rfl dX8_added_76 ?_
      refine j_get (q := 0) (kf := 0) (T := TX8) (N := 7) (RC := RX8) C m_0 ce_0 rfl in_X8 (by decide) (fun _ h9 => h9) fl_X8_10 rfl dX8_added_77 ?_
      refine j_aload C 0 rfl dX8_added_80 ?_
      obtain ⟨z19, h20, hf⟩ := bnd_some hf
      refine j_callV (q := 1) (As := [itv ad10 (some (Kn a))]) (rest := []) C (k_X7_keep h20) cw_X7_keep ml_X8_345 m_1 ce_1 rfl rfl ⟨Nat.le_of_ble_eq_true rfl, Nat.le_of_ble_eq_true rfl⟩ ⟨Nat.le_of_ble_eq_true rfl, Nat.le_of_ble_eq_true rfl⟩ rfl (Nat.le_of_ble_eq_true rfl) dX8_added_82 ?_
      refine j_aload C 0 rfl dX8_added_85 ?_
      obtain ⟨h24, hf⟩ := gd_some hf
      have h24 := of_decide_eq_true h24
      refine j_get (q := (ip (Kn a))) (kf := 0) (T := TX4) (N := 13) (RC := RX4) C (mem_ip h24) ce_item rfl in_X4 (by decide) (fun _ h9 => h9) fl_X8_180 rfl dX8_added_87 ?_
      obtain rfl := Option.some.inj hf
      exact j_niret C hr hk hg11 ⟨Nat.le_of_ble_eq_true rfl, Nat.le_of_ble_eq_true rfl⟩ rfl dX8_added_90
    · obtain rfl := Option.some.inj hf
      exact absurd (show (3 : Nat) = 0 from h0) (by decide)
  · obtain rfl := Option.some.inj hf
    exact absurd (show (3 : Nat) = 0 from h0) (by decide)
set_option maxRecDepth 100000 in
set_option maxHeartbeats 4000000 in
theorem k_X8_addMenu {l : Launch} {G : GT} {ad : Nat → Nat} {a : KS} {v1 : Int32} {b : MS} {rr : Nat × Int32 × KS} (hf : f_X8_addMenu a v1 = some rr) (h0 : rr.1 = 0) : MN l G yX8_addMenu cX8_addMenu 3 (some .int) (RX 6 2 21) [.ref (ad 0), .int v1] ad a b (some (.int rr.2.1)) rr.2.2 b := by
  refine MN_of2 (lv := [(0, .ref (ad 0)), (1, .int v1)]) (by decide) (by first | exact Nat.le_of_ble_eq_true rfl | (simp only [lg_sl, List.flatMap_cons, List.flatMap_nil, itv_cat]; exact Nat.le_of_ble_eq_true rfl)) (by first | rfl | (simp only [lv_args, itv_cat] <;> rfl)) ?_
  intro p e s m args below meth c A C hr hk
  have hag0 : AGK ad ad (Kn a) (Kn a) := ⟨fun _ _ => rfl, Nat.le_refl _⟩
  unfold f_X8_addMenu at hf
  refine j_aload_n C 0 rfl dX8_addMenu_0 ?_
  refine j_iload_n C 1 rfl dX8_addMenu_1 ?_
  obtain ⟨z1, h2, hf⟩ := bnd_some hf
  have y3 : z1.1 = 0 := by refine Classical.byContradiction fun q => ?_; have hf := (if_neg q).symm.trans hf; obtain rfl := Option.some.inj hf; exact q h0
  have hf := (if_pos y3).symm.trans hf
  refine j_callV (q := 0) (As := [.int v1]) (rest := []) C (k_X8_menuNumbered h2 y3) cw_X8_menuNumbered ml_X8_56 m_0 ce_0 rfl rfl ⟨Nat.le_of_ble_eq_true rfl, Nat.le_of_ble_eq_true rfl⟩ ⟨Nat.le_of_ble_eq_true rfl, Nat.le_of_ble_eq_true rfl⟩ rfl (Nat.le_of_ble_eq_true rfl) dX8_addMenu_2 ?_
  refine j_letO hf (fun o4 hf => ?_)
  refine j_astore_nq (i := 2) (lv' := [(2, itv ad o4), (0, .ref (ad 0)), (1, .int v1)]) (o := o4) C dX8_addMenu_5 rfl (by decide) rfl ?_
  refine j_aload_nq C 0 rfl dX8_addMenu_6 ?_
  obtain ⟨i5, e7, h6, hg⟩ := odr_some hf
  clear hf
  subst e7
  have hf := hg
  clear hg
  refine j_get (q := (ip i5)) (kf := 3) (T := TX4) (N := 13) (RC := RX4) C (mem_ip h6) ce_item rfl in_X4 (by decide) (fun _ h9 => h9) fl_X8_60 rfl dX8_addMenu_7 ?_
  refine j_iconst (v := 3) C (by decide) dX8_addMenu_10 ?_
  refine j_icmp_lt C 24 dX8_addMenu_11 (by decide) hf (fun y8 hf => ?_) (fun y8 hf => ?_)
  · refine j_aload_n C 1 rfl dX8_addMenu_24 ?_
    refine j_aload_n C 0 rfl dX8_addMenu_25 ?_
    refine j_iconst (v := 0) C (by decide) dX8_addMenu_26 ?_
    refine j_iconst (v := 0) C (by decide) dX8_addMenu_27 ?_
    refine j_iconst (v := 0) C (by decide) dX8_addMenu_28 ?_
    refine j_iconst (v := 0) C (by decide) dX8_addMenu_29 ?_
    obtain ⟨z9, h10, hf⟩ := bnd_some hf
    have y11 : z9.1 = 0 := by refine Classical.byContradiction fun q => ?_; have hf := (if_neg q).symm.trans hf; obtain rfl := Option.some.inj hf; exact q h0
    have hf := (if_pos y11).symm.trans hf
    refine j_ncallV (q := 0) (As := [itv ad (some i5), .int 0, .int 0, .int 0, .int 0]) (rest := []) C (k_X8_added h10 y11) cw_X8_added ml_X8_73 m_0 ce_0 rfl rfl ⟨Nat.le_of_ble_eq_true rfl, Nat.le_of_ble_eq_true rfl⟩ ⟨Nat.le_of_ble_eq_true rfl, Nat.le_of_ble_eq_true rfl⟩ rfl (Nat.le_of_ble_eq_true rfl) dX8_addMenu_30 (fun ad12 hg13 => ?_)
    refine j_widen 2 21 (Nat.le_of_ble_eq_true rfl) (Nat.le_of_ble_eq_true rfl) ?_
    obtain rfl := Option.some.inj hf
    exact j_niret C hr hk hg13 ⟨Nat.le_of_ble_eq_true rfl, Nat.le_of_ble_eq_true rfl⟩ rfl dX8_addMenu_33
  · obtain rfl := Option.some.inj hf
    exact absurd (show (3 : Nat) = 0 from h0) (by decide)
set_option maxRecDepth 100000 in
set_option maxHeartbeats 4000000 in
theorem w_X8_addNumber_26 {b : MS} {p : Program} {l : Launch} {e : Env} {s : State} {m : MethodId} {args : Array Value} {below : List Frame} {meth : Method} {c : Code} {G : GT} {A : Nat → Prop} {ad : Nat → Nat} (C : CX G A RX8 cX8_addNumber 6 p s m args c) (hr : meth.sig.returnType = (some .int)) (hk : meth.locks = false) {ad0 : Nat → Nat} {n0 : Nat} {rr : Nat × Int32 × KS} (h0 : rr.1 = 0)   (a : KS) (hag0 : AGK ad0 ad n0 (Kn a)) (hf : f_X8_addNumber_26 a = some rr) : J p l e (RX 6 2 21) s m args below meth c G A 6 (MQ below (QV (some (.int rr.2.1)) (PosA G ad0 n0 rr.2.2 b A) A) args s 2 21 A) 0 0 ad a b 26 [] [] := by
  unfold f_X8_addNumber_26 at hf
  obtain rfl := Option.some.inj hf
  exact absurd (show (2 : Nat) = 0 from h0) (by decide)
set_option maxRecDepth 100000 in
set_option maxHeartbeats 4000000 in
theorem w_X8_addNumber_49 {b : MS} {p : Program} {l : Launch} {e : Env} {s : State} {m : MethodId} {args : Array Value} {below : List Frame} {meth : Method} {c : Code} {G : GT} {A : Nat → Prop} {ad : Nat → Nat} (C : CX G A RX8 cX8_addNumber 6 p s m args c) (hr : meth.sig.returnType = (some .int)) (hk : meth.locks = false) {ad0 : Nat → Nat} {n0 : Nat} {rr : Nat × Int32 × KS} (h0 : rr.1 = 0)   (a : KS) (hag0 : AGK ad0 ad n0 (Kn a)) (hf : f_X8_addNumber_49 a = some rr) : J p l e (RX 6 2 21) s m args below meth c G A 6 (MQ below (QV (some (.int rr.2.1)) (PosA G ad0 n0 rr.2.2 b A) A) args s 2 21 A) 0 0 ad a b 49 [] [] := by
  unfold f_X8_addNumber_49 at hf
  obtain rfl := Option.some.inj hf
  exact absurd (show (2 : Nat) = 0 from h0) (by decide)
set_option maxRecDepth 100000 in
set_option maxHeartbeats 4000000 in
theorem k_X8_addNumber {l : Launch} {G : GT} {ad : Nat → Nat} {a : KS} {v1 : Int32} {v2 : Int32} {v3 : Int32} {v4 : Int32} {b : MS} {rr : Nat × Int32 × KS} (hf : f_X8_addNumber a v1 v2 v3 v4 = some rr) (h0 : rr.1 = 0) : MN l G yX8_addNumber cX8_addNumber 6 (some .int) (RX 6 2 21) [.ref (ad 0), .int v1, .int v2, .int v3, .int v4] ad a b (some (.int rr.2.1)) rr.2.2 b := by
  refine MN_of2 (lv := [(0, .ref (ad 0)), (1, .int v1), (2, .int v2), (3, .int v3), (4, .int v4)]) (by decide) (by first | exact Nat.le_of_ble_eq_true rfl | (simp only [lg_sl, List.flatMap_cons, List.flatMap_nil, itv_cat]; exact Nat.le_of_ble_eq_true rfl)) (by first | rfl | (simp only [lv_args, itv_cat] <;> rfl)) ?_
  intro p e s m args below meth c A C hr hk
  have hag0 : AGK ad ad (Kn a) (Kn a) := ⟨fun _ _ => rfl, Nat.le_refl _⟩
  unfold f_X8_addNumber at hf
  refine j_aload_n C 0 rfl dX8_addNumber_0 ?_
  refine j_iload_n C 1 rfl dX8_addNumber_1 ?_
  obtain ⟨z1, h2, hf⟩ := bnd_some hf
  have y3 : z1.1 = 0 := by refine Classical.byContradiction fun q => ?_; have hf := (if_neg q).symm.trans hf; obtain rfl := Option.some.inj hf; exact q h0
  have hf := (if_pos y3).symm.trans hf
  refine j_callV (q := 0) (As := [.int v1]) (rest := []) C (k_X8_menuNumbered h2 y3) cw_X8_menuNumbered ml_X8_56 m_0 ce_0 rfl rfl ⟨Nat.le_of_ble_eq_true rfl, Nat.le_of_ble_eq_true rfl⟩ ⟨Nat.le_of_ble_eq_true rfl, Nat.le_of_ble_eq_true rfl⟩ rfl (Nat.le_of_ble_eq_true rfl) dX8_addNumber_2 ?_
  refine j_letO hf (fun o4 hf => ?_)
  refine j_astoreq (lv' := [(5, itv ad o4), (0, .ref (ad 0)), (1, .int v1), (2, .int v2), (3, .int v3), (4, .int v4)]) (o := o4) C dX8_addNumber_5 (by decide) rfl ?_
  refine j_iload_n C 3 rfl dX8_addNumber_7 ?_
  refine j_sipush (v := -999) C (by decide) dX8_addNumber_8 ?_
  refine j_icmp_lt C 26 dX8_addNumber_11 (by decide) hf (fun y5 hf => ?_) (fun y5 hf => ?_)
  · refine j_sub [] rfl ?_
    exact w_X8_addNumber_26 C hr hk h0 a ⟨hag0.1, hag0.2⟩ hf
  · refine j_iload_n C 4 rfl dX8_addNumber_14 ?_
    refine j_sipush (v := 999) C (by decide) dX8_addNumber_15 ?_
    refine j_icmp_gt C 26 dX8_addNumber_18 (by decide) hf (fun y6 hf => ?_) (fun y6 hf => ?_)
    · refine j_sub [] rfl ?_
      exact w_X8_addNumber_26 C hr hk h0 a ⟨hag0.1, hag0.2⟩ hf
    · refine j_iload_n C 4 rfl dX8_addNumber_21 ?_
      refine j_iload_n C 3 rfl dX8_addNumber_22 ?_
      refine j_icmp_gt C 36 dX8_addNumber_23 (by decide) hf (fun y7 hf => ?_) (fun y7 hf => ?_)
      · refine j_iload C 5 rfl dX8_addNumber_36 ?_
        refine j_iconst (v := 1) C (by decide) dX8_addNumber_38 ?_
        refine j_icmp_lt C 49 dX8_addNumber_39 (by decide) hf (fun y8 hf => ?_) (fun y8 hf => ?_)
        · refine j_sub [] rfl ?_
          exact w_X8_addNumber_49 C hr hk h0 a ⟨hag0.1, hag0.2⟩ hf
        · refine j_iload C 5 rfl dX8_addNumber_42 ?_
          refine j_bipush (v := 100) C (by decide) dX8_addNumber_44 ?_
          refine j_icmp_le C 59 dX8_addNumber_46 (by decide) hf (fun y9 hf => ?_) (fun y9 hf => ?_)
          · refine j_aload_n C 1 rfl dX8_addNumber_59 ?_
            refine j_aloadq C 0 rfl dX8_addNumber_60 ?_
            refine j_iconst (v := 1) C (by decide) dX8_addNumber_62 ?_
            refine j_iload_n C 3 rfl dX8_addNumber_63 ?_
            refine j_iload_n C 4 rfl dX8_addNumber_64 ?_
            refine j_iload C 5 rfl dX8_addNumber_65 ?_
            obtain ⟨z10, h11, hf⟩ := bnd_some hf
            have y12 : z10.1 = 0 := by refine Classical.byContradiction fun q => ?_; have hf := (if_neg q).symm.trans hf; obtain rfl := Option.some.inj hf; exact q h0
            have hf := (if_pos y12).symm.trans hf
            refine j_ncallV (q := 0) (As := [itv ad o4, .int 1, .int v2, .int v3, .int v4]) (rest := []) C (k_X8_added h11 y12) cw_X8_added ml_X8_73 m_0 ce_0 rfl rfl ⟨Nat.le_of_ble_eq_true rfl, Nat.le_of_ble_eq_true rfl⟩ ⟨Nat.le_of_ble_eq_true rfl, Nat.le_of_ble_eq_true rfl⟩ rfl (Nat.le_of_ble_eq_true rfl) dX8_addNumber_67 (fun ad13 hg14 => ?_)
            refine j_widen 2 21 (Nat.le_of_ble_eq_true rfl) (Nat.le_of_ble_eq_true rfl) ?_
            obtain rfl := Option.some.inj hf
            exact j_niret C hr hk hg14 ⟨Nat.le_of_ble_eq_true rfl, Nat.le_of_ble_eq_true rfl⟩ rfl dX8_addNumber_70
          · refine j_sub [] rfl ?_
            exact w_X8_addNumber_49 C hr hk h0 a ⟨hag0.1, hag0.2⟩ hf
      · refine j_sub [] rfl ?_
        exact w_X8_addNumber_26 C hr hk h0 a ⟨hag0.1, hag0.2⟩ hf
set_option maxRecDepth 100000 in
set_option maxHeartbeats 4000000 in
theorem w_X8_addChoice_17 {b : MS} {p : Program} {l : Launch} {e : Env} {s : State} {m : MethodId} {args : Array Value} {below : List Frame} {meth : Method} {c : Code} {G : GT} {A : Nat → Prop} {ad : Nat → Nat} (C : CX G A RX8 cX8_addChoice 4 p s m args c) (hr : meth.sig.returnType = (some .int)) (hk : meth.locks = false) {ad0 : Nat → Nat} {n0 : Nat} {rr : Nat × Int32 × KS} (h0 : rr.1 = 0)   (a : KS) (hag0 : AGK ad0 ad n0 (Kn a)) (hf : f_X8_addChoice_17 a = some rr) : J p l e (RX 6 2 21) s m args below meth c G A 4 (MQ below (QV (some (.int rr.2.1)) (PosA G ad0 n0 rr.2.2 b A) A) args s 2 21 A) 0 0 ad a b 17 [] [] := by
  unfold f_X8_addChoice_17 at hf
  obtain rfl := Option.some.inj hf
  exact absurd (show (2 : Nat) = 0 from h0) (by decide)
set_option maxRecDepth 100000 in
set_option maxHeartbeats 4000000 in
theorem k_X8_addChoice {l : Launch} {G : GT} {ad : Nat → Nat} {a : KS} {v1 : Int32} {v2 : Int32} {b : MS} {rr : Nat × Int32 × KS} (hf : f_X8_addChoice a v1 v2 = some rr) (h0 : rr.1 = 0) : MN l G yX8_addChoice cX8_addChoice 4 (some .int) (RX 6 2 21) [.ref (ad 0), .int v1, .int v2] ad a b (some (.int rr.2.1)) rr.2.2 b := by
  refine MN_of2 (lv := [(0, .ref (ad 0)), (1, .int v1), (2, .int v2)]) (by decide) (by first | exact Nat.le_of_ble_eq_true rfl | (simp only [lg_sl, List.flatMap_cons, List.flatMap_nil, itv_cat]; exact Nat.le_of_ble_eq_true rfl)) (by first | rfl | (simp only [lv_args, itv_cat] <;> rfl)) ?_
  intro p e s m args below meth c A C hr hk
  have hag0 : AGK ad ad (Kn a) (Kn a) := ⟨fun _ _ => rfl, Nat.le_refl _⟩
  unfold f_X8_addChoice at hf
  refine j_aload_n C 0 rfl dX8_addChoice_0 ?_
  refine j_iload_n C 1 rfl dX8_addChoice_1 ?_
  obtain ⟨z1, h2, hf⟩ := bnd_some hf
  have y3 : z1.1 = 0 := by refine Classical.byContradiction fun q => ?_; have hf := (if_neg q).symm.trans hf; obtain rfl := Option.some.inj hf; exact q h0
  have hf := (if_pos y3).symm.trans hf
  refine j_callV (q := 0) (As := [.int v1]) (rest := []) C (k_X8_menuNumbered h2 y3) cw_X8_menuNumbered ml_X8_56 m_0 ce_0 rfl rfl ⟨Nat.le_of_ble_eq_true rfl, Nat.le_of_ble_eq_true rfl⟩ ⟨Nat.le_of_ble_eq_true rfl, Nat.le_of_ble_eq_true rfl⟩ rfl (Nat.le_of_ble_eq_true rfl) dX8_addChoice_2 ?_
  refine j_letO hf (fun o4 hf => ?_)
  refine j_astore_nq (i := 3) (lv' := [(3, itv ad o4), (0, .ref (ad 0)), (1, .int v1), (2, .int v2)]) (o := o4) C dX8_addChoice_5 rfl (by decide) rfl ?_
  refine j_iload_n C 3 rfl dX8_addChoice_6 ?_
  refine j_iconst (v := 2) C (by decide) dX8_addChoice_7 ?_
  refine j_icmp_lt C 17 dX8_addChoice_8 (by decide) hf (fun y5 hf => ?_) (fun y5 hf => ?_)
  · refine j_sub [] rfl ?_
    exact w_X8_addChoice_17 C hr hk h0 a ⟨hag0.1, hag0.2⟩ hf
  · refine j_iload_n C 3 rfl dX8_addChoice_11 ?_
    refine j_bipush (v := 9) C (by decide) dX8_addChoice_12 ?_
    refine j_icmp_le C 27 dX8_addChoice_14 (by decide) hf (fun y6 hf => ?_) (fun y6 hf => ?_)
    · refine j_aload_n C 1 rfl dX8_addChoice_27 ?_
      refine j_aload_nq C 0 rfl dX8_addChoice_28 ?_
      refine j_iconst (v := 2) C (by decide) dX8_addChoice_29 ?_
      refine j_iconst (v := 0) C (by decide) dX8_addChoice_30 ?_
      refine j_iload_n C 3 rfl dX8_addChoice_31 ?_
      refine j_iconst (v := 1) C (by decide) dX8_addChoice_32 ?_
      refine j_isub C dX8_addChoice_33 ?_
      refine j_iconst (v := 1) C (by decide) dX8_addChoice_34 ?_
      obtain ⟨z7, h8, hf⟩ := bnd_some hf
      have y9 : z7.1 = 0 := by refine Classical.byContradiction fun q => ?_; have hf := (if_neg q).symm.trans hf; obtain rfl := Option.some.inj hf; exact q h0
      have hf := (if_pos y9).symm.trans hf
      refine j_ncallV (q := 0) (As := [itv ad o4, .int 2, .int 0, .int (v2 - 1), .int 1]) (rest := []) C (k_X8_added h8 y9) cw_X8_added ml_X8_73 m_0 ce_0 rfl rfl ⟨Nat.le_of_ble_eq_true rfl, Nat.le_of_ble_eq_true rfl⟩ ⟨Nat.le_of_ble_eq_true rfl, Nat.le_of_ble_eq_true rfl⟩ rfl (Nat.le_of_ble_eq_true rfl) dX8_addChoice_35 (fun ad10 hg11 => ?_)
      refine j_widen 2 21 (Nat.le_of_ble_eq_true rfl) (Nat.le_of_ble_eq_true rfl) ?_
      obtain rfl := Option.some.inj hf
      exact j_niret C hr hk hg11 ⟨Nat.le_of_ble_eq_true rfl, Nat.le_of_ble_eq_true rfl⟩ rfl dX8_addChoice_38
    · refine j_sub [] rfl ?_
      exact w_X8_addChoice_17 C hr hk h0 a ⟨hag0.1, hag0.2⟩ hf
