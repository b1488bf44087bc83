set_option maxRecDepth 100000 in
set_option maxHeartbeats 4000000 in
theorem k_X4_locked {l : Launch} {G : GT} {ad : Nat → Nat} {a : KS} {v0 : Nat} {b : MS} {rr : Int32} (hf : f_X4_locked a v0 = some rr) : MT l G yX4_locked cX4_locked 1 (some .boolean) (RM 0) [.ref (ad (ip v0))] ad a b (some (.int rr)) a b := by
  refine MT_of (by decide) (Nat.le_of_ble_eq_true rfl) ?_
  intro p e s m args below meth c A C hr hk
  unfold f_X4_locked at hf
  refine j_aload_n C 0 rfl dX4_locked_0 ?_
  obtain ⟨h1, hf⟩ := gd_some hf
  have h1 := of_decide_eq_true h1
  refine j_get (q := (ip v0)) (kf := 11) (T := TX4) (N := 13) (RC := RX4) C (mem_ip h1) ce_item rfl in_X4 (by decide) (fun _ h9 => h9) fl_X4_47 rfl dX4_locked_1 ?_
  refine j_iconst (v := -1) C (by decide) dX4_locked_4 ?_
  refine j_icmp_eq C 12 dX4_locked_5 (by decide) hf (fun y2 hf => ?_) (fun y2 hf => ?_)
  · refine j_iconst (v := 0) C (by decide) dX4_locked_12 ?_
    obtain rfl := Option.some.inj hf
    exact j_zret C hr hk (by decide) ⟨Nat.le_of_ble_eq_true rfl, Nat.le_of_ble_eq_true rfl⟩ rfl dX4_locked_13
  · refine j_iconst (v := 1) C (by decide) dX4_locked_8 ?_
    refine j_goto C 13 dX4_locked_9 (by decide) ?_
    obtain rfl := Option.some.inj hf
    exact j_zret C hr hk (by decide) ⟨Nat.le_of_ble_eq_true rfl, Nat.le_of_ble_eq_true rfl⟩ rfl dX4_locked_13
set_option maxRecDepth 100000 in
set_option maxHeartbeats 4000000 in
theorem k_X4_keepChild {l : Launch} {G : GT} {ad : Nat → Nat} {a : KS} {v0 : Nat} {v1 : Option Nat} {b : MS} {rr : KS} (hf : f_X4_keepChild a v0 v1 = some rr) : MT l G yX4_keepChild cX4_keepChild 2 none (RM 0) [.ref (ad (ip v0)), itv ad v1] ad a b (none) rr b := by
  refine MT_of2 (lv := [(0, .ref (ad (ip v0))), (1, itv ad v1)]) (by decide) (by simp only [lg_sl, List.flatMap_cons, List.flatMap_nil, itv_cat]; exact Nat.le_of_ble_eq_true rfl) (by simp only [lv_args, itv_cat] <;> rfl) ?_
  intro p e s m args below meth c A C hr hk
  unfold f_X4_keepChild at hf
  refine j_aload_n C 0 rfl dX4_keepChild_0 ?_
  obtain ⟨h1, hf⟩ := gd_some hf
  have h1 := of_decide_eq_true h1
  refine j_get (q := (ip v0)) (kf := 9) (T := TX4) (N := 13) (RC := RX4) C (mem_ip h1) ce_item rfl in_X4 (by decide) (fun _ h9 => h9) fl_X4_25 rfl dX4_keepChild_1 ?_
  refine j_if_lt C 39 dX4_keepChild_4 (by decide) hf (fun y2 hf => ?_) (fun y2 hf => ?_)
  · obtain rfl := Option.some.inj hf
    exact j_vret C hr hk ⟨Nat.le_of_ble_eq_true rfl, Nat.le_of_ble_eq_true rfl⟩ rfl dX4_keepChild_39
  · refine j_aload_n C 0 rfl dX4_keepChild_7 ?_
    refine j_get (q := (ip v0)) (kf := 9) (T := TX4) (N := 13) (RC := RX4) C (mem_ip h1) ce_item rfl in_X4 (by decide) (fun _ h9 => h9) fl_X4_25 rfl dX4_keepChild_8 ?_
    refine j_aload_n C 0 rfl dX4_keepChild_11 ?_
    refine j_get (q := (ip v0)) (kf := 8) (T := TX4) (N := 13) (RC := RX4) C (mem_ip h1) ce_item rfl in_X4 (by decide) (fun _ h9 => h9) fl_X4_40 rfl dX4_keepChild_12 ?_
    refine j_alen (q := (cp v0)) (t0 := 4) (v := 8) C (mem_cp h1) ce_chil rfl rfl dX4_keepChild_15 ?_
    refine j_icmp_ge C 39 dX4_keepChild_16 (by decide) hf (fun y3 hf => ?_) (fun y3 hf => ?_)
    · obtain rfl := Option.some.inj hf
      exact j_vret C hr hk ⟨Nat.le_of_ble_eq_true rfl, Nat.le_of_ble_eq_true rfl⟩ rfl dX4_keepChild_39
    · refine j_aload_n C 0 rfl dX4_keepChild_19 ?_
      refine j_get (q := (ip v0)) (kf := 8) (T := TX4) (N := 13) (RC := RX4) C (mem_ip h1) ce_item rfl in_X4 (by decide) (fun _ h9 => h9) fl_X4_40 rfl dX4_keepChild_20 ?_
      refine j_aload_n C 0 rfl dX4_keepChild_23 ?_
      refine j_get (q := (ip v0)) (kf := 9) (T := TX4) (N := 13) (RC := RX4) C (mem_ip h1) ce_item rfl in_X4 (by decide) (fun _ h9 => h9) fl_X4_25 rfl dX4_keepChild_24 ?_
      refine j_aload_nq C 1 rfl dX4_keepChild_27 ?_
      obtain ⟨i4, e6, h5, hg⟩ := odr_some hf
      clear hf
      subst e6
      have hf := hg
      clear hg
      refine ast_chil C h1 h5 hf dX4_keepChild_28 (fun hf => ?_)
      refine j_aload_n C 0 rfl dX4_keepChild_29 ?_
      refine j_dup C rfl dX4_keepChild_30 ?_
      refine j_get (q := (ip v0)) (kf := 9) (T := TX4) (N := 13) (RC := RX4) C (mem_ip h1) ce_item rfl in_X4 (by decide) (fun _ h9 => h9) fl_X4_25 rfl dX4_keepChild_31 ?_
      refine j_iconst (v := 1) C (by decide) dX4_keepChild_34 ?_
      refine j_iadd C dX4_keepChild_35 ?_
      refine put_X4_9 C h1 fl_X4_25 rfl rfl dX4_keepChild_36 ?_
      obtain rfl := Option.some.inj hf
      exact j_vret C hr hk ⟨Nat.le_of_ble_eq_true rfl, Nat.le_of_ble_eq_true rfl⟩ rfl dX4_keepChild_39
set_option maxRecDepth 100000 in
set_option maxHeartbeats 4000000 in
theorem k_X4_closed {l : Launch} {G : GT} {ad : Nat → Nat} {a : KS} {v0 : Nat} {b : MS} {rr : Int32} (hf : f_X4_closed a v0 = some rr) : MT l G yX4_closed cX4_closed 1 (some .boolean) (RM 1) [.ref (ad (ip v0))] ad a b (some (.int rr)) a b := by
  refine MT_of (by decide) (Nat.le_of_ble_eq_true rfl) ?_
  intro p e s m args below meth c A C hr hk
  unfold f_X4_closed at hf
  refine j_aload_n C 0 rfl dX4_closed_0 ?_
  obtain ⟨h1, hf⟩ := gd_some hf
  have h1 := of_decide_eq_true h1
  obtain ⟨z2, h3, hf⟩ := bnd_some hf
  refine j_callV (q := (ip v0)) (As := []) (rest := []) C (k_X4_locked h3) cw_X4_locked ml_X4_50 (mem_ip h1) ce_item rfl rfl ⟨Nat.le_of_ble_eq_true rfl, Nat.le_of_ble_eq_true rfl⟩ ⟨Nat.le_of_ble_eq_true rfl, Nat.le_of_ble_eq_true rfl⟩ rfl (Nat.le_of_ble_eq_true rfl) dX4_closed_1 ?_
  refine j_if_eq C 18 dX4_closed_4 (by decide) hf (fun y5 hf => ?_) (fun y5 hf => ?_)
  · refine j_iconst (v := 0) C (by decide) dX4_closed_18 ?_
    obtain rfl := Option.some.inj hf
    exact j_zret C hr hk (by decide) ⟨Nat.le_of_ble_eq_true rfl, Nat.le_of_ble_eq_true rfl⟩ rfl dX4_closed_19
  · refine j_aload_n C 0 rfl dX4_closed_7 ?_
    refine j_get (q := (ip v0)) (kf := 12) (T := TX4) (N := 13) (RC := RX4) C (mem_ip h1) ce_item rfl in_X4 (by decide) (fun _ h9 => h9) fl_X4_54 rfl dX4_closed_8 ?_
    refine j_if_ne C 18 dX4_closed_11 (by decide) hf (fun y6 hf => ?_) (fun y6 hf => ?_)
    · refine j_iconst (v := 0) C (by decide) dX4_closed_18 ?_
      obtain rfl := Option.some.inj hf
      exact j_zret C hr hk (by decide) ⟨Nat.le_of_ble_eq_true rfl, Nat.le_of_ble_eq_true rfl⟩ rfl dX4_closed_19
    · refine j_iconst (v := 1) C (by decide) dX4_closed_14 ?_
      refine j_goto C 19 dX4_closed_15 (by decide) ?_
      obtain rfl := Option.some.inj hf
      exact j_zret C hr hk (by decide) ⟨Nat.le_of_ble_eq_true rfl, Nat.le_of_ble_eq_true rfl⟩ rfl dX4_closed_19
set_option maxRecDepth 100000 in
set_option maxHeartbeats 4000000 in
theorem k_X4_childAt {l : Launch} {G : GT} {ad : Nat → Nat} {a : KS} {v0 : Nat} {v1 : Int32} {b : MS} {rr : Option Nat} (hf : f_X4_childAt a v0 v1 = some rr) : MT l G yX4_childAt cX4_childAt 2 (some (.object "KnobMenu$Item")) (RM 0) [.ref (ad (ip v0)), .int v1] ad a b (some (itv ad rr)) a b := by
  refine MT_of (by decide) (Nat.le_of_ble_eq_true rfl) ?_
  intro p e s m args below meth c A C hr hk
  unfold f_X4_childAt at hf
  refine j_iload_n C 1 rfl dX4_childAt_0 ?_
  refine j_if_lt C 30 dX4_childAt_1 (by decide) hf (fun y1 hf => ?_) (fun y1 hf => ?_)
  · refine j_null C dX4_childAt_30 ?_
    obtain rfl := Option.some.inj hf
    exact j_aret C hr hk (Or.inl ⟨_, rfl⟩) (itv_nr (ad := ad) none) ⟨Nat.le_of_ble_eq_true rfl, Nat.le_of_ble_eq_true rfl⟩ rfl dX4_childAt_31
  · refine j_iload_n C 1 rfl dX4_childAt_4 ?_
    refine j_aload_n C 0 rfl dX4_childAt_5 ?_
    obtain ⟨h2, hf⟩ := gd_some hf
    have h2 := of_decide_eq_true h2
    refine j_get (q := (ip v0)) (kf := 9) (T := TX4) (N := 13) (RC := RX4) C (mem_ip h2) ce_item rfl in_X4 (by decide) (fun _ h9 => h9) fl_X4_25 rfl dX4_childAt_6 ?_
    refine j_icmp_ge C 30 dX4_childAt_9 (by decide) hf (fun y3 hf => ?_) (fun y3 hf => ?_)
    · refine j_null C dX4_childAt_30 ?_
      obtain rfl := Option.some.inj hf
      exact j_aret C hr hk (Or.inl ⟨_, rfl⟩) (itv_nr (ad := ad) none) ⟨Nat.le_of_ble_eq_true rfl, Nat.le_of_ble_eq_true rfl⟩ rfl dX4_childAt_31
    · refine j_iload_n C 1 rfl dX4_childAt_12 ?_
      refine j_aload_n C 0 rfl dX4_childAt_13 ?_
      refine j_get (q := (ip v0)) (kf := 8) (T := TX4) (N := 13) (RC := RX4) C (mem_ip h2) ce_item rfl in_X4 (by decide) (fun _ h9 => h9) fl_X4_40 rfl dX4_childAt_14 ?_
      refine j_alen (q := (cp v0)) (t0 := 4) (v := 8) C (mem_cp h2) ce_chil rfl rfl dX4_childAt_17 ?_
      refine j_icmp_ge C 30 dX4_childAt_18 (by decide) hf (fun y4 hf => ?_) (fun y4 hf => ?_)
      · refine j_null C dX4_childAt_30 ?_
        obtain rfl := Option.some.inj hf
        exact j_aret C hr hk (Or.inl ⟨_, rfl⟩) (itv_nr (ad := ad) none) ⟨Nat.le_of_ble_eq_true rfl, Nat.le_of_ble_eq_true rfl⟩ rfl dX4_childAt_31
      · refine j_aload_n C 0 rfl dX4_childAt_21 ?_
        refine j_get (q := (ip v0)) (kf := 8) (T := TX4) (N := 13) (RC := RX4) C (mem_ip h2) ce_item rfl in_X4 (by decide) (fun _ h9 => h9) fl_X4_40 rfl dX4_childAt_22 ?_
        refine j_iload_n C 1 rfl dX4_childAt_25 ?_
        refine j_aald (q := (cp v0)) C (mem_cp h2) ce_chil hf dX4_childAt_26 (fun hf => ?_)
        refine j_letO hf (fun o5 hf => ?_)
        refine j_goto C 31 dX4_childAt_27 (by decide) ?_
        obtain rfl := Option.some.inj hf
        exact j_aret C hr hk (Or.inl ⟨_, rfl⟩) (itv_nr (ad := ad) o5) ⟨Nat.le_of_ble_eq_true rfl, Nat.le_of_ble_eq_true rfl⟩ rfl dX4_childAt_31
set_option maxRecDepth 100000 in
set_option maxHeartbeats 4000000 in
theorem k_X4_entries {l : Launch} {G : GT} {ad : Nat → Nat} {a : KS} {v0 : Nat} {b : MS} {rr : Int32} (hf : f_X4_entries a v0 = some rr) : MT l G yX4_entries cX4_entries 1 (some .int) (RM 0) [.ref (ad (ip v0))] ad a b (some (.int rr)) a b := by
  refine MT_of (by decide) (Nat.le_of_ble_eq_true rfl) ?_
  intro p e s m args below meth c A C hr hk
  unfold f_X4_entries at hf
  refine j_aload_n C 0 rfl dX4_entries_0 ?_
  obtain ⟨h1, hf⟩ := gd_some hf
  have h1 := of_decide_eq_true h1
  refine j_get (q := (ip v0)) (kf := 2) (T := TX4) (N := 13) (RC := RX4) C (mem_ip h1) ce_item rfl in_X4 (by decide) (fun _ h9 => h9) fl_X4_18 rfl dX4_entries_1 ?_
  refine j_letO hf (fun o2 hf => ?_)
  refine j_ifnonnull C 14 dX4_entries_4 (by decide) hf (fun e5 hg => ?_) (fun i4 e5 hg => ?_)
  · clear hf
    subst e5
    have hf := hg
    clear hg
    refine j_aload_n C 0 rfl dX4_entries_7 ?_
    refine j_get (q := (ip v0)) (kf := 9) (T := TX4) (N := 13) (RC := RX4) C (mem_ip h1) ce_item rfl in_X4 (by decide) (fun _ h9 => h9) fl_X4_25 rfl dX4_entries_8 ?_
    refine j_goto C 20 dX4_entries_11 (by decide) ?_
    obtain rfl := Option.some.inj hf
    exact j_iret C hr hk ⟨Nat.le_of_ble_eq_true rfl, Nat.le_of_ble_eq_true rfl⟩ rfl dX4_entries_20
  · clear hf
    subst e5
    have hf := hg
    clear hg
    refine j_aload_n C 0 rfl dX4_entries_14 ?_
    refine j_get (q := (ip v0)) (kf := 9) (T := TX4) (N := 13) (RC := RX4) C (mem_ip h1) ce_item rfl in_X4 (by decide) (fun _ h9 => h9) fl_X4_25 rfl dX4_entries_15 ?_
    refine j_iconst (v := 1) C (by decide) dX4_entries_18 ?_
    refine j_iadd C dX4_entries_19 ?_
    obtain rfl := Option.some.inj hf
    exact j_iret C hr hk ⟨Nat.le_of_ble_eq_true rfl, Nat.le_of_ble_eq_true rfl⟩ rfl dX4_entries_20
