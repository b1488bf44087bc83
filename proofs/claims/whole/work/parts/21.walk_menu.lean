set_option maxRecDepth 100000 in
set_option maxHeartbeats 4000000 in
theorem k_X8_items {l : Launch} {G : GT} {ad : Nat → Nat} {a : KS} {b : MS} {rr : Int32} (hf : f_X8_items a = some rr) : MT l G yX8_items cX8_items 1 (some .int) (RM 0) [.ref (ad 0)] ad a b (some (.int rr)) a b := by
  refine MT_of (by decide) (Nat.le_of_ble_eq_true rfl) ?_
  intro p e s m args below meth c A C hr hk
  unfold f_X8_items at hf
  refine j_aload_n C 0 rfl dX8_items_0 ?_
  refine j_get (q := 0) (kf := 0) (T := TX8) (N := 7) (RC := RX8) C m_0 ce_0 rfl in_X8 (by decide) (fun _ h9 => h9) fl_X8_10 rfl dX8_items_1 ?_
  refine j_get (q := 1) (kf := 2) (T := TX7) (N := 3) (RC := RX7) C m_1 ce_1 rfl in_X7 (by decide) (fun _ h9 => h9) fl_X8_107 rfl dX8_items_4 ?_
  obtain rfl := Option.some.inj hf
  exact j_iret C hr hk ⟨Nat.le_refl _, Nat.le_refl _⟩ rfl dX8_items_7
set_option maxRecDepth 100000 in
set_option maxHeartbeats 4000000 in
theorem k_X8_numberOf {l : Launch} {G : GT} {ad : Nat → Nat} {a : KS} {v0 : Option Nat} {b : MS} {rr : Int32} (hf : f_X8_numberOf a v0 = some rr) : MT l G yX8_numberOf cX8_numberOf 1 (some .int) (RM 0) [itv ad v0] ad a b (some (.int rr)) a b := by
  refine MT_of2 (lv := [(0, itv ad v0)]) (by decide) (by simp only [lg_sl, List.flatMap_cons, List.flatMap_nil, itv_cat]; exact Nat.le_of_ble_eq_true rfl) (by simp only [lv_args, itv_cat] <;> rfl) ?_
  intro p e s m args below meth c A C hr hk
  unfold f_X8_numberOf at hf
  refine j_aload_nq C 0 rfl dX8_numberOf_0 ?_
  refine j_ifnonnull C 8 dX8_numberOf_1 (by decide) hf (fun e3 hg => ?_) (fun i2 e3 hg => ?_)
  · clear hf
    subst e3
    have hf := hg
    clear hg
    refine j_iconst (v := -1) C (by decide) dX8_numberOf_4 ?_
    refine j_goto C 12 dX8_numberOf_5 (by decide) ?_
    obtain rfl := Option.some.inj hf
    exact j_iret C hr hk ⟨Nat.le_refl _, Nat.le_refl _⟩ rfl dX8_numberOf_12
  · clear hf
    subst e3
    have hf := hg
    clear hg
    refine j_aload_n C 0 rfl dX8_numberOf_8 ?_
    obtain ⟨h4, hf⟩ := gd_some hf
    have h4 := of_decide_eq_true h4
    refine j_get (q := (ip i2)) (kf := 0) (T := TX4) (N := 13) (RC := RX4) C (mem_ip h4) ce_item rfl in_X4 (by decide) (fun _ h9 => h9) fl_X8_180 rfl dX8_numberOf_9 ?_
    obtain rfl := Option.some.inj hf
    exact j_iret C hr hk ⟨Nat.le_refl _, Nat.le_refl _⟩ rfl dX8_numberOf_12
set_option maxRecDepth 100000 in
set_option maxHeartbeats 4000000 in
theorem k_X8_press {l : Launch} {G : GT} {ad : Nat → Nat} {a : KS} {b : MS} {rr : Int32 × KS} (hf : f_X8_press a = some rr) : MT l G yX8_press cX8_press 1 (some .int) (RM 5) [.ref (ad 0)] ad a b (some (.int rr.1)) rr.2 b := by
  refine MT_of (by decide) (Nat.le_of_ble_eq_true rfl) ?_
  intro p e s m args below meth c A C hr hk
  unfold f_X8_press at hf
  refine j_aload_n C 0 rfl dX8_press_0 ?_
  refine j_get (q := 0) (kf := 4) (T := TX8) (N := 7) (RC := RX8) C m_0 ce_0 rfl in_X8 (by decide) (fun _ h9 => h9) fl_X8_38 rfl dX8_press_1 ?_
  obtain ⟨z1, h2, hf⟩ := bnd_some hf
  refine j_callV (q := 10) (As := []) (rest := []) C (k_X2_pressKnob h2) cw_X2_pressKnob ml_X8_134 m_10 ce_10 rfl rfl ⟨Nat.le_of_ble_eq_true rfl, Nat.le_of_ble_eq_true rfl⟩ ⟨Nat.le_refl _, Nat.le_refl _⟩ rfl (Nat.le_of_ble_eq_true rfl) dX8_press_4 ?_
  obtain rfl := Option.some.inj hf
  exact j_iret C hr hk ⟨Nat.le_refl _, Nat.le_refl _⟩ rfl dX8_press_7
set_option maxRecDepth 100000 in
set_option maxHeartbeats 4000000 in
theorem k_X8_hold {l : Launch} {G : GT} {ad : Nat → Nat} {a : KS} {b : MS} {rr : Int32 × KS} (hf : f_X8_hold a = some rr) : MT l G yX8_hold cX8_hold 1 (some .int) (RM 4) [.ref (ad 0)] ad a b (some (.int rr.1)) rr.2 b := by
  refine MT_of (by decide) (Nat.le_of_ble_eq_true rfl) ?_
  intro p e s m args below meth c A C hr hk
  unfold f_X8_hold at hf
  refine j_aload_n C 0 rfl dX8_hold_0 ?_
  refine j_get (q := 0) (kf := 4) (T := TX8) (N := 7) (RC := RX8) C m_0 ce_0 rfl in_X8 (by decide) (fun _ h9 => h9) fl_X8_38 rfl dX8_hold_1 ?_
  obtain ⟨z1, h2, hf⟩ := bnd_some hf
  refine j_callV (q := 10) (As := []) (rest := []) C (k_X2_holdKnob h2) cw_X2_holdKnob ml_X8_138 m_10 ce_10 rfl rfl ⟨Nat.le_of_ble_eq_true rfl, Nat.le_of_ble_eq_true rfl⟩ ⟨Nat.le_refl _, Nat.le_refl _⟩ rfl (Nat.le_of_ble_eq_true rfl) dX8_hold_4 ?_
  obtain rfl := Option.some.inj hf
  exact j_iret C hr hk ⟨Nat.le_refl _, Nat.le_refl _⟩ rfl dX8_hold_7
set_option maxRecDepth 100000 in
set_option maxHeartbeats 4000000 in
theorem k_X8_leastOf {l : Launch} {G : GT} {ad : Nat → Nat} {a : KS} {v0 : Int32} {b : MS} {rr : Int32} (hf : f_X8_leastOf a v0 = some rr) : MT l G yX8_leastOf cX8_leastOf 1 (some .int) (RM 0) [.int v0] ad a b (some (.int rr)) a b := by
  refine MT_of (by decide) (Nat.le_of_ble_eq_true rfl) ?_
  intro p e s m args below meth c A C hr hk
  unfold f_X8_leastOf at hf
  refine j_iload_n C 0 rfl dX8_leastOf_0 ?_
  refine j_iconst (v := 2) C (by decide) dX8_leastOf_1 ?_
  refine j_icmp_ne C 9 dX8_leastOf_2 (by decide) hf (fun y1 hf => ?_) (fun y1 hf => ?_)
  · refine j_iconst (v := 1) C (by decide) dX8_leastOf_9 ?_
    obtain rfl := Option.some.inj hf
    exact j_iret C hr hk ⟨Nat.le_refl _, Nat.le_refl _⟩ rfl dX8_leastOf_10
  · refine j_iconst (v := 0) C (by decide) dX8_leastOf_5 ?_
    refine j_goto C 10 dX8_leastOf_6 (by decide) ?_
    obtain rfl := Option.some.inj hf
    exact j_iret C hr hk ⟨Nat.le_refl _, Nat.le_refl _⟩ rfl dX8_leastOf_10
set_option maxRecDepth 100000 in
set_option maxHeartbeats 4000000 in
theorem k_X8_mostOf {l : Launch} {G : GT} {ad : Nat → Nat} {a : KS} {v0 : Int32} {b : MS} {rr : Int32} (hf : f_X8_mostOf a v0 = some rr) : MT l G yX8_mostOf cX8_mostOf 1 (some .int) (RM 0) [.int v0] ad a b (some (.int rr)) a b := by
  refine MT_of (by decide) (Nat.le_of_ble_eq_true rfl) ?_
  intro p e s m args below meth c A C hr hk
  unfold f_X8_mostOf at hf
  refine j_iload_n C 0 rfl dX8_mostOf_0 ?_
  refine j_if_ne C 7 dX8_mostOf_1 (by decide) hf (fun y1 hf => ?_) (fun y1 hf => ?_)
  · refine j_iload_n C 0 rfl dX8_mostOf_7 ?_
    refine j_iconst (v := 1) C (by decide) dX8_mostOf_8 ?_
    refine j_icmp_ne C 17 dX8_mostOf_9 (by decide) hf (fun y2 hf => ?_) (fun y2 hf => ?_)
    · refine j_iconst (v := 1) C (by decide) dX8_mostOf_17 ?_
      obtain rfl := Option.some.inj hf
      exact j_iret C hr hk ⟨Nat.le_refl _, Nat.le_refl _⟩ rfl dX8_mostOf_18
    · refine j_bipush (v := 99) C (by decide) dX8_mostOf_12 ?_
      refine j_goto C 18 dX8_mostOf_14 (by decide) ?_
      obtain rfl := Option.some.inj hf
      exact j_iret C hr hk ⟨Nat.le_refl _, Nat.le_refl _⟩ rfl dX8_mostOf_18
  · refine j_bipush (v := 60) C (by decide) dX8_mostOf_4 ?_
    obtain rfl := Option.some.inj hf
    exact j_iret C hr hk ⟨Nat.le_refl _, Nat.le_refl _⟩ rfl dX8_mostOf_6
set_option maxRecDepth 100000 in
set_option maxHeartbeats 4000000 in
theorem k_X8_mode {l : Launch} {G : GT} {ad : Nat → Nat} {a : KS} {b : MS} {rr : Int32} (hf : f_X8_mode a = some rr) : MT l G yX8_mode cX8_mode 1 (some .int) (RM 0) [.ref (ad 0)] ad a b (some (.int rr)) a b := by
  refine MT_of (by decide) (Nat.le_of_ble_eq_true rfl) ?_
  intro p e s m args below meth c A C hr hk
  unfold f_X8_mode at hf
  refine j_aload_n C 0 rfl dX8_mode_0 ?_
  refine j_get (q := 0) (kf := 4) (T := TX8) (N := 7) (RC := RX8) C m_0 ce_0 rfl in_X8 (by decide) (fun _ h9 => h9) fl_X8_38 rfl dX8_mode_1 ?_
  refine j_get (q := 10) (kf := 6) (T := TX2) (N := 13) (RC := RX2) C m_10 ce_10 rfl in_X2 (by decide) (fun _ h9 => h9) fl_X8_202 rfl dX8_mode_4 ?_
  obtain rfl := Option.some.inj hf
  exact j_iret C hr hk ⟨Nat.le_refl _, Nat.le_refl _⟩ rfl dX8_mode_7
set_option maxRecDepth 100000 in
set_option maxHeartbeats 4000000 in
theorem k_X8_shown {l : Launch} {G : GT} {ad : Nat → Nat} {a : KS} {b : MS} {rr : Int32} (hf : f_X8_shown a = some rr) : MT l G yX8_shown cX8_shown 1 (some .int) (RM 0) [.ref (ad 0)] ad a b (some (.int rr)) a b := by
  refine MT_of (by decide) (Nat.le_of_ble_eq_true rfl) ?_
  intro p e s m args below meth c A C hr hk
  unfold f_X8_shown at hf
  refine j_aload_n C 0 rfl dX8_shown_0 ?_
  refine j_get (q := 0) (kf := 4) (T := TX8) (N := 7) (RC := RX8) C m_0 ce_0 rfl in_X8 (by decide) (fun _ h9 => h9) fl_X8_38 rfl dX8_shown_1 ?_
  refine j_get (q := 10) (kf := 5) (T := TX2) (N := 13) (RC := RX2) C m_10 ce_10 rfl in_X2 (by decide) (fun _ h9 => h9) fl_X8_205 rfl dX8_shown_4 ?_
  refine j_letO hf (fun o1 hf => ?_)
  obtain ⟨i2, e4, h3, hg⟩ := odr_some hf
  clear hf
  subst e4
  have hf := hg
  clear hg
  refine j_get (q := (ip i2)) (kf := 0) (T := TX4) (N := 13) (RC := RX4) C (mem_ip h3) ce_item rfl in_X4 (by decide) (fun _ h9 => h9) fl_X8_180 rfl dX8_shown_7 ?_
  obtain rfl := Option.some.inj hf
  exact j_iret C hr hk ⟨Nat.le_refl _, Nat.le_refl _⟩ rfl dX8_shown_10
set_option maxRecDepth 100000 in
set_option maxHeartbeats 4000000 in
theorem k_X8_cursor {l : Launch} {G : GT} {ad : Nat → Nat} {a : KS} {b : MS} {rr : Int32} (hf : f_X8_cursor a = some rr) : MT l G yX8_cursor cX8_cursor 1 (some .int) (RM 0) [.ref (ad 0)] ad a b (some (.int rr)) a b := by
  refine MT_of (by decide) (Nat.le_of_ble_eq_true rfl) ?_
  intro p e s m args below meth c A C hr hk
  unfold f_X8_cursor at hf
  refine j_aload_n C 0 rfl dX8_cursor_0 ?_
  refine j_get (q := 0) (kf := 4) (T := TX8) (N := 7) (RC := RX8) C m_0 ce_0 rfl in_X8 (by decide) (fun _ h9 => h9) fl_X8_38 rfl dX8_cursor_1 ?_
  refine j_get (q := 10) (kf := 7) (T := TX2) (N := 13) (RC := RX2) C m_10 ce_10 rfl in_X2 (by decide) (fun _ h9 => h9) fl_X8_208 rfl dX8_cursor_4 ?_
  obtain rfl := Option.some.inj hf
  exact j_iret C hr hk ⟨Nat.le_refl _, Nat.le_refl _⟩ rfl dX8_cursor_7
set_option maxRecDepth 100000 in
set_option maxHeartbeats 4000000 in
theorem k_X8_chosen {l : Launch} {G : GT} {ad : Nat → Nat} {a : KS} {b : MS} {rr : Int32} (hf : f_X8_chosen a = some rr) : MT l G yX8_chosen cX8_chosen 1 (some .int) (RM 2) [.ref (ad 0)] ad a b (some (.int rr)) a b := by
  refine MT_of (by decide) (Nat.le_of_ble_eq_true rfl) ?_
  intro p e s m args below meth c A C hr hk
  unfold f_X8_chosen at hf
  refine j_aload_n C 0 rfl dX8_chosen_0 ?_
  refine j_get (q := 0) (kf := 4) (T := TX8) (N := 7) (RC := RX8) C m_0 ce_0 rfl in_X8 (by decide) (fun _ h9 => h9) fl_X8_38 rfl dX8_chosen_1 ?_
  obtain ⟨z1, h2, hf⟩ := bnd_some hf
  refine j_callV (q := 10) (As := []) (rest := []) C (k_X2_chosenItem h2) cw_X2_chosenItem ml_X8_211 m_10 ce_10 rfl rfl ⟨Nat.le_of_ble_eq_true rfl, Nat.le_of_ble_eq_true rfl⟩ ⟨Nat.le_refl _, Nat.le_refl _⟩ rfl (Nat.le_of_ble_eq_true rfl) dX8_chosen_4 ?_
  obtain ⟨z3, h4, hf⟩ := bnd_some hf
  refine j_callS (As := [itv ad z1]) (rest := []) C (k_X8_numberOf h4) cw_X8_numberOf ml_X8_113 rfl ⟨Nat.le_of_ble_eq_true rfl, Nat.le_of_ble_eq_true rfl⟩ ⟨Nat.le_refl _, Nat.le_refl _⟩ rfl (Nat.le_of_ble_eq_true rfl) dX8_chosen_7 ?_
  obtain rfl := Option.some.inj hf
  exact j_iret C hr hk ⟨Nat.le_refl _, Nat.le_refl _⟩ rfl dX8_chosen_10
set_option maxRecDepth 100000 in
set_option maxHeartbeats 4000000 in
theorem k_X8_draft {l : Launch} {G : GT} {ad : Nat → Nat} {a : KS} {b : MS} {rr : Int32} (hf : f_X8_draft a = some rr) : MT l G yX8_draft cX8_draft 1 (some .int) (RM 0) [.ref (ad 0)] ad a b (some (.int rr)) a b := by
  refine MT_of (by decide) (Nat.le_of_ble_eq_true rfl) ?_
  intro p e s m args below meth c A C hr hk
  unfold f_X8_draft at hf
  refine j_aload_n C 0 rfl dX8_draft_0 ?_
  refine j_get (q := 0) (kf := 4) (T := TX8) (N := 7) (RC := RX8) C m_0 ce_0 rfl in_X8 (by decide) (fun _ h9 => h9) fl_X8_38 rfl dX8_draft_1 ?_
  refine j_get (q := 10) (kf := 6) (T := TX2) (N := 13) (RC := RX2) C m_10 ce_10 rfl in_X2 (by decide) (fun _ h9 => h9) fl_X8_202 rfl dX8_draft_4 ?_
  refine j_iconst (v := 1) C (by decide) dX8_draft_7 ?_
  refine j_icmp_ne C 21 dX8_draft_8 (by decide) hf (fun y1 hf => ?_) (fun y1 hf => ?_)
  · refine j_iconst (v := 0) C (by decide) dX8_draft_21 ?_
    obtain rfl := Option.some.inj hf
    exact j_iret C hr hk ⟨Nat.le_refl _, Nat.le_refl _⟩ rfl dX8_draft_22
  · refine j_aload_n C 0 rfl dX8_draft_11 ?_
    refine j_get (q := 0) (kf := 4) (T := TX8) (N := 7) (RC := RX8) C m_0 ce_0 rfl in_X8 (by decide) (fun _ h9 => h9) fl_X8_38 rfl dX8_draft_12 ?_
    refine j_get (q := 10) (kf := 8) (T := TX2) (N := 13) (RC := RX2) C m_10 ce_10 rfl in_X2 (by decide) (fun _ h9 => h9) fl_X8_214 rfl dX8_draft_15 ?_
    refine j_goto C 22 dX8_draft_18 (by decide) ?_
    obtain rfl := Option.some.inj hf
    exact j_iret C hr hk ⟨Nat.le_refl _, Nat.le_refl _⟩ rfl dX8_draft_22
set_option maxRecDepth 100000 in
set_option maxHeartbeats 4000000 in
theorem k_X8_idle {l : Launch} {G : GT} {ad : Nat → Nat} {a : KS} {b : MS} {rr : Int32} (hf : f_X8_idle a = some rr) : MT l G yX8_idle cX8_idle 1 (some .int) (RM 0) [.ref (ad 0)] ad a b (some (.int rr)) a b := by
  refine MT_of (by decide) (Nat.le_of_ble_eq_true rfl) ?_
  intro p e s m args below meth c A C hr hk
  unfold f_X8_idle at hf
  refine j_aload_n C 0 rfl dX8_idle_0 ?_
  refine j_get (q := 0) (kf := 4) (T := TX8) (N := 7) (RC := RX8) C m_0 ce_0 rfl in_X8 (by decide) (fun _ h9 => h9) fl_X8_38 rfl dX8_idle_1 ?_
  refine j_get (q := 10) (kf := 10) (T := TX2) (N := 13) (RC := RX2) C m_10 ce_10 rfl in_X2 (by decide) (fun _ h9 => h9) fl_X8_217 rfl dX8_idle_4 ?_
  obtain rfl := Option.some.inj hf
  exact j_iret C hr hk ⟨Nat.le_refl _, Nat.le_refl _⟩ rfl dX8_idle_7
set_option maxRecDepth 100000 in
set_option maxHeartbeats 4000000 in
theorem k_X8_barred {l : Launch} {G : GT} {ad : Nat → Nat} {a : KS} {b : MS} {rr : Int32} (hf : f_X8_barred a = some rr) : MT l G yX8_barred cX8_barred 1 (some .int) (RM 0) [.ref (ad 0)] ad a b (some (.int rr)) a b := by
  refine MT_of (by decide) (Nat.le_of_ble_eq_true rfl) ?_
  intro p e s m args below meth c A C hr hk
  unfold f_X8_barred at hf
  refine j_aload_n C 0 rfl dX8_barred_0 ?_
  refine j_get (q := 0) (kf := 4) (T := TX8) (N := 7) (RC := RX8) C m_0 ce_0 rfl in_X8 (by decide) (fun _ h9 => h9) fl_X8_38 rfl dX8_barred_1 ?_
  refine j_get (q := 10) (kf := 11) (T := TX2) (N := 13) (RC := RX2) C m_10 ce_10 rfl in_X2 (by decide) (fun _ h9 => h9) fl_X8_220 rfl dX8_barred_4 ?_
  obtain rfl := Option.some.inj hf
  exact j_iret C hr hk ⟨Nat.le_refl _, Nat.le_refl _⟩ rfl dX8_barred_7
set_option maxRecDepth 100000 in
set_option maxHeartbeats 4000000 in
theorem k_X8_logged {l : Launch} {G : GT} {ad : Nat → Nat} {a : KS} {b : MS} {rr : Int32} (hf : f_X8_logged a = some rr) : MT l G yX8_logged cX8_logged 1 (some .int) (RM 0) [.ref (ad 0)] ad a b (some (.int rr)) a b := by
  refine MT_of (by decide) (Nat.le_of_ble_eq_true rfl) ?_
  intro p e s m args below meth c A C hr hk
  unfold f_X8_logged at hf
  refine j_aload_n C 0 rfl dX8_logged_0 ?_
  refine j_get (q := 0) (kf := 1) (T := TX8) (N := 7) (RC := RX8) C m_0 ce_0 rfl in_X8 (by decide) (fun _ h9 => h9) fl_X8_19 rfl dX8_logged_1 ?_
  refine j_get (q := 3) (kf := 2) (T := TX3) (N := 3) (RC := RX3) C m_3 ce_3 rfl in_X3 (by decide) (fun _ h9 => h9) fl_X8_223 rfl dX8_logged_4 ?_
  obtain rfl := Option.some.inj hf
  exact j_iret C hr hk ⟨Nat.le_refl _, Nat.le_refl _⟩ rfl dX8_logged_7
set_option maxRecDepth 100000 in
set_option maxHeartbeats 4000000 in
theorem k_X8_isHome {l : Launch} {G : GT} {ad : Nat → Nat} {a : KS} {b : MS} {rr : Int32} (hf : f_X8_isHome a = some rr) : MT l G yX8_isHome cX8_isHome 1 (some .boolean) (RM 4) [.ref (ad 0)] ad a b (some (.int rr)) a b := by
  refine MT_of (by decide) (Nat.le_of_ble_eq_true rfl) ?_
  intro p e s m args below meth c A C hr hk
  unfold f_X8_isHome at hf
  refine j_aload_n C 0 rfl dX8_isHome_0 ?_
  refine j_get (q := 0) (kf := 4) (T := TX8) (N := 7) (RC := RX8) C m_0 ce_0 rfl in_X8 (by decide) (fun _ h9 => h9) fl_X8_38 rfl dX8_isHome_1 ?_
  obtain ⟨z1, h2, hf⟩ := bnd_some hf
  refine j_callV (q := 10) (As := []) (rest := []) C (k_X2_atHome h2) cw_X2_atHome ml_X8_224 m_10 ce_10 rfl rfl ⟨Nat.le_of_ble_eq_true rfl, Nat.le_of_ble_eq_true rfl⟩ ⟨Nat.le_refl _, Nat.le_refl _⟩ rfl (Nat.le_of_ble_eq_true rfl) dX8_isHome_4 ?_
  obtain ⟨h3, hf⟩ := gd_some hf
  obtain rfl := Option.some.inj hf
  exact j_zret C hr hk (okz_n h3) ⟨Nat.le_refl _, Nat.le_refl _⟩ rfl dX8_isHome_7
set_option maxRecDepth 100000 in
set_option maxHeartbeats 4000000 in
theorem k_X8_ticksToHome {l : Launch} {G : GT} {ad : Nat → Nat} {a : KS} {b : MS} {rr : Int32} (hf : f_X8_ticksToHome a = some rr) : MT l G yX8_ticksToHome cX8_ticksToHome 1 (some .int) (RM 5) [.ref (ad 0)] ad a b (some (.int rr)) a b := by
  refine MT_of (by decide) (Nat.le_of_ble_eq_true rfl) ?_
  intro p e s m args below meth c A C hr hk
  unfold f_X8_ticksToHome at hf
  refine j_aload_n C 0 rfl dX8_ticksToHome_0 ?_
  refine j_get (q := 0) (kf := 4) (T := TX8) (N := 7) (RC := RX8) C m_0 ce_0 rfl in_X8 (by decide) (fun _ h9 => h9) fl_X8_38 rfl dX8_ticksToHome_1 ?_
  obtain ⟨z1, h2, hf⟩ := bnd_some hf
  refine j_callV (q := 10) (As := []) (rest := []) C (k_X2_ticksUntilHome h2) cw_X2_ticksUntilHome ml_X8_248 m_10 ce_10 rfl rfl ⟨Nat.le_of_ble_eq_true rfl, Nat.le_of_ble_eq_true rfl⟩ ⟨Nat.le_refl _, Nat.le_refl _⟩ rfl (Nat.le_of_ble_eq_true rfl) dX8_ticksToHome_4 ?_
  obtain rfl := Option.some.inj hf
  exact j_iret C hr hk ⟨Nat.le_refl _, Nat.le_refl _⟩ rfl dX8_ticksToHome_7
set_option maxRecDepth 100000 in
set_option maxHeartbeats 4000000 in
theorem w_X8_fraction_69 {p : Program} {l : Launch} {e : Env} {s : State} {m : MethodId} {args : Array Value} {below : List Frame} {meth : Method} {c : Code} {G : GT} {A : Nat → Prop} {ad : Nat → Nat} (C : CX G A RX8 cX8_fraction 5 p s m args c) (hr : meth.sig.returnType = (some .double)) (hk : meth.locks = false) {b : MS} {rr : UInt64} (c6 : KS → Int32 → Int32 → Int32 → Option UInt64) (K6 : ∀ (a : KS) (v1 : Int32) (v2 : Int32) (v3 : Int32), c6 a v1 v2 v3 = some rr → J p l e (RM 1) s m args below meth c G A 5 (MQ below (QV (some (.double rr)) (PosW G ad a b A) A) args s 0 0 A) 0 0 ad a b 6 [(0, .ref (ad 0)), (1, .int v1), (2, .int v2), (3, .int v3)] []) (a : KS) (v1 : Int32) (v2 : Int32) (v3 : Int32) (hf : f_X8_fraction_69 c6 a v1 v2 v3 = some rr) : J p l e (RM 1) s m args below meth c G A 5 (MQ below (QV (some (.double rr)) (PosW G ad a b A) A) args s 0 0 A) 0 0 ad a b 69 [(0, .ref (ad 0)), (1, .int v1), (2, .int v2), (3, .int v3)] [] := by
  unfold f_X8_fraction_69 at hf
  refine j_iinc (v := v3 + 1) (lv' := [(3, .int (v3 + 1)), (0, .ref (ad 0)), (1, .int v1), (2, .int v2)]) C 3 rfl rfl (by decide) rfl dX8_fraction_69 ?_
  refine j_goto C 6 dX8_fraction_72 (by decide) ?_
  refine j_sub [1, 2, 3, 0] rfl ?_
  exact K6 a v1 v2 (v3 + 1) hf
set_option maxRecDepth 100000 in
set_option maxHeartbeats 4000000 in
theorem w_X8_fraction_6 {p : Program} {l : Launch} {e : Env} {s : State} {m : MethodId} {args : Array Value} {below : List Frame} {meth : Method} {c : Code} {G : GT} {A : Nat → Prop} {ad : Nat → Nat} (C : CX G A RX8 cX8_fraction 5 p s m args c) (hr : meth.sig.returnType = (some .double)) (hk : meth.locks = false) {b : MS} {rr : UInt64} (c6 : KS → Int32 → Int32 → Int32 → Option UInt64) (K6 : ∀ (a : KS) (v1 : Int32) (v2 : Int32) (v3 : Int32), c6 a v1 v2 v3 = some rr → J p l e (RM 1) s m args below meth c G A 5 (MQ below (QV (some (.double rr)) (PosW G ad a b A) A) args s 0 0 A) 0 0 ad a b 6 [(0, .ref (ad 0)), (1, .int v1), (2, .int v2), (3, .int v3)] []) (a : KS) (v1 : Int32) (v2 : Int32) (v3 : Int32) (hf : f_X8_fraction_6 c6 a v1 v2 v3 = some rr) : J p l e (RM 1) s m args below meth c G A 5 (MQ below (QV (some (.double rr)) (PosW G ad a b A) A) args s 0 0 A) 0 0 ad a b 6 [(0, .ref (ad 0)), (1, .int v1), (2, .int v2), (3, .int v3)] [] := by
  unfold f_X8_fraction_6 at hf
  refine j_iload_n C 3 rfl dX8_fraction_6 ?_
  refine j_aload_n C 0 rfl dX8_fraction_7 ?_
  refine j_get (q := 0) (kf := 0) (T := TX8) (N := 7) (RC := RX8) C m_0 ce_0 rfl in_X8 (by decide) (fun _ h9 => h9) fl_X8_10 rfl dX8_fraction_8 ?_
  refine j_get (q := 1) (kf := 2) (T := TX7) (N := 3) (RC := RX7) C m_1 ce_1 rfl in_X7 (by decide) (fun _ h9 => h9) fl_X8_107 rfl dX8_fraction_11 ?_
  refine j_icmp_ge C 75 dX8_fraction_14 (by decide) hf (fun y1 hf => ?_) (fun y1 hf => ?_)
  · refine j_iload_n C 2 rfl dX8_fraction_75 ?_
    refine j_if_le C 87 dX8_fraction_76 (by decide) hf (fun y2 hf => ?_) (fun y2 hf => ?_)
    · refine j_dconst0 C dX8_fraction_87 ?_
      obtain rfl := Option.some.inj hf
      exact j_dret C hr hk ⟨Nat.le_refl _, Nat.le_refl _⟩ rfl dX8_fraction_88
    · refine j_iload_n C 1 rfl dX8_fraction_79 ?_
      refine j_i2d C dX8_fraction_80 ?_
      refine j_iload_n C 2 rfl dX8_fraction_81 ?_
      refine j_i2d C dX8_fraction_82 ?_
      obtain ⟨h3, hf⟩ := gd_some hf
      refine j_ddiv C (nn64_of h3) dX8_fraction_83 ?_
      refine j_goto C 88 dX8_fraction_84 (by decide) ?_
      obtain rfl := Option.some.inj hf
      exact j_dret C hr hk ⟨Nat.le_refl _, Nat.le_refl _⟩ rfl dX8_fraction_88
  · refine j_aload_n C 0 rfl dX8_fraction_17 ?_
    refine j_get (q := 0) (kf := 0) (T := TX8) (N := 7) (RC := RX8) C m_0 ce_0 rfl in_X8 (by decide) (fun _ h9 => h9) fl_X8_10 rfl dX8_fraction_18 ?_
    refine j_iload_n C 3 rfl dX8_fraction_21 ?_
    obtain ⟨z4, h5, hf⟩ := bnd_some hf
    refine j_callV (q := 1) (As := [.int v3]) (rest := []) C (k_X7_find h5) cw_X7_find ml_X8_251 m_1 ce_1 rfl rfl ⟨Nat.le_of_ble_eq_true rfl, Nat.le_of_ble_eq_true rfl⟩ ⟨Nat.le_refl _, Nat.le_refl _⟩ rfl (Nat.le_of_ble_eq_true rfl) dX8_fraction_22 ?_
    refine j_astoreq (lv' := [(4, itv ad z4), (0, .ref (ad 0)), (1, .int v1), (2, .int v2), (3, .int v3)]) (o := z4) C dX8_fraction_25 (by decide) rfl ?_
    refine j_aloadq C 0 rfl dX8_fraction_27 ?_
    refine j_ifnull C 69 dX8_fraction_29 (by decide) hf (fun e8 hg => ?_) (fun i7 e8 hg => ?_)
    · clear hf
      subst e8
      have hf := hg
      clear hg
      refine j_sub [1, 2, 3, 4] rfl ?_
      exact w_X8_fraction_69 C hr hk c6 K6 a v1 v2 v3 hf
    · clear hf
      subst e8
      have hf := hg
      clear hg
      refine j_aload C 0 rfl dX8_fraction_32 ?_
      obtain ⟨h9, hf⟩ := gd_some hf
      have h9 := of_decide_eq_true h9
      refine j_get (q := (ip i7)) (kf := 1) (T := TX4) (N := 13) (RC := RX4) C (mem_ip h9) ce_item rfl in_X4 (by decide) (fun _ h9 => h9) fl_X8_110 rfl dX8_fraction_34 ?_
      refine j_iconst (v := 1) C (by decide) dX8_fraction_37 ?_
      refine j_icmp_ne C 69 dX8_fraction_38 (by decide) hf (fun y10 hf => ?_) (fun y10 hf => ?_)
      · refine j_sub [1, 2, 3, 4] rfl ?_
        exact w_X8_fraction_69 C hr hk c6 K6 a v1 v2 v3 hf
      · refine j_iload_n C 2 rfl dX8_fraction_41 ?_
        refine j_aload C 0 rfl dX8_fraction_42 ?_
        refine j_get (q := (ip i7)) (kf := 10) (T := TX4) (N := 13) (RC := RX4) C (mem_ip h9) ce_item rfl in_X4 (by decide) (fun _ h9 => h9) fl_X8_119 rfl dX8_fraction_44 ?_
        refine j_aload C 0 rfl dX8_fraction_47 ?_
        refine j_get (q := (ip i7)) (kf := 5) (T := TX4) (N := 13) (RC := RX4) C (mem_ip h9) ce_item rfl in_X4 (by decide) (fun _ h9 => h9) fl_X8_254 rfl dX8_fraction_49 ?_
        refine j_isub C dX8_fraction_52 ?_
        refine j_iadd C dX8_fraction_53 ?_
        refine j_letI hf (fun x11 hf => ?_)
        refine j_istore_n (i := 1) (lv' := [(1, .int x11), (4, .ref (ad (ip i7))), (0, .ref (ad 0)), (2, .int v2), (3, .int v3)]) C dX8_fraction_54 rfl (by decide) rfl ?_
        refine j_iload_n C 3 rfl dX8_fraction_55 ?_
        refine j_aload C 1 rfl dX8_fraction_56 ?_
        refine j_get (q := (ip i7)) (kf := 6) (T := TX4) (N := 13) (RC := RX4) C (mem_ip h9) ce_item rfl in_X4 (by decide) (fun _ h9 => h9) fl_X8_257 rfl dX8_fraction_58 ?_
        refine j_aload C 1 rfl dX8_fraction_61 ?_
        refine j_get (q := (ip i7)) (kf := 5) (T := TX4) (N := 13) (RC := RX4) C (mem_ip h9) ce_item rfl in_X4 (by decide) (fun _ h9 => h9) fl_X8_254 rfl dX8_fraction_63 ?_
        refine j_isub C dX8_fraction_66 ?_
        refine j_iadd C dX8_fraction_67 ?_
        refine j_letI hf (fun x12 hf => ?_)
        refine j_istore_n (i := 2) (lv' := [(2, .int x12), (1, .int x11), (4, .ref (ad (ip i7))), (0, .ref (ad 0)), (3, .int v3)]) C dX8_fraction_68 rfl (by decide) rfl ?_
        refine j_sub [3, 1, 0, 4] rfl ?_
        exact w_X8_fraction_69 C hr hk c6 K6 a x11 x12 v3 hf
theorem wl_X8_fraction_6 {p : Program} {l : Launch} {e : Env} {s : State} {m : MethodId} {args : Array Value} {below : List Frame} {meth : Method} {c : Code} {G : GT} {A : Nat → Prop} {ad : Nat → Nat} (C : CX G A RX8 cX8_fraction 5 p s m args c) (hr : meth.sig.returnType = (some .double)) (hk : meth.locks = false) {b : MS} {rr : UInt64} (fuel : Nat)   : ∀ (a : KS) (v1 : Int32) (v2 : Int32) (v3 : Int32), l_X8_fraction_6 fuel  a v1 v2 v3 = some rr → J p l e (RM 1) s m args below meth c G A 5 (MQ below (QV (some (.double rr)) (PosW G ad a b A) A) args s 0 0 A) 0 0 ad a b 6 [(0, .ref (ad 0)), (1, .int v1), (2, .int v2), (3, .int v3)] [] := by
  induction fuel with
  | zero => intro a v1 v2 v3 hf; cases hf
  | succ n ih =>
    intro a v1 v2 v3 hf
    have hf : f_X8_fraction_6 (l_X8_fraction_6 n ) a v1 v2 v3 = some rr := hf
    exact w_X8_fraction_6 C hr hk (l_X8_fraction_6 n ) ih a v1 v2 v3 hf
set_option maxRecDepth 100000 in
set_option maxHeartbeats 4000000 in
theorem k_X8_fraction {l : Launch} {G : GT} {ad : Nat → Nat} {a : KS} {b : MS} {rr : UInt64} (hf : f_X8_fraction a = some rr) : MT l G yX8_fraction cX8_fraction 5 (some .double) (RM 1) [.ref (ad 0)] ad a b (some (.double rr)) a b := by
  refine MT_of (by decide) (Nat.le_of_ble_eq_true rfl) ?_
  intro p e s m args below meth c A C hr hk
  unfold f_X8_fraction at hf
  refine j_iconst (v := 0) C (by decide) dX8_fraction_0 ?_
  refine j_istore_n (i := 1) (lv' := [(1, .int 0), (0, .ref (ad 0))]) C dX8_fraction_1 rfl (by decide) rfl ?_
  refine j_iconst (v := 0) C (by decide) dX8_fraction_2 ?_
  refine j_istore_n (i := 2) (lv' := [(2, .int 0), (1, .int 0), (0, .ref (ad 0))]) C dX8_fraction_3 rfl (by decide) rfl ?_
  refine j_iconst (v := 0) C (by decide) dX8_fraction_4 ?_
  refine j_istore_n (i := 3) (lv' := [(3, .int 0), (2, .int 0), (1, .int 0), (0, .ref (ad 0))]) C dX8_fraction_5 rfl (by decide) rfl ?_
  refine j_sub [3, 2, 1, 0] rfl ?_
  exact wl_X8_fraction_6 C hr hk FU a 0 0 0 hf
set_option maxRecDepth 100000 in
set_option maxHeartbeats 4000000 in
theorem k_X8_clearText {l : Launch} {G : GT} {ad : Nat → Nat} {a : KS} {b : MS} {rr : Int32 × KS} (hf : f_X8_clearText a = some rr) : MT l G yX8_clearText cX8_clearText 2 (some .int) (RM 1) [.ref (ad 0)] ad a b (some (.int rr.1)) rr.2 b := by
  refine MT_of (by decide) (Nat.le_of_ble_eq_true rfl) ?_
  intro p e s m args below meth c A C hr hk
  unfold f_X8_clearText at hf
  refine j_aload_n C 0 rfl dX8_clearText_0 ?_
  refine j_get (q := 0) (kf := 6) (T := TX8) (N := 7) (RC := RX8) C m_0 ce_0 rfl in_X8 (by decide) (fun _ h9 => h9) fl_X8_52 rfl dX8_clearText_1 ?_
  refine j_get (q := 16) (kf := 2) (T := TX1) (N := 4) (RC := RX1) C m_16 ce_16 rfl in_X1 (by decide) (fun _ h9 => h9) fl_X8_260 rfl dX8_clearText_4 ?_
  refine j_istore_n (i := 1) (lv' := [(1, .int (Khi a 16 2)), (0, .ref (ad 0))]) C dX8_clearText_7 rfl (by decide) rfl ?_
  refine j_aload_n C 1 rfl dX8_clearText_8 ?_
  refine j_get (q := 0) (kf := 6) (T := TX8) (N := 7) (RC := RX8) C m_0 ce_0 rfl in_X8 (by decide) (fun _ h9 => h9) fl_X8_52 rfl dX8_clearText_9 ?_
  obtain ⟨z1, h2, hf⟩ := bnd_some hf
  refine j_callV (q := 16) (As := []) (rest := []) C (k_X1_empty h2) cw_X1_empty ml_X8_269 m_16 ce_16 rfl rfl ⟨Nat.le_of_ble_eq_true rfl, Nat.le_of_ble_eq_true rfl⟩ ⟨Nat.le_refl _, Nat.le_refl _⟩ rfl (Nat.le_of_ble_eq_true rfl) dX8_clearText_12 ?_
  refine j_iload_n C 0 rfl dX8_clearText_15 ?_
  obtain rfl := Option.some.inj hf
  exact j_iret C hr hk ⟨Nat.le_refl _, Nat.le_refl _⟩ rfl dX8_clearText_16
set_option maxRecDepth 100000 in
set_option maxHeartbeats 4000000 in
theorem k_X8_firstError {l : Launch} {G : GT} {ad : Nat → Nat} {a : KS} {b : MS} {rr : Int32 × KS} (hf : f_X8_firstError a = some rr) : MT l G yX8_firstError cX8_firstError 1 (some .int) (RM 5) [.ref (ad 0)] ad a b (some (.int rr.1)) rr.2 b := by
  refine MT_of (by decide) (Nat.le_of_ble_eq_true rfl) ?_
  intro p e s m args below meth c A C hr hk
  unfold f_X8_firstError at hf
  refine j_aload_n C 0 rfl dX8_firstError_0 ?_
  refine j_get (q := 0) (kf := 6) (T := TX8) (N := 7) (RC := RX8) C m_0 ce_0 rfl in_X8 (by decide) (fun _ h9 => h9) fl_X8_52 rfl dX8_firstError_1 ?_
  obtain ⟨z1, h2, hf⟩ := bnd_some hf
  refine j_callV (q := 16) (As := []) (rest := []) C (k_X1_errorIndex h2) cw_X1_errorIndex ml_X8_272 m_16 ce_16 rfl rfl ⟨Nat.le_of_ble_eq_true rfl, Nat.le_of_ble_eq_true rfl⟩ ⟨Nat.le_refl _, Nat.le_refl _⟩ rfl (Nat.le_of_ble_eq_true rfl) dX8_firstError_4 ?_
  obtain rfl := Option.some.inj hf
  exact j_iret C hr hk ⟨Nat.le_refl _, Nat.le_refl _⟩ rfl dX8_firstError_7
set_option maxRecDepth 100000 in
set_option maxHeartbeats 4000000 in
theorem k_X8_mix {l : Launch} {G : GT} {ad : Nat → Nat} {a : KS} {v0 : Int64} {v2 : Int64} {b : MS} {rr : Int64} (hf : f_X8_mix a v0 v2 = some rr) : MT l G yX8_mix cX8_mix 4 (some .long) (RM 0) [.long v0, .long v2] ad a b (some (.long rr)) a b := by
  refine MT_of (by decide) (Nat.le_of_ble_eq_true rfl) ?_
  intro p e s m args below meth c A C hr hk
  unfold f_X8_mix at hf
  refine j_ldc2 C wk_X8_347 dX8_mix_0 ?_
  refine j_lload_n C 0 rfl dX8_mix_3 ?_
  refine j_lmul C dX8_mix_4 ?_
  refine j_lload_n C 1 rfl dX8_mix_5 ?_
  refine j_ladd C dX8_mix_6 ?_
  obtain rfl := Option.some.inj hf
  exact j_lret C hr hk ⟨Nat.le_refl _, Nat.le_refl _⟩ rfl dX8_mix_7
set_option maxRecDepth 100000 in
set_option maxHeartbeats 4000000 in
theorem k_X8_mixPosition {l : Launch} {G : GT} {ad : Nat → Nat} {a : KS} {v1 : Int64} {b : MS} {rr : Int64} (hf : f_X8_mixPosition a v1 = some rr) : MT l G yX8_mixPosition cX8_mixPosition 5 (some .long) (RM 6) [.ref (ad 0), .long v1] ad a b (some (.long rr)) a b := by
  refine MT_of (by decide) (Nat.le_of_ble_eq_true rfl) ?_
  intro p e s m args below meth c A C hr hk
  unfold f_X8_mixPosition at hf
  refine j_lload_n C 1 rfl dX8_mixPosition_0 ?_
  refine j_aload_n C 0 rfl dX8_mixPosition_1 ?_
  obtain ⟨z1, h2, hf⟩ := bnd_some hf
  refine j_callV (q := 0) (As := []) (rest := [.long v1]) C (k_X8_items h2) cw_X8_items ml_X8_349 m_0 ce_0 rfl rfl ⟨Nat.le_of_ble_eq_true rfl, Nat.le_of_ble_eq_true rfl⟩ ⟨Nat.le_refl _, Nat.le_refl _⟩ rfl (Nat.le_of_ble_eq_true rfl) dX8_mixPosition_2 ?_
  refine j_i2l C dX8_mixPosition_5 ?_
  obtain ⟨z3, h4, hf⟩ := bnd_some hf
  refine j_callS (As := [.long v1, .long z1.toInt64]) (rest := []) C (k_X8_mix h4) cw_X8_mix ml_X8_306 rfl ⟨Nat.le_of_ble_eq_true rfl, Nat.le_of_ble_eq_true rfl⟩ ⟨Nat.le_refl _, Nat.le_refl _⟩ rfl (Nat.le_of_ble_eq_true rfl) dX8_mixPosition_6 ?_
  refine j_lstore_n (i := 3) (lv' := [(3, .long z3), (0, .ref (ad 0)), (1, .long v1)]) C dX8_mixPosition_9 rfl (by decide) rfl ?_
  refine j_lload_n C 0 rfl dX8_mixPosition_10 ?_
  refine j_aload_n C 1 rfl dX8_mixPosition_11 ?_
  obtain ⟨z5, h6, hf⟩ := bnd_some hf
  refine j_callV (q := 0) (As := []) (rest := [.long z3]) C (k_X8_mode h6) cw_X8_mode ml_X8_352 m_0 ce_0 rfl rfl ⟨Nat.le_of_ble_eq_true rfl, Nat.le_of_ble_eq_true rfl⟩ ⟨Nat.le_refl _, Nat.le_refl _⟩ rfl (Nat.le_of_ble_eq_true rfl) dX8_mixPosition_12 ?_
  refine j_i2l C dX8_mixPosition_15 ?_
  obtain ⟨z7, h8, hf⟩ := bnd_some hf
  refine j_callS (As := [.long z3, .long z5.toInt64]) (rest := []) C (k_X8_mix h8) cw_X8_mix ml_X8_306 rfl ⟨Nat.le_of_ble_eq_true rfl, Nat.le_of_ble_eq_true rfl⟩ ⟨Nat.le_refl _, Nat.le_refl _⟩ rfl (Nat.le_of_ble_eq_true rfl) dX8_mixPosition_16 ?_
  refine j_lstore_n (i := 3) (lv' := [(3, .long z7), (0, .ref (ad 0)), (1, .long v1)]) C dX8_mixPosition_19 rfl (by decide) rfl ?_
  refine j_lload_n C 0 rfl dX8_mixPosition_20 ?_
  refine j_aload_n C 1 rfl dX8_mixPosition_21 ?_
  obtain ⟨z9, h10, hf⟩ := bnd_some hf
  refine j_callV (q := 0) (As := []) (rest := [.long z7]) C (k_X8_shown h10) cw_X8_shown ml_X8_354 m_0 ce_0 rfl rfl ⟨Nat.le_of_ble_eq_true rfl, Nat.le_of_ble_eq_true rfl⟩ ⟨Nat.le_refl _, Nat.le_refl _⟩ rfl (Nat.le_of_ble_eq_true rfl) dX8_mixPosition_22 ?_
  refine j_i2l C dX8_mixPosition_25 ?_
  obtain ⟨z11, h12, hf⟩ := bnd_some hf
  refine j_callS (As := [.long z7, .long z9.toInt64]) (rest := []) C (k_X8_mix h12) cw_X8_mix ml_X8_306 rfl ⟨Nat.le_of_ble_eq_true rfl, Nat.le_of_ble_eq_true rfl⟩ ⟨Nat.le_refl _, Nat.le_refl _⟩ rfl (Nat.le_of_ble_eq_true rfl) dX8_mixPosition_26 ?_
  refine j_lstore_n (i := 3) (lv' := [(3, .long z11), (0, .ref (ad 0)), (1, .long v1)]) C dX8_mixPosition_29 rfl (by decide) rfl ?_
  refine j_lload_n C 0 rfl dX8_mixPosition_30 ?_
  refine j_aload_n C 1 rfl dX8_mixPosition_31 ?_
  obtain ⟨z13, h14, hf⟩ := bnd_some hf
  refine j_callV (q := 0) (As := []) (rest := [.long z11]) C (k_X8_cursor h14) cw_X8_cursor ml_X8_356 m_0 ce_0 rfl rfl ⟨Nat.le_of_ble_eq_true rfl, Nat.le_of_ble_eq_true rfl⟩ ⟨Nat.le_refl _, Nat.le_refl _⟩ rfl (Nat.le_of_ble_eq_true rfl) dX8_mixPosition_32 ?_
  refine j_i2l C dX8_mixPosition_35 ?_
  obtain ⟨z15, h16, hf⟩ := bnd_some hf
  refine j_callS (As := [.long z11, .long z13.toInt64]) (rest := []) C (k_X8_mix h16) cw_X8_mix ml_X8_306 rfl ⟨Nat.le_of_ble_eq_true rfl, Nat.le_of_ble_eq_true rfl⟩ ⟨Nat.le_refl _, Nat.le_refl _⟩ rfl (Nat.le_of_ble_eq_true rfl) dX8_mixPosition_36 ?_
  refine j_lstore_n (i := 3) (lv' := [(3, .long z15), (0, .ref (ad 0)), (1, .long v1)]) C dX8_mixPosition_39 rfl (by decide) rfl ?_
  refine j_lload_n C 0 rfl dX8_mixPosition_40 ?_
  refine j_aload_n C 1 rfl dX8_mixPosition_41 ?_
  obtain ⟨z17, h18, hf⟩ := bnd_some hf
  refine j_callV (q := 0) (As := []) (rest := [.long z15]) C (k_X8_chosen h18) cw_X8_chosen ml_X8_358 m_0 ce_0 rfl rfl ⟨Nat.le_of_ble_eq_true rfl, Nat.le_of_ble_eq_true rfl⟩ ⟨Nat.le_refl _, Nat.le_refl _⟩ rfl (Nat.le_of_ble_eq_true rfl) dX8_mixPosition_42 ?_
  refine j_i2l C dX8_mixPosition_45 ?_
  obtain ⟨z19, h20, hf⟩ := bnd_some hf
  refine j_callS (As := [.long z15, .long z17.toInt64]) (rest := []) C (k_X8_mix h20) cw_X8_mix ml_X8_306 rfl ⟨Nat.le_of_ble_eq_true rfl, Nat.le_of_ble_eq_true rfl⟩ ⟨Nat.le_refl _, Nat.le_refl _⟩ rfl (Nat.le_of_ble_eq_true rfl) dX8_mixPosition_46 ?_
  refine j_lstore_n (i := 3) (lv' := [(3, .long z19), (0, .ref (ad 0)), (1, .long v1)]) C dX8_mixPosition_49 rfl (by decide) rfl ?_
  refine j_lload_n C 0 rfl dX8_mixPosition_50 ?_
  refine j_aload_n C 1 rfl dX8_mixPosition_51 ?_
  obtain ⟨z21, h22, hf⟩ := bnd_some hf
  refine j_callV (q := 0) (As := []) (rest := [.long z19]) C (k_X8_draft h22) cw_X8_draft ml_X8_361 m_0 ce_0 rfl rfl ⟨Nat.le_of_ble_eq_true rfl, Nat.le_of_ble_eq_true rfl⟩ ⟨Nat.le_refl _, Nat.le_refl _⟩ rfl (Nat.le_of_ble_eq_true rfl) dX8_mixPosition_52 ?_
  refine j_i2l C dX8_mixPosition_55 ?_
  obtain ⟨z23, h24, hf⟩ := bnd_some hf
  refine j_callS (As := [.long z19, .long z21.toInt64]) (rest := []) C (k_X8_mix h24) cw_X8_mix ml_X8_306 rfl ⟨Nat.le_of_ble_eq_true rfl, Nat.le_of_ble_eq_true rfl⟩ ⟨Nat.le_refl _, Nat.le_refl _⟩ rfl (Nat.le_of_ble_eq_true rfl) dX8_mixPosition_56 ?_
  refine j_lstore_n (i := 3) (lv' := [(3, .long z23), (0, .ref (ad 0)), (1, .long v1)]) C dX8_mixPosition_59 rfl (by decide) rfl ?_
  refine j_lload_n C 0 rfl dX8_mixPosition_60 ?_
  refine j_aload_n C 1 rfl dX8_mixPosition_61 ?_
  obtain ⟨z25, h26, hf⟩ := bnd_some hf
  refine j_callV (q := 0) (As := []) (rest := [.long z23]) C (k_X8_idle h26) cw_X8_idle ml_X8_363 m_0 ce_0 rfl rfl ⟨Nat.le_of_ble_eq_true rfl, Nat.le_of_ble_eq_true rfl⟩ ⟨Nat.le_refl _, Nat.le_refl _⟩ rfl (Nat.le_of_ble_eq_true rfl) dX8_mixPosition_62 ?_
  refine j_i2l C dX8_mixPosition_65 ?_
  obtain ⟨z27, h28, hf⟩ := bnd_some hf
  refine j_callS (As := [.long z23, .long z25.toInt64]) (rest := []) C (k_X8_mix h28) cw_X8_mix ml_X8_306 rfl ⟨Nat.le_of_ble_eq_true rfl, Nat.le_of_ble_eq_true rfl⟩ ⟨Nat.le_refl _, Nat.le_refl _⟩ rfl (Nat.le_of_ble_eq_true rfl) dX8_mixPosition_66 ?_
  refine j_lstore_n (i := 3) (lv' := [(3, .long z27), (0, .ref (ad 0)), (1, .long v1)]) C dX8_mixPosition_69 rfl (by decide) rfl ?_
  refine j_lload_n C 0 rfl dX8_mixPosition_70 ?_
  refine j_aload_n C 1 rfl dX8_mixPosition_71 ?_
  obtain ⟨z29, h30, hf⟩ := bnd_some hf
  refine j_callV (q := 0) (As := []) (rest := [.long z27]) C (k_X8_barred h30) cw_X8_barred ml_X8_365 m_0 ce_0 rfl rfl ⟨Nat.le_of_ble_eq_true rfl, Nat.le_of_ble_eq_true rfl⟩ ⟨Nat.le_refl _, Nat.le_refl _⟩ rfl (Nat.le_of_ble_eq_true rfl) dX8_mixPosition_72 ?_
  refine j_i2l C dX8_mixPosition_75 ?_
  obtain ⟨z31, h32, hf⟩ := bnd_some hf
  refine j_callS (As := [.long z27, .long z29.toInt64]) (rest := []) C (k_X8_mix h32) cw_X8_mix ml_X8_306 rfl ⟨Nat.le_of_ble_eq_true rfl, Nat.le_of_ble_eq_true rfl⟩ ⟨Nat.le_refl _, Nat.le_refl _⟩ rfl (Nat.le_of_ble_eq_true rfl) dX8_mixPosition_76 ?_
  refine j_lstore_n (i := 3) (lv' := [(3, .long z31), (0, .ref (ad 0)), (1, .long v1)]) C dX8_mixPosition_79 rfl (by decide) rfl ?_
  refine j_lload_n C 0 rfl dX8_mixPosition_80 ?_
  refine j_aload_n C 1 rfl dX8_mixPosition_81 ?_
  obtain ⟨z33, h34, hf⟩ := bnd_some hf
  refine j_callV (q := 0) (As := []) (rest := [.long z31]) C (k_X8_logged h34) cw_X8_logged ml_X8_368 m_0 ce_0 rfl rfl ⟨Nat.le_of_ble_eq_true rfl, Nat.le_of_ble_eq_true rfl⟩ ⟨Nat.le_refl _, Nat.le_refl _⟩ rfl (Nat.le_of_ble_eq_true rfl) dX8_mixPosition_82 ?_
  refine j_i2l C dX8_mixPosition_85 ?_
  obtain ⟨z35, h36, hf⟩ := bnd_some hf
  refine j_callS (As := [.long z31, .long z33.toInt64]) (rest := []) C (k_X8_mix h36) cw_X8_mix ml_X8_306 rfl ⟨Nat.le_of_ble_eq_true rfl, Nat.le_of_ble_eq_true rfl⟩ ⟨Nat.le_refl _, Nat.le_refl _⟩ rfl (Nat.le_of_ble_eq_true rfl) dX8_mixPosition_86 ?_
  refine j_lstore_n (i := 3) (lv' := [(3, .long z35), (0, .ref (ad 0)), (1, .long v1)]) C dX8_mixPosition_89 rfl (by decide) rfl ?_
  refine j_lload_n C 0 rfl dX8_mixPosition_90 ?_
  refine j_aload_n C 1 rfl dX8_mixPosition_91 ?_
  obtain ⟨z37, h38, hf⟩ := bnd_some hf
  refine j_callV (q := 0) (As := []) (rest := [.long z35]) C (k_X8_ticksToHome h38) cw_X8_ticksToHome ml_X8_371 m_0 ce_0 rfl rfl ⟨Nat.le_of_ble_eq_true rfl, Nat.le_of_ble_eq_true rfl⟩ ⟨Nat.le_refl _, Nat.le_refl _⟩ rfl (Nat.le_of_ble_eq_true rfl) dX8_mixPosition_92 ?_
  refine j_i2l C dX8_mixPosition_95 ?_
  obtain ⟨z39, h40, hf⟩ := bnd_some hf
  refine j_callS (As := [.long z35, .long z37.toInt64]) (rest := []) C (k_X8_mix h40) cw_X8_mix ml_X8_306 rfl ⟨Nat.le_of_ble_eq_true rfl, Nat.le_of_ble_eq_true rfl⟩ ⟨Nat.le_refl _, Nat.le_refl _⟩ rfl (Nat.le_of_ble_eq_true rfl) dX8_mixPosition_96 ?_
  obtain rfl := Option.some.inj hf
  exact j_lret C hr hk ⟨Nat.le_refl _, Nat.le_refl _⟩ rfl dX8_mixPosition_99
set_option maxRecDepth 100000 in
set_option maxHeartbeats 4000000 in
theorem w_X8_mixItems_87 {p : Program} {l : Launch} {e : Env} {s : State} {m : MethodId} {args : Array Value} {below : List Frame} {meth : Method} {c : Code} {G : GT} {A : Nat → Prop} {ad : Nat → Nat} (C : CX G A RX8 cX8_mixItems 7 p s m args c) (hr : meth.sig.returnType = (some .long)) (hk : meth.locks = false) {b : MS} {rr : Int64} (c5 : KS → Int64 → Int32 → Option Int64) (K5 : ∀ (a : KS) (v3 : Int64) (v5 : Int32), c5 a v3 v5 = some rr → J p l e (RM 2) s m args below meth c G A 7 (MQ below (QV (some (.long rr)) (PosW G ad a b A) A) args s 0 0 A) 0 0 ad a b 5 [(0, .ref (ad 0)), (3, .long v3), (5, .int v5)] []) (a : KS) (v3 : Int64) (v5 : Int32) (hf : f_X8_mixItems_87 c5 a v3 v5 = some rr) : J p l e (RM 2) s m args below meth c G A 7 (MQ below (QV (some (.long rr)) (PosW G ad a b A) A) args s 0 0 A) 0 0 ad a b 87 [(0, .ref (ad 0)), (3, .long v3), (5, .int v5)] [] := by
  unfold f_X8_mixItems_87 at hf
  refine j_iinc (v := v5 + 1) (lv' := [(5, .int (v5 + 1)), (0, .ref (ad 0)), (3, .long v3)]) C 2 rfl rfl (by decide) rfl dX8_mixItems_87 ?_
  refine j_goto C 5 dX8_mixItems_90 (by decide) ?_
  refine j_sub [1, 2, 0] rfl ?_
  exact K5 a v3 (v5 + 1) hf
set_option maxRecDepth 100000 in
set_option maxHeartbeats 4000000 in
theorem w_X8_mixItems_72 {p : Program} {l : Launch} {e : Env} {s : State} {m : MethodId} {args : Array Value} {below : List Frame} {meth : Method} {c : Code} {G : GT} {A : Nat → Prop} {ad : Nat → Nat} (C : CX G A RX8 cX8_mixItems 7 p s m args c) (hr : meth.sig.returnType = (some .long)) (hk : meth.locks = false) {b : MS} {rr : Int64} (c5 : KS → Int64 → Int32 → Option Int64) (K5 : ∀ (a : KS) (v3 : Int64) (v5 : Int32), c5 a v3 v5 = some rr → J p l e (RM 2) s m args below meth c G A 7 (MQ below (QV (some (.long rr)) (PosW G ad a b A) A) args s 0 0 A) 0 0 ad a b 5 [(0, .ref (ad 0)), (3, .long v3), (5, .int v5)] []) (a : KS) (v5 : Int32) (v6 : Nat) (s0 : Int64) (s1 : Int64) (hf : f_X8_mixItems_72 c5 a v5 v6 s0 s1 = some rr) : J p l e (RM 2) s m args below meth c G A 7 (MQ below (QV (some (.long rr)) (PosW G ad a b A) A) args s 0 0 A) 0 0 ad a b 72 [(0, .ref (ad 0)), (5, .int v5), (6, .ref (ad (ip v6)))] [.long s1, .long s0] := by
  unfold f_X8_mixItems_72 at hf
  obtain ⟨z1, h2, hf⟩ := bnd_some hf
  refine j_callS (As := [.long s0, .long s1]) (rest := []) C (k_X8_mix h2) cw_X8_mix ml_X8_306 rfl ⟨Nat.le_of_ble_eq_true rfl, Nat.le_of_ble_eq_true rfl⟩ ⟨Nat.le_refl _, Nat.le_refl _⟩ rfl (Nat.le_of_ble_eq_true rfl) dX8_mixItems_72 ?_
  refine j_lstore_n (i := 3) (lv' := [(3, .long z1), (0, .ref (ad 0)), (5, .int v5), (6, .ref (ad (ip v6)))]) C dX8_mixItems_75 rfl (by decide) rfl ?_
  refine j_lload_n C 0 rfl dX8_mixItems_76 ?_
  refine j_aload C 3 rfl dX8_mixItems_77 ?_
  obtain ⟨h3, hf⟩ := gd_some hf
  have h3 := of_decide_eq_true h3
  refine j_get (q := (ip v6)) (kf := 10) (T := TX4) (N := 13) (RC := RX4) C (mem_ip h3) ce_item rfl in_X4 (by decide) (fun _ h9 => h9) fl_X8_119 rfl dX8_mixItems_79 ?_
  refine j_i2l C dX8_mixItems_82 ?_
  obtain ⟨z4, h5, hf⟩ := bnd_some hf
  refine j_callS (As := [.long z1, .long ((Kit a v6 10).toInt64)]) (rest := []) C (k_X8_mix h5) cw_X8_mix ml_X8_306 rfl ⟨Nat.le_of_ble_eq_true rfl, Nat.le_of_ble_eq_true rfl⟩ ⟨Nat.le_refl _, Nat.le_refl _⟩ rfl (Nat.le_of_ble_eq_true rfl) dX8_mixItems_83 ?_
  refine j_lstore_n (i := 3) (lv' := [(3, .long z4), (0, .ref (ad 0)), (5, .int v5), (6, .ref (ad (ip v6)))]) C dX8_mixItems_86 rfl (by decide) rfl ?_
  refine j_sub [1, 0, 2] rfl ?_
  exact w_X8_mixItems_87 C hr hk c5 K5 a z4 v5 hf
set_option maxRecDepth 100000 in
set_option maxHeartbeats 4000000 in
theorem w_X8_mixItems_5 {p : Program} {l : Launch} {e : Env} {s : State} {m : MethodId} {args : Array Value} {below : List Frame} {meth : Method} {c : Code} {G : GT} {A : Nat → Prop} {ad : Nat → Nat} (C : CX G A RX8 cX8_mixItems 7 p s m args c) (hr : meth.sig.returnType = (some .long)) (hk : meth.locks = false) {b : MS} {rr : Int64} (c5 : KS → Int64 → Int32 → Option Int64) (K5 : ∀ (a : KS) (v3 : Int64) (v5 : Int32), c5 a v3 v5 = some rr → J p l e (RM 2) s m args below meth c G A 7 (MQ below (QV (some (.long rr)) (PosW G ad a b A) A) args s 0 0 A) 0 0 ad a b 5 [(0, .ref (ad 0)), (3, .long v3), (5, .int v5)] []) (a : KS) (v3 : Int64) (v5 : Int32) (hf : f_X8_mixItems_5 c5 a v3 v5 = some rr) : J p l e (RM 2) s m args below meth c G A 7 (MQ below (QV (some (.long rr)) (PosW G ad a b A) A) args s 0 0 A) 0 0 ad a b 5 [(0, .ref (ad 0)), (3, .long v3), (5, .int v5)] [] := by
  unfold f_X8_mixItems_5 at hf
  refine j_iload C 2 rfl dX8_mixItems_5 ?_
  refine j_aload_n C 0 rfl dX8_mixItems_7 ?_
  refine j_get (q := 0) (kf := 0) (T := TX8) (N := 7) (RC := RX8) C m_0 ce_0 rfl in_X8 (by decide) (fun _ h9 => h9) fl_X8_10 rfl dX8_mixItems_8 ?_
  refine j_get (q := 1) (kf := 2) (T := TX7) (N := 3) (RC := RX7) C m_1 ce_1 rfl in_X7 (by decide) (fun _ h9 => h9) fl_X8_107 rfl dX8_mixItems_11 ?_
  refine j_icmp_ge C 93 dX8_mixItems_14 (by decide) hf (fun y1 hf => ?_) (fun y1 hf => ?_)
  · refine j_lload_n C 1 rfl dX8_mixItems_93 ?_
    obtain rfl := Option.some.inj hf
    exact j_lret C hr hk ⟨Nat.le_refl _, Nat.le_refl _⟩ rfl dX8_mixItems_94
  · refine j_aload_n C 0 rfl dX8_mixItems_17 ?_
    refine j_get (q := 0) (kf := 0) (T := TX8) (N := 7) (RC := RX8) C m_0 ce_0 rfl in_X8 (by decide) (fun _ h9 => h9) fl_X8_10 rfl dX8_mixItems_18 ?_
    refine j_iload C 2 rfl dX8_mixItems_21 ?_
    obtain ⟨z2, h3, hf⟩ := bnd_some hf
    refine j_callV (q := 1) (As := [.int v5]) (rest := []) C (k_X7_find h3) cw_X7_find ml_X8_251 m_1 ce_1 rfl rfl ⟨Nat.le_of_ble_eq_true rfl, Nat.le_of_ble_eq_true rfl⟩ ⟨Nat.le_refl _, Nat.le_refl _⟩ rfl (Nat.le_of_ble_eq_true rfl) dX8_mixItems_23 ?_
    refine j_astoreq (lv' := [(6, itv ad z2), (0, .ref (ad 0)), (3, .long v3), (5, .int v5)]) (o := z2) C dX8_mixItems_26 (by decide) rfl ?_
    refine j_aloadq C 0 rfl dX8_mixItems_28 ?_
    refine j_ifnull C 87 dX8_mixItems_30 (by decide) hf (fun e6 hg => ?_) (fun i5 e6 hg => ?_)
    · clear hf
      subst e6
      have hf := hg
      clear hg
      refine j_sub [1, 2, 3] rfl ?_
      exact w_X8_mixItems_87 C hr hk c5 K5 a v3 v5 hf
    · clear hf
      subst e6
      have hf := hg
      clear hg
      refine j_lload_n C 2 rfl dX8_mixItems_33 ?_
      refine j_aload C 0 rfl dX8_mixItems_34 ?_
      obtain ⟨h7, hf⟩ := gd_some hf
      have h7 := of_decide_eq_true h7
      refine j_get (q := (ip i5)) (kf := 1) (T := TX4) (N := 13) (RC := RX4) C (mem_ip h7) ce_item rfl in_X4 (by decide) (fun _ h9 => h9) fl_X8_110 rfl dX8_mixItems_36 ?_
      refine j_i2l C dX8_mixItems_39 ?_
      obtain ⟨z8, h9, hf⟩ := bnd_some hf
      refine j_callS (As := [.long v3, .long ((Kit a i5 1).toInt64)]) (rest := []) C (k_X8_mix h9) cw_X8_mix ml_X8_306 rfl ⟨Nat.le_of_ble_eq_true rfl, Nat.le_of_ble_eq_true rfl⟩ ⟨Nat.le_refl _, Nat.le_refl _⟩ rfl (Nat.le_of_ble_eq_true rfl) dX8_mixItems_40 ?_
      refine j_lstore_n (i := 3) (lv' := [(3, .long z8), (6, .ref (ad (ip i5))), (0, .ref (ad 0)), (5, .int v5)]) C dX8_mixItems_43 rfl (by decide) rfl ?_
      refine j_lload_n C 0 rfl dX8_mixItems_44 ?_
      refine j_aload C 1 rfl dX8_mixItems_45 ?_
      refine j_get (q := (ip i5)) (kf := 2) (T := TX4) (N := 13) (RC := RX4) C (mem_ip h7) ce_item rfl in_X4 (by decide) (fun _ h9 => h9) fl_X8_89 rfl dX8_mixItems_47 ?_
      refine j_letO hf (fun o10 hf => ?_)
      obtain ⟨z11, h12, hf⟩ := bnd_some hf
      refine j_callS (As := [itv ad o10]) (rest := [.long z8]) C (k_X8_numberOf h12) cw_X8_numberOf ml_X8_113 rfl ⟨Nat.le_of_ble_eq_true rfl, Nat.le_of_ble_eq_true rfl⟩ ⟨Nat.le_refl _, Nat.le_refl _⟩ rfl (Nat.le_of_ble_eq_true rfl) dX8_mixItems_50 ?_
      refine j_i2l C dX8_mixItems_53 ?_
      obtain ⟨z13, h14, hf⟩ := bnd_some hf
      refine j_callS (As := [.long z8, .long z11.toInt64]) (rest := []) C (k_X8_mix h14) cw_X8_mix ml_X8_306 rfl ⟨Nat.le_of_ble_eq_true rfl, Nat.le_of_ble_eq_true rfl⟩ ⟨Nat.le_refl _, Nat.le_refl _⟩ rfl (Nat.le_of_ble_eq_true rfl) dX8_mixItems_54 ?_
      refine j_lstore_n (i := 3) (lv' := [(3, .long z13), (6, .ref (ad (ip i5))), (0, .ref (ad 0)), (5, .int v5)]) C dX8_mixItems_57 rfl (by decide) rfl ?_
      refine j_lload_n C 0 rfl dX8_mixItems_58 ?_
      refine j_aload C 1 rfl dX8_mixItems_59 ?_
      obtain ⟨z15, h16, hf⟩ := bnd_some hf
      refine j_callV (q := (ip i5)) (As := []) (rest := [.long z13]) C (k_X4_closed h16) cw_X4_closed ml_X8_122 (mem_ip h7) ce_item rfl rfl ⟨Nat.le_of_ble_eq_true rfl, Nat.le_of_ble_eq_true rfl⟩ ⟨Nat.le_refl _, Nat.le_refl _⟩ rfl (Nat.le_of_ble_eq_true rfl) dX8_mixItems_61 ?_
      refine j_if_eq C 71 dX8_mixItems_64 (by decide) hf (fun y17 hf => ?_) (fun y17 hf => ?_)
      · refine j_lconst (v := 0) C (by decide) dX8_mixItems_71 ?_
        refine j_sub [2, 3, 1] rfl ?_
        exact w_X8_mixItems_72 C hr hk c5 K5 a v5 i5 z13 0 hf
      · refine j_lconst (v := 1) C (by decide) dX8_mixItems_67 ?_
        refine j_goto C 72 dX8_mixItems_68 (by decide) ?_
        refine j_sub [2, 3, 1] rfl ?_
        exact w_X8_mixItems_72 C hr hk c5 K5 a v5 i5 z13 1 hf
theorem wl_X8_mixItems_5 {p : Program} {l : Launch} {e : Env} {s : State} {m : MethodId} {args : Array Value} {below : List Frame} {meth : Method} {c : Code} {G : GT} {A : Nat → Prop} {ad : Nat → Nat} (C : CX G A RX8 cX8_mixItems 7 p s m args c) (hr : meth.sig.returnType = (some .long)) (hk : meth.locks = false) {b : MS} {rr : Int64} (fuel : Nat)   : ∀ (a : KS) (v3 : Int64) (v5 : Int32), l_X8_mixItems_5 fuel  a v3 v5 = some rr → J p l e (RM 2) s m args below meth c G A 7 (MQ below (QV (some (.long rr)) (PosW G ad a b A) A) args s 0 0 A) 0 0 ad a b 5 [(0, .ref (ad 0)), (3, .long v3), (5, .int v5)] [] := by
  induction fuel with
  | zero => intro a v3 v5 hf; cases hf
  | succ n ih =>
    intro a v3 v5 hf
    have hf : f_X8_mixItems_5 (l_X8_mixItems_5 n ) a v3 v5 = some rr := hf
    exact w_X8_mixItems_5 C hr hk (l_X8_mixItems_5 n ) ih a v3 v5 hf
set_option maxRecDepth 100000 in
set_option maxHeartbeats 4000000 in
theorem k_X8_mixItems {l : Launch} {G : GT} {ad : Nat → Nat} {a : KS} {v1 : Int64} {b : MS} {rr : Int64} (hf : f_X8_mixItems a v1 = some rr) : MT l G yX8_mixItems cX8_mixItems 7 (some .long) (RM 2) [.ref (ad 0), .long v1] ad a b (some (.long rr)) a b := by
  refine MT_of (by decide) (Nat.le_of_ble_eq_true rfl) ?_
  intro p e s m args below meth c A C hr hk
  unfold f_X8_mixItems at hf
  refine j_lload_n C 1 rfl dX8_mixItems_0 ?_
  refine j_lstore_n (i := 3) (lv' := [(3, .long v1), (0, .ref (ad 0)), (1, .long v1)]) C dX8_mixItems_1 rfl (by decide) rfl ?_
  refine j_iconst (v := 0) C (by decide) dX8_mixItems_2 ?_
  refine j_istore (lv' := [(5, .int 0), (3, .long v1), (0, .ref (ad 0)), (1, .long v1)]) C dX8_mixItems_3 (by decide) rfl ?_
  refine j_sub [2, 1, 0] rfl ?_
  exact wl_X8_mixItems_5 C hr hk FU a v1 0 hf
set_option maxRecDepth 100000 in
set_option maxHeartbeats 4000000 in
theorem w_X8_mixScreen_14 {p : Program} {l : Launch} {e : Env} {s : State} {m : MethodId} {args : Array Value} {below : List Frame} {meth : Method} {c : Code} {G : GT} {A : Nat → Prop} {ad : Nat → Nat} (C : CX G A RX8 cX8_mixScreen 7 p s m args c) (hr : meth.sig.returnType = (some .long)) (hk : meth.locks = false) {b : MS} {rr : Int64} (c5 : KS → Int64 → Int32 → Option Int64) (c14 : KS → Int64 → Int32 → Int32 → Option Int64) (K5 : ∀ (a : KS) (v3 : Int64) (v5 : Int32), c5 a v3 v5 = some rr → J p l e (RM 1) s m args below meth c G A 7 (MQ below (QV (some (.long rr)) (PosW G ad a b A) A) args s 0 0 A) 0 0 ad a b 5 [(0, .ref (ad 0)), (3, .long v3), (5, .int v5)] []) (K14 : ∀ (a : KS) (v3 : Int64) (v5 : Int32) (v6 : Int32), c14 a v3 v5 v6 = some rr → J p l e (RM 1) s m args below meth c G A 7 (MQ below (QV (some (.long rr)) (PosW G ad a b A) A) args s 0 0 A) 0 0 ad a b 14 [(0, .ref (ad 0)), (3, .long v3), (5, .int v5), (6, .int v6)] []) (a : KS) (v3 : Int64) (v5 : Int32) (v6 : Int32) (hf : f_X8_mixScreen_14 c5 c14 a v3 v5 v6 = some rr) : J p l e (RM 1) s m args below meth c G A 7 (MQ below (QV (some (.long rr)) (PosW G ad a b A) A) args s 0 0 A) 0 0 ad a b 14 [(0, .ref (ad 0)), (3, .long v3), (5, .int v5), (6, .int v6)] [] := by
  unfold f_X8_mixScreen_14 at hf
  refine j_iload C 3 rfl dX8_mixScreen_14 ?_
  refine j_bipush (v := 16) C (by decide) dX8_mixScreen_16 ?_
  refine j_icmp_ge C 44 dX8_mixScreen_18 (by decide) hf (fun y1 hf => ?_) (fun y1 hf => ?_)
  · refine j_iinc (v := v5 + 1) (lv' := [(5, .int (v5 + 1)), (0, .ref (ad 0)), (3, .long v3), (6, .int v6)]) C 2 rfl rfl (by decide) rfl dX8_mixScreen_44 ?_
    refine j_goto C 5 dX8_mixScreen_47 (by decide) ?_
    refine j_sub [1, 2, 0] rfl ?_
    exact K5 a v3 (v5 + 1) hf
  · refine j_lload_n C 1 rfl dX8_mixScreen_21 ?_
    refine j_aload_n C 0 rfl dX8_mixScreen_22 ?_
    refine j_get (q := 0) (kf := 5) (T := TX8) (N := 7) (RC := RX8) C m_0 ce_0 rfl in_X8 (by decide) (fun _ h9 => h9) fl_X8_45 rfl dX8_mixScreen_23 ?_
    refine j_iload C 2 rfl dX8_mixScreen_26 ?_
    refine j_iload C 3 rfl dX8_mixScreen_28 ?_
    obtain ⟨z2, h3, hf⟩ := bnd_some hf
    refine j_callV (q := 14) (As := [.int v5, .int v6]) (rest := [.long v3]) C (k_X6_signAt h3) cw_X6_signAt ml_X8_233 m_14 ce_14 rfl rfl ⟨Nat.le_of_ble_eq_true rfl, Nat.le_of_ble_eq_true rfl⟩ ⟨Nat.le_refl _, Nat.le_refl _⟩ rfl (Nat.le_of_ble_eq_true rfl) dX8_mixScreen_30 ?_
    refine j_i2l C dX8_mixScreen_33 ?_
    obtain ⟨z4, h5, hf⟩ := bnd_some hf
    refine j_callS (As := [.long v3, .long z2.toInt64]) (rest := []) C (k_X8_mix h5) cw_X8_mix ml_X8_306 rfl ⟨Nat.le_of_ble_eq_true rfl, Nat.le_of_ble_eq_true rfl⟩ ⟨Nat.le_refl _, Nat.le_refl _⟩ rfl (Nat.le_of_ble_eq_true rfl) dX8_mixScreen_34 ?_
    refine j_lstore_n (i := 3) (lv' := [(3, .long z4), (0, .ref (ad 0)), (5, .int v5), (6, .int v6)]) C dX8_mixScreen_37 rfl (by decide) rfl ?_
    refine j_iinc (v := v6 + 1) (lv' := [(6, .int (v6 + 1)), (3, .long z4), (0, .ref (ad 0)), (5, .int v5)]) C 3 rfl rfl (by decide) rfl dX8_mixScreen_38 ?_
    refine j_goto C 14 dX8_mixScreen_41 (by decide) ?_
    refine j_sub [2, 1, 3, 0] rfl ?_
    exact K14 a z4 v5 (v6 + 1) hf
theorem wl_X8_mixScreen_14 {p : Program} {l : Launch} {e : Env} {s : State} {m : MethodId} {args : Array Value} {below : List Frame} {meth : Method} {c : Code} {G : GT} {A : Nat → Prop} {ad : Nat → Nat} (C : CX G A RX8 cX8_mixScreen 7 p s m args c) (hr : meth.sig.returnType = (some .long)) (hk : meth.locks = false) {b : MS} {rr : Int64} (fuel : Nat) (c5 : KS → Int64 → Int32 → Option Int64) (K5 : ∀ (a : KS) (v3 : Int64) (v5 : Int32), c5 a v3 v5 = some rr → J p l e (RM 1) s m args below meth c G A 7 (MQ below (QV (some (.long rr)) (PosW G ad a b A) A) args s 0 0 A) 0 0 ad a b 5 [(0, .ref (ad 0)), (3, .long v3), (5, .int v5)] []) : ∀ (a : KS) (v3 : Int64) (v5 : Int32) (v6 : Int32), l_X8_mixScreen_14 fuel c5 a v3 v5 v6 = some rr → J p l e (RM 1) s m args below meth c G A 7 (MQ below (QV (some (.long rr)) (PosW G ad a b A) A) args s 0 0 A) 0 0 ad a b 14 [(0, .ref (ad 0)), (3, .long v3), (5, .int v5), (6, .int v6)] [] := by
  induction fuel with
  | zero => intro a v3 v5 v6 hf; cases hf
  | succ n ih =>
    intro a v3 v5 v6 hf
    have hf : f_X8_mixScreen_14 c5 (l_X8_mixScreen_14 n c5) a v3 v5 v6 = some rr := hf
    exact w_X8_mixScreen_14 C hr hk c5 (l_X8_mixScreen_14 n c5) K5 ih a v3 v5 v6 hf
set_option maxRecDepth 100000 in
set_option maxHeartbeats 4000000 in
theorem w_X8_mixScreen_5 {p : Program} {l : Launch} {e : Env} {s : State} {m : MethodId} {args : Array Value} {below : List Frame} {meth : Method} {c : Code} {G : GT} {A : Nat → Prop} {ad : Nat → Nat} (C : CX G A RX8 cX8_mixScreen 7 p s m args c) (hr : meth.sig.returnType = (some .long)) (hk : meth.locks = false) {b : MS} {rr : Int64} (c5 : KS → Int64 → Int32 → Option Int64) (K5 : ∀ (a : KS) (v3 : Int64) (v5 : Int32), c5 a v3 v5 = some rr → J p l e (RM 1) s m args below meth c G A 7 (MQ below (QV (some (.long rr)) (PosW G ad a b A) A) args s 0 0 A) 0 0 ad a b 5 [(0, .ref (ad 0)), (3, .long v3), (5, .int v5)] []) (a : KS) (v3 : Int64) (v5 : Int32) (hf : f_X8_mixScreen_5 c5 a v3 v5 = some rr) : J p l e (RM 1) s m args below meth c G A 7 (MQ below (QV (some (.long rr)) (PosW G ad a b A) A) args s 0 0 A) 0 0 ad a b 5 [(0, .ref (ad 0)), (3, .long v3), (5, .int v5)] [] := by
  unfold f_X8_mixScreen_5 at hf
  refine j_iload C 2 rfl dX8_mixScreen_5 ?_
  refine j_iconst (v := 2) C (by decide) dX8_mixScreen_7 ?_
  refine j_icmp_ge C 50 dX8_mixScreen_8 (by decide) hf (fun y1 hf => ?_) (fun y1 hf => ?_)
  · refine j_lload_n C 1 rfl dX8_mixScreen_50 ?_
    obtain rfl := Option.some.inj hf
    exact j_lret C hr hk ⟨Nat.le_refl _, Nat.le_refl _⟩ rfl dX8_mixScreen_51
  · refine j_iconst (v := 0) C (by decide) dX8_mixScreen_11 ?_
    refine j_istore (lv' := [(6, .int 0), (0, .ref (ad 0)), (3, .long v3), (5, .int v5)]) C dX8_mixScreen_12 (by decide) rfl ?_
    refine j_sub [1, 2, 3, 0] rfl ?_
    exact wl_X8_mixScreen_14 C hr hk FU c5 K5 a v3 v5 0 hf
theorem wl_X8_mixScreen_5 {p : Program} {l : Launch} {e : Env} {s : State} {m : MethodId} {args : Array Value} {below : List Frame} {meth : Method} {c : Code} {G : GT} {A : Nat → Prop} {ad : Nat → Nat} (C : CX G A RX8 cX8_mixScreen 7 p s m args c) (hr : meth.sig.returnType = (some .long)) (hk : meth.locks = false) {b : MS} {rr : Int64} (fuel : Nat)   : ∀ (a : KS) (v3 : Int64) (v5 : Int32), l_X8_mixScreen_5 fuel  a v3 v5 = some rr → J p l e (RM 1) s m args below meth c G A 7 (MQ below (QV (some (.long rr)) (PosW G ad a b A) A) args s 0 0 A) 0 0 ad a b 5 [(0, .ref (ad 0)), (3, .long v3), (5, .int v5)] [] := by
  induction fuel with
  | zero => intro a v3 v5 hf; cases hf
  | succ n ih =>
    intro a v3 v5 hf
    have hf : f_X8_mixScreen_5 (l_X8_mixScreen_5 n ) a v3 v5 = some rr := hf
    exact w_X8_mixScreen_5 C hr hk (l_X8_mixScreen_5 n ) ih a v3 v5 hf
set_option maxRecDepth 100000 in
set_option maxHeartbeats 4000000 in
theorem k_X8_mixScreen {l : Launch} {G : GT} {ad : Nat → Nat} {a : KS} {v1 : Int64} {b : MS} {rr : Int64} (hf : f_X8_mixScreen a v1 = some rr) : MT l G yX8_mixScreen cX8_mixScreen 7 (some .long) (RM 1) [.ref (ad 0), .long v1] ad a b (some (.long rr)) a b := by
  refine MT_of (by decide) (Nat.le_of_ble_eq_true rfl) ?_
  intro p e s m args below meth c A C hr hk
  unfold f_X8_mixScreen at hf
  refine j_lload_n C 1 rfl dX8_mixScreen_0 ?_
  refine j_lstore_n (i := 3) (lv' := [(3, .long v1), (0, .ref (ad 0)), (1, .long v1)]) C dX8_mixScreen_1 rfl (by decide) rfl ?_
  refine j_iconst (v := 0) C (by decide) dX8_mixScreen_2 ?_
  refine j_istore (lv' := [(5, .int 0), (3, .long v1), (0, .ref (ad 0)), (1, .long v1)]) C dX8_mixScreen_3 (by decide) rfl ?_
  refine j_sub [2, 1, 0] rfl ?_
  exact wl_X8_mixScreen_5 C hr hk FU a v1 0 hf
set_option maxRecDepth 100000 in
set_option maxHeartbeats 4000000 in
theorem w_X8_floatBits_34 {p : Program} {l : Launch} {e : Env} {s : State} {m : MethodId} {args : Array Value} {below : List Frame} {meth : Method} {c : Code} {G : GT} {A : Nat → Prop} {ad : Nat → Nat} (C : CX G A RX8 cX8_floatBits 3 p s m args c) (hr : meth.sig.returnType = (some .int)) (hk : meth.locks = false) {b : MS} {rr : Int32}   (a : KS) (v1 : UInt32) (v2 : Int32) (hf : f_X8_floatBits_34 a v1 v2 = some rr) : J p l e (RM 0) s m args below meth c G A 3 (MQ below (QV (some (.int rr)) (PosW G ad a b A) A) args s 0 0 A) 0 0 ad a b 34 [(1, .float v1), (2, .int v2)] [] := by
  unfold f_X8_floatBits_34 at hf
  refine j_iload_n C 1 rfl dX8_floatBits_34 ?_
  refine j_bipush (v := 23) C (by decide) dX8_floatBits_35 ?_
  refine j_ishl C dX8_floatBits_37 ?_
  refine j_fload_n C 0 rfl dX8_floatBits_38 ?_
  refine j_fconst1 C dX8_floatBits_39 ?_
  obtain ⟨h1, hf⟩ := gd_some hf
  refine j_fsub C (nn32_of h1) dX8_floatBits_40 ?_
  refine j_ldcfw C wk_X8_374 dX8_floatBits_41 ?_
  obtain ⟨h2, hf⟩ := gd_some hf
  refine j_fmul C (nn32_of h2) dX8_floatBits_44 ?_
  refine j_f2i C dX8_floatBits_45 ?_
  refine j_iadd C dX8_floatBits_46 ?_
  obtain rfl := Option.some.inj hf
  exact j_iret C hr hk ⟨Nat.le_refl _, Nat.le_refl _⟩ rfl dX8_floatBits_47
set_option maxRecDepth 100000 in
set_option maxHeartbeats 4000000 in
theorem w_X8_floatBits_13 {p : Program} {l : Launch} {e : Env} {s : State} {m : MethodId} {args : Array Value} {below : List Frame} {meth : Method} {c : Code} {G : GT} {A : Nat → Prop} {ad : Nat → Nat} (C : CX G A RX8 cX8_floatBits 3 p s m args c) (hr : meth.sig.returnType = (some .int)) (hk : meth.locks = false) {b : MS} {rr : Int32} (c13 : KS → UInt32 → Int32 → Option Int32) (K13 : ∀ (a : KS) (v1 : UInt32) (v2 : Int32), c13 a v1 v2 = some rr → J p l e (RM 0) s m args below meth c G A 3 (MQ below (QV (some (.int rr)) (PosW G ad a b A) A) args s 0 0 A) 0 0 ad a b 13 [(1, .float v1), (2, .int v2)] []) (a : KS) (v1 : UInt32) (v2 : Int32) (hf : f_X8_floatBits_13 c13 a v1 v2 = some rr) : J p l e (RM 0) s m args below meth c G A 3 (MQ below (QV (some (.int rr)) (PosW G ad a b A) A) args s 0 0 A) 0 0 ad a b 13 [(1, .float v1), (2, .int v2)] [] := by
  unfold f_X8_floatBits_13 at hf
  refine j_fload_n C 0 rfl dX8_floatBits_13 ?_
  refine j_fconst1 C dX8_floatBits_14 ?_
  refine j_fcmp C dX8_floatBits_15 ?_
  refine j_if_ge C 34 dX8_floatBits_16 (by decide) hf (fun y1 hf => ?_) (fun y1 hf => ?_)
  · refine j_sub [0, 1] rfl ?_
    exact w_X8_floatBits_34 C hr hk a v1 v2 hf
  · refine j_iload_n C 1 rfl dX8_floatBits_19 ?_
    refine j_iconst (v := 1) C (by decide) dX8_floatBits_20 ?_
    refine j_icmp_le C 34 dX8_floatBits_21 (by decide) hf (fun y2 hf => ?_) (fun y2 hf => ?_)
    · refine j_sub [0, 1] rfl ?_
      exact w_X8_floatBits_34 C hr hk a v1 v2 hf
    · refine j_fload_n C 0 rfl dX8_floatBits_24 ?_
      refine j_fconst2 C dX8_floatBits_25 ?_
      obtain ⟨h3, hf⟩ := gd_some hf
      refine j_fmul C (nn32_of h3) dX8_floatBits_26 ?_
      refine j_letF hf (fun x4 hf => ?_)
      refine j_fstore_n (i := 1) (lv' := [(1, .float x4), (2, .int v2)]) C dX8_floatBits_27 rfl (by decide) rfl ?_
      refine j_iinc (v := v2 + (-1)) (lv' := [(2, .int (v2 + (-1))), (1, .float x4)]) C 1 rfl (ii_m1 _) (by decide) rfl dX8_floatBits_28 ?_
      refine j_goto C 13 dX8_floatBits_31 (by decide) ?_
      refine j_sub [1, 0] rfl ?_
      exact K13 a x4 (v2 + (-1)) hf
theorem wl_X8_floatBits_13 {p : Program} {l : Launch} {e : Env} {s : State} {m : MethodId} {args : Array Value} {below : List Frame} {meth : Method} {c : Code} {G : GT} {A : Nat → Prop} {ad : Nat → Nat} (C : CX G A RX8 cX8_floatBits 3 p s m args c) (hr : meth.sig.returnType = (some .int)) (hk : meth.locks = false) {b : MS} {rr : Int32} (fuel : Nat)   : ∀ (a : KS) (v1 : UInt32) (v2 : Int32), l_X8_floatBits_13 fuel  a v1 v2 = some rr → J p l e (RM 0) s m args below meth c G A 3 (MQ below (QV (some (.int rr)) (PosW G ad a b A) A) args s 0 0 A) 0 0 ad a b 13 [(1, .float v1), (2, .int v2)] [] := by
  induction fuel with
  | zero => intro a v1 v2 hf; cases hf
  | succ n ih =>
    intro a v1 v2 hf
    have hf : f_X8_floatBits_13 (l_X8_floatBits_13 n ) a v1 v2 = some rr := hf
    exact w_X8_floatBits_13 C hr hk (l_X8_floatBits_13 n ) ih a v1 v2 hf
set_option maxRecDepth 100000 in
set_option maxHeartbeats 4000000 in
theorem k_X8_floatBits {l : Launch} {G : GT} {ad : Nat → Nat} {a : KS} {v0 : UInt32} {b : MS} {rr : Int32} (hf : f_X8_floatBits a v0 = some rr) : MT l G yX8_floatBits cX8_floatBits 3 (some .int) (RM 0) [.float v0] ad a b (some (.int rr)) a b := by
  refine MT_of (by decide) (Nat.le_of_ble_eq_true rfl) ?_
  intro p e s m args below meth c A C hr hk
  unfold f_X8_floatBits at hf
  refine j_fload_n C 0 rfl dX8_floatBits_0 ?_
  refine j_fconst0 C dX8_floatBits_1 ?_
  refine j_fcmp C dX8_floatBits_2 ?_
  refine j_if_gt C 8 dX8_floatBits_3 (by decide) hf (fun y1 hf => ?_) (fun y1 hf => ?_)
  · refine j_fload_n C 0 rfl dX8_floatBits_8 ?_
    refine j_fstore_n (i := 1) (lv' := [(1, .float v0), (0, .float v0)]) C dX8_floatBits_9 rfl (by decide) rfl ?_
    refine j_bipush (v := 127) C (by decide) dX8_floatBits_10 ?_
    refine j_istore_n (i := 2) (lv' := [(2, .int 127), (1, .float v0), (0, .float v0)]) C dX8_floatBits_12 rfl (by decide) rfl ?_
    refine j_sub [1, 0] rfl ?_
    exact wl_X8_floatBits_13 C hr hk FU a v0 127 hf
  · refine j_iconst (v := 0) C (by decide) dX8_floatBits_6 ?_
    obtain rfl := Option.some.inj hf
    exact j_iret C hr hk ⟨Nat.le_refl _, Nat.le_refl _⟩ rfl dX8_floatBits_7
set_option maxRecDepth 100000 in
set_option maxHeartbeats 4000000 in
theorem w_X8_digest_16 {p : Program} {l : Launch} {e : Env} {s : State} {m : MethodId} {args : Array Value} {below : List Frame} {meth : Method} {c : Code} {G : GT} {A : Nat → Prop} {ad : Nat → Nat} (C : CX G A RX8 cX8_digest 4 p s m args c) (hr : meth.sig.returnType = (some .long)) (hk : meth.locks = false) {b : MS} {rr : Int64 × KS} (c16 : KS → Int64 → Int32 → Option (Int64 × KS)) (K16 : ∀ (a : KS) (v1 : Int64) (v3 : Int32), c16 a v1 v3 = some rr → J p l e (RM 10) s m args below meth c G A 4 (MQ below (QV (some (.long rr.1)) (PosW G ad rr.2 b A) A) args s 0 0 A) 0 0 ad a b 16 [(0, .ref (ad 0)), (1, .long v1), (3, .int v3)] []) (a : KS) (v1 : Int64) (v3 : Int32) (hf : f_X8_digest_16 c16 a v1 v3 = some rr) : J p l e (RM 10) s m args below meth c G A 4 (MQ below (QV (some (.long rr.1)) (PosW G ad rr.2 b A) A) args s 0 0 A) 0 0 ad a b 16 [(0, .ref (ad 0)), (1, .long v1), (3, .int v3)] [] := by
  unfold f_X8_digest_16 at hf
  refine j_iload_n C 2 rfl dX8_digest_16 ?_
  refine j_bipush (v := 8) C (by decide) dX8_digest_17 ?_
  refine j_icmp_ge C 42 dX8_digest_19 (by decide) hf (fun y1 hf => ?_) (fun y1 hf => ?_)
  · refine j_aload_n C 0 rfl dX8_digest_42 ?_
    refine j_get (q := 0) (kf := 5) (T := TX8) (N := 7) (RC := RX8) C m_0 ce_0 rfl in_X8 (by decide) (fun _ h9 => h9) fl_X8_45 rfl dX8_digest_43 ?_
    refine j_aload_n C 0 rfl dX8_digest_46 ?_
    refine j_get (q := 0) (kf := 4) (T := TX8) (N := 7) (RC := RX8) C m_0 ce_0 rfl in_X8 (by decide) (fun _ h9 => h9) fl_X8_38 rfl dX8_digest_47 ?_
    obtain ⟨z2, h3, hf⟩ := bnd_some hf
    refine j_callV (q := 14) (As := [.ref (ad 10)]) (rest := []) C (k_X6_draw h3) cw_X6_draw ml_X8_229 m_14 ce_14 rfl rfl ⟨Nat.le_of_ble_eq_true rfl, Nat.le_of_ble_eq_true rfl⟩ ⟨Nat.le_refl _, Nat.le_refl _⟩ rfl (Nat.le_of_ble_eq_true rfl) dX8_digest_50 ?_
    refine j_aload_n C 0 rfl dX8_digest_53 ?_
    refine j_lload_n C 1 rfl dX8_digest_54 ?_
    obtain ⟨z6, h7, hf⟩ := bnd_some hf
    refine j_callV (q := 0) (As := [.long v1]) (rest := []) C (k_X8_mixScreen h7) cw_X8_mixScreen ml_X8_310 m_0 ce_0 rfl rfl ⟨Nat.le_of_ble_eq_true rfl, Nat.le_of_ble_eq_true rfl⟩ ⟨Nat.le_refl _, Nat.le_refl _⟩ rfl (Nat.le_of_ble_eq_true rfl) dX8_digest_55 ?_
    refine j_lstore_n (i := 1) (lv' := [(1, .long z6), (0, .ref (ad 0)), (3, .int v3)]) C dX8_digest_58 rfl (by decide) rfl ?_
    refine j_lload_n C 0 rfl dX8_digest_59 ?_
    refine j_aload_n C 1 rfl dX8_digest_60 ?_
    obtain ⟨z8, h9, hf⟩ := bnd_some hf
    refine j_callV (q := 0) (As := []) (rest := [.long z6]) C (k_X8_fraction h9) cw_X8_fraction ml_X8_313 m_0 ce_0 rfl rfl ⟨Nat.le_of_ble_eq_true rfl, Nat.le_of_ble_eq_true rfl⟩ ⟨Nat.le_refl _, Nat.le_refl _⟩ rfl (Nat.le_of_ble_eq_true rfl) dX8_digest_61 ?_
    obtain ⟨h10, hf⟩ := gd_some hf
    refine j_d2f C (nn32_of h10) dX8_digest_64 ?_
    obtain ⟨z11, h12, hf⟩ := bnd_some hf
    refine j_callS (As := [.float (FP.d2f z8)]) (rest := [.long z6]) C (k_X8_floatBits h12) cw_X8_floatBits ml_X8_317 rfl ⟨Nat.le_of_ble_eq_true rfl, Nat.le_of_ble_eq_true rfl⟩ ⟨Nat.le_refl _, Nat.le_refl _⟩ rfl (Nat.le_of_ble_eq_true rfl) dX8_digest_65 ?_
    refine j_i2l C dX8_digest_68 ?_
    obtain ⟨z13, h14, hf⟩ := bnd_some hf
    refine j_callS (As := [.long z6, .long z11.toInt64]) (rest := []) C (k_X8_mix h14) cw_X8_mix ml_X8_306 rfl ⟨Nat.le_of_ble_eq_true rfl, Nat.le_of_ble_eq_true rfl⟩ ⟨Nat.le_refl _, Nat.le_refl _⟩ rfl (Nat.le_of_ble_eq_true rfl) dX8_digest_69 ?_
    obtain rfl := Option.some.inj hf
    exact j_lret C hr hk ⟨Nat.le_refl _, Nat.le_refl _⟩ rfl dX8_digest_72
  · refine j_lload_n C 1 rfl dX8_digest_22 ?_
    refine j_aload_n C 0 rfl dX8_digest_23 ?_
    refine j_get (q := 0) (kf := 4) (T := TX8) (N := 7) (RC := RX8) C m_0 ce_0 rfl in_X8 (by decide) (fun _ h9 => h9) fl_X8_38 rfl dX8_digest_24 ?_
    refine j_iload_n C 2 rfl dX8_digest_27 ?_
    obtain ⟨z15, h16, hf⟩ := bnd_some hf
    refine j_callV (q := 10) (As := [.int v3]) (rest := [.long v1]) C (k_X2_counted h16) cw_X2_counted ml_X8_239 m_10 ce_10 rfl rfl ⟨Nat.le_of_ble_eq_true rfl, Nat.le_of_ble_eq_true rfl⟩ ⟨Nat.le_refl _, Nat.le_refl _⟩ rfl (Nat.le_of_ble_eq_true rfl) dX8_digest_28 ?_
    refine j_i2l C dX8_digest_31 ?_
    obtain ⟨z17, h18, hf⟩ := bnd_some hf
    refine j_callS (As := [.long v1, .long z15.toInt64]) (rest := []) C (k_X8_mix h18) cw_X8_mix ml_X8_306 rfl ⟨Nat.le_of_ble_eq_true rfl, Nat.le_of_ble_eq_true rfl⟩ ⟨Nat.le_refl _, Nat.le_refl _⟩ rfl (Nat.le_of_ble_eq_true rfl) dX8_digest_32 ?_
    refine j_lstore_n (i := 1) (lv' := [(1, .long z17), (0, .ref (ad 0)), (3, .int v3)]) C dX8_digest_35 rfl (by decide) rfl ?_
    refine j_iinc (v := v3 + 1) (lv' := [(3, .int (v3 + 1)), (1, .long z17), (0, .ref (ad 0))]) C 2 rfl rfl (by decide) rfl dX8_digest_36 ?_
    refine j_goto C 16 dX8_digest_39 (by decide) ?_
    refine j_sub [2, 1, 0] rfl ?_
    exact K16 a z17 (v3 + 1) hf
theorem wl_X8_digest_16 {p : Program} {l : Launch} {e : Env} {s : State} {m : MethodId} {args : Array Value} {below : List Frame} {meth : Method} {c : Code} {G : GT} {A : Nat → Prop} {ad : Nat → Nat} (C : CX G A RX8 cX8_digest 4 p s m args c) (hr : meth.sig.returnType = (some .long)) (hk : meth.locks = false) {b : MS} {rr : Int64 × KS} (fuel : Nat)   : ∀ (a : KS) (v1 : Int64) (v3 : Int32), l_X8_digest_16 fuel  a v1 v3 = some rr → J p l e (RM 10) s m args below meth c G A 4 (MQ below (QV (some (.long rr.1)) (PosW G ad rr.2 b A) A) args s 0 0 A) 0 0 ad a b 16 [(0, .ref (ad 0)), (1, .long v1), (3, .int v3)] [] := by
  induction fuel with
  | zero => intro a v1 v3 hf; cases hf
  | succ n ih =>
    intro a v1 v3 hf
    have hf : f_X8_digest_16 (l_X8_digest_16 n ) a v1 v3 = some rr := hf
    exact w_X8_digest_16 C hr hk (l_X8_digest_16 n ) ih a v1 v3 hf
set_option maxRecDepth 100000 in
set_option maxHeartbeats 4000000 in
theorem k_X8_digest {l : Launch} {G : GT} {ad : Nat → Nat} {a : KS} {b : MS} {rr : Int64 × KS} (hf : f_X8_digest a = some rr) : MT l G yX8_digest cX8_digest 4 (some .long) (RM 10) [.ref (ad 0)] ad a b (some (.long rr.1)) rr.2 b := by
  refine MT_of (by decide) (Nat.le_of_ble_eq_true rfl) ?_
  intro p e s m args below meth c A C hr hk
  unfold f_X8_digest at hf
  refine j_aload_n C 0 rfl dX8_digest_0 ?_
  refine j_ldc2 C wk_X8_297 dX8_digest_1 ?_
  obtain ⟨z1, h2, hf⟩ := bnd_some hf
  refine j_callV (q := 0) (As := [.long 4364]) (rest := []) C (k_X8_mixPosition h2) cw_X8_mixPosition ml_X8_299 m_0 ce_0 rfl rfl ⟨Nat.le_of_ble_eq_true rfl, Nat.le_of_ble_eq_true rfl⟩ ⟨Nat.le_refl _, Nat.le_refl _⟩ rfl (Nat.le_of_ble_eq_true rfl) dX8_digest_4 ?_
  refine j_lstore_n (i := 1) (lv' := [(1, .long z1), (0, .ref (ad 0))]) C dX8_digest_7 rfl (by decide) rfl ?_
  refine j_aload_n C 1 rfl dX8_digest_8 ?_
  refine j_lload_n C 0 rfl dX8_digest_9 ?_
  obtain ⟨z3, h4, hf⟩ := bnd_some hf
  refine j_callV (q := 0) (As := [.long z1]) (rest := []) C (k_X8_mixItems h4) cw_X8_mixItems ml_X8_303 m_0 ce_0 rfl rfl ⟨Nat.le_of_ble_eq_true rfl, Nat.le_of_ble_eq_true rfl⟩ ⟨Nat.le_refl _, Nat.le_refl _⟩ rfl (Nat.le_of_ble_eq_true rfl) dX8_digest_10 ?_
  refine j_lstore_n (i := 1) (lv' := [(1, .long z3), (0, .ref (ad 0))]) C dX8_digest_13 rfl (by decide) rfl ?_
  refine j_iconst (v := 0) C (by decide) dX8_digest_14 ?_
  refine j_istore_n (i := 3) (lv' := [(3, .int 0), (1, .long z3), (0, .ref (ad 0))]) C dX8_digest_15 rfl (by decide) rfl ?_
  refine j_sub [2, 1, 0] rfl ?_
  exact wl_X8_digest_16 C hr hk FU a z3 0 hf
