noncomputable def f_L_addMenu (a : KS) (v1 : Int32) : Option (Int32 × KS) := (f_X8_addMenu a v1).bind (fun z => if z.1 = 0 then (some (0, sKou z.2.2 0 z.2.1.toInt64)) else (if z.1 = 1 then some (1, z.2.2) else (if z.1 = 2 then some (2, z.2.2) else (if z.1 = 3 then some (3, z.2.2) else none))))
noncomputable def f_L_addNumber (a : KS) (v1 : Int32) (v2 : Int32) (v3 : Int32) (v4 : Int32) : Option (Int32 × KS) := (f_X8_addNumber a v1 v2 v3 v4).bind (fun z => if z.1 = 0 then (some (0, sKou z.2.2 0 z.2.1.toInt64)) else (if z.1 = 1 then some (1, z.2.2) else (if z.1 = 2 then some (2, z.2.2) else (if z.1 = 3 then some (3, z.2.2) else none))))
noncomputable def f_L_addChoice (a : KS) (v1 : Int32) (v2 : Int32) : Option (Int32 × KS) := (f_X8_addChoice a v1 v2).bind (fun z => if z.1 = 0 then (some (0, sKou z.2.2 0 z.2.1.toInt64)) else (if z.1 = 1 then some (1, z.2.2) else (if z.1 = 2 then some (2, z.2.2) else (if z.1 = 3 then some (3, z.2.2) else none))))
noncomputable def f_L_lock (a : KS) (v1 : Int32) (v2 : Int32) : Option (Int32 × KS) := (f_X8_lock a v1 v2).bind (fun z => if z.1 = 0 then (some (0, sKou z.2.2 0 z.2.1.toInt64)) else (if z.1 = 1 then some (1, z.2.2) else (if z.1 = 2 then some (2, z.2.2) else (if z.1 = 3 then some (3, z.2.2) else none))))
noncomputable def f_L_kind (a : KS) (v1 : Int32) : Option (Int32 × KS) := (f_X8_kind a v1).bind (fun z => if z.1 = 0 then (some (0, sKou a 0 z.2.toInt64)) else (if z.1 = 1 then some (1, a) else none))
noncomputable def f_L_menuOf (a : KS) (v1 : Int32) : Option (Int32 × KS) := (f_X8_menuOf a v1).bind (fun z => if z.1 = 0 then (some (0, sKou a 0 z.2.toInt64)) else (if z.1 = 1 then some (1, a) else none))
noncomputable def f_L_value (a : KS) (v1 : Int32) : Option (Int32 × KS) := (f_X8_value a v1).bind (fun z => if z.1 = 0 then (some (0, sKou a 0 z.2.toInt64)) else (if z.1 = 1 then some (1, a) else (if z.1 = 2 then some (2, a) else none)))
noncomputable def f_L_isClosed (a : KS) (v1 : Int32) : Option (Int32 × KS) := (f_X8_isClosed a v1).bind (fun z => if z.1 = 0 then (if z.2 = 0 then some (0, sKou a 0 0) else some (0, sKou a 0 1)) else (if z.1 = 1 then some (1, a) else none))
noncomputable def f_L_turn (a : KS) (v1 : Int32) : Option (Int32 × KS) := (f_X8_turn a v1).bind (fun z => if z.1 = 0 then (some (0, sKou z.2.2 0 z.2.1.toInt64)) else (if z.1 = 2 then some (1, z.2.2) else none))
noncomputable def f_L_tick (a : KS) (v1 : Int32) : Option (Int32 × KS) := (f_X8_tick a v1).bind (fun z => if z.1 = 0 then (some (0, sKou z.2.2 0 z.2.1.toInt64)) else (if z.1 = 2 then some (1, z.2.2) else none))
noncomputable def f_L_set (a : KS) (v1 : Int32) (v2 : Int32) : Option (Int32 × KS) := (f_X8_set a v1 v2).bind (fun z => if z.1 = 0 then (some (0, sKou z.2.2 0 z.2.1.toInt64)) else (if z.1 = 1 then some (1, z.2.2) else (if z.1 = 2 then some (2, z.2.2) else none)))
noncomputable def f_L_takeBack (a : KS)  : Option (Int32 × KS) := (f_X8_takeBack a ).bind (fun z => if z.1 = 0 then (some (0, sKou z.2.2 0 z.2.1.toInt64)) else (if z.1 = 3 then some (1, z.2.2) else none))
noncomputable def f_L_savePreset (a : KS) (v1 : Int32) : Option (Int32 × KS) := (f_X8_savePreset a v1).bind (fun z => if z.1 = 0 then (some (0, sKou z.2.2 0 z.2.1.toInt64)) else (if z.1 = 2 then some (1, z.2.2) else none))
noncomputable def f_L_loadPreset (a : KS) (v1 : Int32) : Option (Int32 × KS) := (f_X8_loadPreset a v1).bind (fun z => if z.1 = 0 then (some (0, sKou z.2.2 0 z.2.1.toInt64)) else (if z.1 = 2 then some (1, z.2.2) else (if z.1 = 3 then some (2, z.2.2) else none)))
noncomputable def f_L_display (a : KS) (v1 : Int32) (v2 : Int32) : Option (Int32 × KS) := (f_X8_display a v1 v2).bind (fun z => if z.1 = 0 then (some (0, sKou z.2.2 0 z.2.1.toInt64)) else (if z.1 = 1 then some (1, z.2.2) else none))
noncomputable def f_L_events (a : KS) (v1 : Int32) : Option (Int32 × KS) := (f_X8_events a v1).bind (fun z => if z.1 = 0 then (some (0, sKou a 0 z.2.toInt64)) else (if z.1 = 1 then some (1, a) else none))
noncomputable def f_L_ifTurned (a : KS) (v1 : Int32) : Option (Int32 × KS) := (f_X8_ifTurned a v1).bind (fun z => if z.1 = 0 then (some (0, sKou a 0 z.2.toInt64)) else (if z.1 = 2 then some (1, a) else none))
noncomputable def f_L_pressesTo (a : KS) (v1 : Int32) : Option (Int32 × KS) := (f_X8_pressesTo a v1).bind (fun z => if z.1 = 0 then (some (0, sKou a 0 z.2.toInt64)) else (if z.1 = 1 then some (1, a) else none))
noncomputable def f_L_detentsTo (a : KS) (v1 : Int32) : Option (Int32 × KS) := (f_X8_detentsTo a v1).bind (fun z => if z.1 = 0 then (some (0, sKou a 0 z.2.toInt64)) else (if z.1 = 1 then some (1, a) else none))
noncomputable def f_L_codesTo (a : KS) (v1 : Int32) : Option (Int32 × KS) := (f_X8_codesTo a v1).bind (fun z => if z.1 = 0 then (some (0, sKou a 0 z.2.toInt64)) else (if z.1 = 1 then some (1, a) else none))
noncomputable def f_L_append (a : KS) (v1 : Int32) : Option (Int32 × KS) := (f_X8_append a v1).bind (fun z => if z.1 = 0 then (some (0, sKou z.2.2 0 z.2.1.toInt64)) else (if z.1 = 2 then some (1, z.2.2) else (if z.1 = 3 then some (2, z.2.2) else none)))
noncomputable def f_L_run (a : KS)  : Option (Int32 × KS) := (f_X8_run a ).bind (fun z => if z.1 = 0 then (some (0, sKou z.2.2 0 z.2.1.toInt64)) else (if z.1 = 2 then some (1, z.2.2) else none))
set_option maxRecDepth 100000 in
set_option maxHeartbeats 4000000 in
theorem k_L_addMenu {l : Launch} {G : GT} {ad : Nat → Nat} {a : KS} {b : MS} {v1 : Int32} {rr : Int32 × KS} (hst : l.stackTraces = false) (hf : f_L_addMenu a v1 = some rr) : MW l G yL_addMenu cL_addMenu 4 (some .int) [(0, 9, 12, 13), (0, 9, 15, 15), (0, 9, 18, 17)] (RX 10 5 39) [.ref (ad 0), .int v1, .ref (ad 19)] ad a b (some (.int rr.1)) rr.2 b := by
  refine MW_of (lv := [(0, .ref (ad 0)), (1, .int v1), (2, .ref (ad 19))]) (by decide) (Nat.le_of_ble_eq_true rfl) rfl ?_
  intro p e s m args below meth c A C hr hk htab
  unfold f_L_addMenu at hf
  obtain ⟨z, h, hf⟩ := bnd_some hf
  refine j_aload_n C 2 rfl dL_addMenu_0 ?_
  refine j_iconst C (v := 0) rfl dL_addMenu_1 ?_
  refine j_aload_n C 0 rfl dL_addMenu_2 ?_
  refine j_iload_n C 1 rfl dL_addMenu_3 ?_
  refine j_acallV (q := 0) (As := [.int v1]) (rest := [.int 0, .ref (ad 19)]) C (k_X8_addMenu hst h) cw_X8_addMenu ml_L_7 m_0 ce_0 rfl rfl ⟨Nat.le_of_ble_eq_true rfl, Nat.le_of_ble_eq_true rfl⟩ ⟨Nat.le_of_ble_eq_true rfl, Nat.le_of_ble_eq_true rfl⟩ rfl (Nat.le_of_ble_eq_true rfl) dL_addMenu_4 (fun y => ?_) (fun ad9 hg9 y => ?_)
  · rw [if_neg y] at hf
    by_cases y1 : z.1 = 1
    · rw [if_pos y1] at hf
      obtain rfl := Option.some.inj hf
      rw [y1]
      refine j_xcatch (name := exN 1) C [] ⟨0, 9, 12, 13⟩ [⟨0, 9, 15, 15⟩, ⟨0, 9, 18, 17⟩] htab (fun z hz => by cases hz) rfl (by decide) lk_1 (exW_use C.2.2.2.2.2.2.2 (.castable (exN 1) (exN 1)) (by simp [exW])) (fun q => ?_)
      refine j_astore_n C (i := 3) dL_addMenu_12 rfl (by decide) rfl ?_
      refine j_iconst C (v := 1) rfl dL_addMenu_13 ?_
      exact j_wiret C hr hk (fun _ _ => rfl) ⟨Nat.le_of_ble_eq_true rfl, Nat.le_of_ble_eq_true rfl⟩ rfl dL_addMenu_14
    · rw [if_neg y1] at hf
      by_cases y2 : z.1 = 2
      · rw [if_pos y2] at hf
        obtain rfl := Option.some.inj hf
        rw [y2]
        refine j_xcatch (name := exN 2) C [⟨0, 9, 12, 13⟩] ⟨0, 9, 15, 15⟩ [⟨0, 9, 18, 17⟩] htab (fun z hz => by cases List.mem_singleton.mp hz; exact Or.inr ⟨by decide, exN 1, lk_1, C.2.2.2.2.2.2.2.2.2.2.2.1.2.2.1⟩) rfl (by decide) lk_2 (exW_use C.2.2.2.2.2.2.2 (.castable (exN 2) (exN 2)) (by simp [exW])) (fun q => ?_)
        refine j_astore_n C (i := 3) dL_addMenu_15 rfl (by decide) rfl ?_
        refine j_iconst C (v := 2) rfl dL_addMenu_16 ?_
        exact j_wiret C hr hk (fun _ _ => rfl) ⟨Nat.le_of_ble_eq_true rfl, Nat.le_of_ble_eq_true rfl⟩ rfl dL_addMenu_17
      · rw [if_neg y2] at hf
        by_cases y3 : z.1 = 3
        · rw [if_pos y3] at hf
          obtain rfl := Option.some.inj hf
          rw [y3]
          refine j_xcatch (name := exN 3) C [⟨0, 9, 12, 13⟩, ⟨0, 9, 15, 15⟩] ⟨0, 9, 18, 17⟩ [] htab (fun z hz => by rcases List.mem_cons.mp hz with rfl | hz; exact Or.inr ⟨by decide, exN 1, lk_1, C.2.2.2.2.2.2.2.2.2.2.2.1.2.2.2.2.1⟩; cases List.mem_singleton.mp hz; exact Or.inr ⟨by decide, exN 2, lk_2, C.2.2.2.2.2.2.2.2.2.2.2.1.2.2.2.2.2⟩) rfl (by decide) lk_3 (exW_use C.2.2.2.2.2.2.2 (.castable (exN 3) (exN 3)) (by simp [exW])) (fun q => ?_)
          refine j_astore_n C (i := 3) dL_addMenu_18 rfl (by decide) rfl ?_
          refine j_iconst C (v := 3) rfl dL_addMenu_19 ?_
          exact j_wiret C hr hk (fun _ _ => rfl) ⟨Nat.le_of_ble_eq_true rfl, Nat.le_of_ble_eq_true rfl⟩ rfl dL_addMenu_20
        · rw [if_neg y3] at hf
          cases hf
  · rw [if_pos y] at hf
    rw [← hg9 0 m_0, ← hg9 19 m_19]
    obtain rfl := Option.some.inj hf
    refine j_i2l C dL_addMenu_7 ?_
    refine ast_19 C (X := Unit) (y := some ()) (r := ()) rfl dL_addMenu_8 (fun _ => ?_)
    refine j_goto C 21 dL_addMenu_9 rfl ?_
    refine j_iconst C (v := 0) rfl dL_addMenu_21 ?_
    exact j_wiret C hr hk hg9 ⟨Nat.le_of_ble_eq_true rfl, Nat.le_of_ble_eq_true rfl⟩ rfl dL_addMenu_22
set_option maxRecDepth 100000 in
set_option maxHeartbeats 4000000 in
theorem k_L_addNumber {l : Launch} {G : GT} {ad : Nat → Nat} {a : KS} {b : MS} {v1 : Int32} {v2 : Int32} {v3 : Int32} {v4 : Int32} {rr : Int32 × KS} (hst : l.stackTraces = false) (hf : f_L_addNumber a v1 v2 v3 v4 = some rr) : MW l G yL_addNumber cL_addNumber 7 (some .int) [(0, 14, 17, 13), (0, 14, 21, 15), (0, 14, 25, 17)] (RX 10 5 39) [.ref (ad 0), .int v1, .int v2, .int v3, .int v4, .ref (ad 19)] ad a b (some (.int rr.1)) rr.2 b := by
  refine MW_of (lv := [(0, .ref (ad 0)), (1, .int v1), (2, .int v2), (3, .int v3), (4, .int v4), (5, .ref (ad 19))]) (by decide) (Nat.le_of_ble_eq_true rfl) rfl ?_
  intro p e s m args below meth c A C hr hk htab
  unfold f_L_addNumber at hf
  obtain ⟨z, h, hf⟩ := bnd_some hf
  refine j_aload C 5 rfl dL_addNumber_0 ?_
  refine j_iconst C (v := 0) rfl dL_addNumber_2 ?_
  refine j_aload_n C 0 rfl dL_addNumber_3 ?_
  refine j_iload_n C 1 rfl dL_addNumber_4 ?_
  refine j_iload_n C 2 rfl dL_addNumber_5 ?_
  refine j_iload_n C 3 rfl dL_addNumber_6 ?_
  refine j_iload C 4 rfl dL_addNumber_7 ?_
  refine j_acallV (q := 0) (As := [.int v1, .int v2, .int v3, .int v4]) (rest := [.int 0, .ref (ad 19)]) C (k_X8_addNumber hst h) cw_X8_addNumber ml_L_19 m_0 ce_0 rfl rfl ⟨Nat.le_of_ble_eq_true rfl, Nat.le_of_ble_eq_true rfl⟩ ⟨Nat.le_of_ble_eq_true rfl, Nat.le_of_ble_eq_true rfl⟩ rfl (Nat.le_of_ble_eq_true rfl) dL_addNumber_9 (fun y => ?_) (fun ad9 hg9 y => ?_)
  · rw [if_neg y] at hf
    by_cases y1 : z.1 = 1
    · rw [if_pos y1] at hf
      obtain rfl := Option.some.inj hf
      rw [y1]
      refine j_xcatch (name := exN 1) C [] ⟨0, 14, 17, 13⟩ [⟨0, 14, 21, 15⟩, ⟨0, 14, 25, 17⟩] htab (fun z hz => by cases hz) rfl (by decide) lk_1 (exW_use C.2.2.2.2.2.2.2 (.castable (exN 1) (exN 1)) (by simp [exW])) (fun q => ?_)
      refine j_astore C (i := 6) dL_addNumber_17 (by decide) rfl ?_
      refine j_iconst C (v := 1) rfl dL_addNumber_19 ?_
      exact j_wiret C hr hk (fun _ _ => rfl) ⟨Nat.le_of_ble_eq_true rfl, Nat.le_of_ble_eq_true rfl⟩ rfl dL_addNumber_20
    · rw [if_neg y1] at hf
      by_cases y2 : z.1 = 2
      · rw [if_pos y2] at hf
        obtain rfl := Option.some.inj hf
        rw [y2]
        refine j_xcatch (name := exN 2) C [⟨0, 14, 17, 13⟩] ⟨0, 14, 21, 15⟩ [⟨0, 14, 25, 17⟩] htab (fun z hz => by cases List.mem_singleton.mp hz; exact Or.inr ⟨by decide, exN 1, lk_1, C.2.2.2.2.2.2.2.2.2.2.2.1.2.2.1⟩) rfl (by decide) lk_2 (exW_use C.2.2.2.2.2.2.2 (.castable (exN 2) (exN 2)) (by simp [exW])) (fun q => ?_)
        refine j_astore C (i := 6) dL_addNumber_21 (by decide) rfl ?_
        refine j_iconst C (v := 2) rfl dL_addNumber_23 ?_
        exact j_wiret C hr hk (fun _ _ => rfl) ⟨Nat.le_of_ble_eq_true rfl, Nat.le_of_ble_eq_true rfl⟩ rfl dL_addNumber_24
      · rw [if_neg y2] at hf
        by_cases y3 : z.1 = 3
        · rw [if_pos y3] at hf
          obtain rfl := Option.some.inj hf
          rw [y3]
          refine j_xcatch (name := exN 3) C [⟨0, 14, 17, 13⟩, ⟨0, 14, 21, 15⟩] ⟨0, 14, 25, 17⟩ [] htab (fun z hz => by rcases List.mem_cons.mp hz with rfl | hz; exact Or.inr ⟨by decide, exN 1, lk_1, C.2.2.2.2.2.2.2.2.2.2.2.1.2.2.2.2.1⟩; cases List.mem_singleton.mp hz; exact Or.inr ⟨by decide, exN 2, lk_2, C.2.2.2.2.2.2.2.2.2.2.2.1.2.2.2.2.2⟩) rfl (by decide) lk_3 (exW_use C.2.2.2.2.2.2.2 (.castable (exN 3) (exN 3)) (by simp [exW])) (fun q => ?_)
          refine j_astore C (i := 6) dL_addNumber_25 (by decide) rfl ?_
          refine j_iconst C (v := 3) rfl dL_addNumber_27 ?_
          exact j_wiret C hr hk (fun _ _ => rfl) ⟨Nat.le_of_ble_eq_true rfl, Nat.le_of_ble_eq_true rfl⟩ rfl dL_addNumber_28
        · rw [if_neg y3] at hf
          cases hf
  · rw [if_pos y] at hf
    rw [← hg9 0 m_0, ← hg9 19 m_19]
    obtain rfl := Option.some.inj hf
    refine j_i2l C dL_addNumber_12 ?_
    refine ast_19 C (X := Unit) (y := some ()) (r := ()) rfl dL_addNumber_13 (fun _ => ?_)
    refine j_goto C 29 dL_addNumber_14 rfl ?_
    refine j_iconst C (v := 0) rfl dL_addNumber_29 ?_
    exact j_wiret C hr hk hg9 ⟨Nat.le_of_ble_eq_true rfl, Nat.le_of_ble_eq_true rfl⟩ rfl dL_addNumber_30
set_option maxRecDepth 100000 in
set_option maxHeartbeats 4000000 in
theorem k_L_addChoice {l : Launch} {G : GT} {ad : Nat → Nat} {a : KS} {b : MS} {v1 : Int32} {v2 : Int32} {rr : Int32 × KS} (hst : l.stackTraces = false) (hf : f_L_addChoice a v1 v2 = some rr) : MW l G yL_addChoice cL_addChoice 5 (some .int) [(0, 10, 13, 13), (0, 10, 17, 15), (0, 10, 21, 17)] (RX 10 5 39) [.ref (ad 0), .int v1, .int v2, .ref (ad 19)] ad a b (some (.int rr.1)) rr.2 b := by
  refine MW_of (lv := [(0, .ref (ad 0)), (1, .int v1), (2, .int v2), (3, .ref (ad 19))]) (by decide) (Nat.le_of_ble_eq_true rfl) rfl ?_
  intro p e s m args below meth c A C hr hk htab
  unfold f_L_addChoice at hf
  obtain ⟨z, h, hf⟩ := bnd_some hf
  refine j_aload_n C 3 rfl dL_addChoice_0 ?_
  refine j_iconst C (v := 0) rfl dL_addChoice_1 ?_
  refine j_aload_n C 0 rfl dL_addChoice_2 ?_
  refine j_iload_n C 1 rfl dL_addChoice_3 ?_
  refine j_iload_n C 2 rfl dL_addChoice_4 ?_
  refine j_acallV (q := 0) (As := [.int v1, .int v2]) (rest := [.int 0, .ref (ad 19)]) C (k_X8_addChoice hst h) cw_X8_addChoice ml_L_23 m_0 ce_0 rfl rfl ⟨Nat.le_of_ble_eq_true rfl, Nat.le_of_ble_eq_true rfl⟩ ⟨Nat.le_of_ble_eq_true rfl, Nat.le_of_ble_eq_true rfl⟩ rfl (Nat.le_of_ble_eq_true rfl) dL_addChoice_5 (fun y => ?_) (fun ad9 hg9 y => ?_)
  · rw [if_neg y] at hf
    by_cases y1 : z.1 = 1
    · rw [if_pos y1] at hf
      obtain rfl := Option.some.inj hf
      rw [y1]
      refine j_xcatch (name := exN 1) C [] ⟨0, 10, 13, 13⟩ [⟨0, 10, 17, 15⟩, ⟨0, 10, 21, 17⟩] htab (fun z hz => by cases hz) rfl (by decide) lk_1 (exW_use C.2.2.2.2.2.2.2 (.castable (exN 1) (exN 1)) (by simp [exW])) (fun q => ?_)
      refine j_astore C (i := 4) dL_addChoice_13 (by decide) rfl ?_
      refine j_iconst C (v := 1) rfl dL_addChoice_15 ?_
      exact j_wiret C hr hk (fun _ _ => rfl) ⟨Nat.le_of_ble_eq_true rfl, Nat.le_of_ble_eq_true rfl⟩ rfl dL_addChoice_16
    · rw [if_neg y1] at hf
      by_cases y2 : z.1 = 2
      · rw [if_pos y2] at hf
        obtain rfl := Option.some.inj hf
        rw [y2]
        refine j_xcatch (name := exN 2) C [⟨0, 10, 13, 13⟩] ⟨0, 10, 17, 15⟩ [⟨0, 10, 21, 17⟩] htab (fun z hz => by cases List.mem_singleton.mp hz; exact Or.inr ⟨by decide, exN 1, lk_1, C.2.2.2.2.2.2.2.2.2.2.2.1.2.2.1⟩) rfl (by decide) lk_2 (exW_use C.2.2.2.2.2.2.2 (.castable (exN 2) (exN 2)) (by simp [exW])) (fun q => ?_)
        refine j_astore C (i := 4) dL_addChoice_17 (by decide) rfl ?_
        refine j_iconst C (v := 2) rfl dL_addChoice_19 ?_
        exact j_wiret C hr hk (fun _ _ => rfl) ⟨Nat.le_of_ble_eq_true rfl, Nat.le_of_ble_eq_true rfl⟩ rfl dL_addChoice_20
      · rw [if_neg y2] at hf
        by_cases y3 : z.1 = 3
        · rw [if_pos y3] at hf
          obtain rfl := Option.some.inj hf
          rw [y3]
          refine j_xcatch (name := exN 3) C [⟨0, 10, 13, 13⟩, ⟨0, 10, 17, 15⟩] ⟨0, 10, 21, 17⟩ [] htab (fun z hz => by rcases List.mem_cons.mp hz with rfl | hz; exact Or.inr ⟨by decide, exN 1, lk_1, C.2.2.2.2.2.2.2.2.2.2.2.1.2.2.2.2.1⟩; cases List.mem_singleton.mp hz; exact Or.inr ⟨by decide, exN 2, lk_2, C.2.2.2.2.2.2.2.2.2.2.2.1.2.2.2.2.2⟩) rfl (by decide) lk_3 (exW_use C.2.2.2.2.2.2.2 (.castable (exN 3) (exN 3)) (by simp [exW])) (fun q => ?_)
          refine j_astore C (i := 4) dL_addChoice_21 (by decide) rfl ?_
          refine j_iconst C (v := 3) rfl dL_addChoice_23 ?_
          exact j_wiret C hr hk (fun _ _ => rfl) ⟨Nat.le_of_ble_eq_true rfl, Nat.le_of_ble_eq_true rfl⟩ rfl dL_addChoice_24
        · rw [if_neg y3] at hf
          cases hf
  · rw [if_pos y] at hf
    rw [← hg9 0 m_0, ← hg9 19 m_19]
    obtain rfl := Option.some.inj hf
    refine j_i2l C dL_addChoice_8 ?_
    refine ast_19 C (X := Unit) (y := some ()) (r := ()) rfl dL_addChoice_9 (fun _ => ?_)
    refine j_goto C 25 dL_addChoice_10 rfl ?_
    refine j_iconst C (v := 0) rfl dL_addChoice_25 ?_
    exact j_wiret C hr hk hg9 ⟨Nat.le_of_ble_eq_true rfl, Nat.le_of_ble_eq_true rfl⟩ rfl dL_addChoice_26
set_option maxRecDepth 100000 in
set_option maxHeartbeats 4000000 in
theorem k_L_lock {l : Launch} {G : GT} {ad : Nat → Nat} {a : KS} {b : MS} {v1 : Int32} {v2 : Int32} {rr : Int32 × KS} (hst : l.stackTraces = false) (hf : f_L_lock a v1 v2 = some rr) : MW l G yL_lock cL_lock 5 (some .int) [(0, 10, 13, 13), (0, 10, 17, 15), (0, 10, 21, 17)] (RX 9 2 12) [.ref (ad 0), .int v1, .int v2, .ref (ad 19)] ad a b (some (.int rr.1)) rr.2 b := by
  refine MW_of (lv := [(0, .ref (ad 0)), (1, .int v1), (2, .int v2), (3, .ref (ad 19))]) (by decide) (Nat.le_of_ble_eq_true rfl) rfl ?_
  intro p e s m args below meth c A C hr hk htab
  unfold f_L_lock at hf
  obtain ⟨z, h, hf⟩ := bnd_some hf
  refine j_aload_n C 3 rfl dL_lock_0 ?_
  refine j_iconst C (v := 0) rfl dL_lock_1 ?_
  refine j_aload_n C 0 rfl dL_lock_2 ?_
  refine j_iload_n C 1 rfl dL_lock_3 ?_
  refine j_iload_n C 2 rfl dL_lock_4 ?_
  refine j_xcallV (q := 0) (As := [.int v1, .int v2]) (rest := [.int 0, .ref (ad 19)]) C (k_X8_lock hst h) cw_X8_lock ml_L_27 m_0 ce_0 rfl rfl ⟨Nat.le_of_ble_eq_true rfl, Nat.le_of_ble_eq_true rfl⟩ ⟨Nat.le_of_ble_eq_true rfl, Nat.le_of_ble_eq_true rfl⟩ rfl (Nat.le_of_ble_eq_true rfl) dL_lock_5 (fun y => ?_) (fun y => ?_)
  · rw [if_neg y] at hf
    by_cases y1 : z.1 = 1
    · rw [if_pos y1] at hf
      obtain rfl := Option.some.inj hf
      rw [y1]
      refine j_xcatch (name := exN 1) C [] ⟨0, 10, 13, 13⟩ [⟨0, 10, 17, 15⟩, ⟨0, 10, 21, 17⟩] htab (fun z hz => by cases hz) rfl (by decide) lk_1 (exW_use C.2.2.2.2.2.2.2 (.castable (exN 1) (exN 1)) (by simp [exW])) (fun q => ?_)
      refine j_astore C (i := 4) dL_lock_13 (by decide) rfl ?_
      refine j_iconst C (v := 1) rfl dL_lock_15 ?_
      exact j_wiret C hr hk (fun _ _ => rfl) ⟨Nat.le_of_ble_eq_true rfl, Nat.le_of_ble_eq_true rfl⟩ rfl dL_lock_16
    · rw [if_neg y1] at hf
      by_cases y2 : z.1 = 2
      · rw [if_pos y2] at hf
        obtain rfl := Option.some.inj hf
        rw [y2]
        refine j_xcatch (name := exN 2) C [⟨0, 10, 13, 13⟩] ⟨0, 10, 17, 15⟩ [⟨0, 10, 21, 17⟩] htab (fun z hz => by cases List.mem_singleton.mp hz; exact Or.inr ⟨by decide, exN 1, lk_1, C.2.2.2.2.2.2.2.2.2.2.2.1.2.2.1⟩) rfl (by decide) lk_2 (exW_use C.2.2.2.2.2.2.2 (.castable (exN 2) (exN 2)) (by simp [exW])) (fun q => ?_)
        refine j_astore C (i := 4) dL_lock_17 (by decide) rfl ?_
        refine j_iconst C (v := 2) rfl dL_lock_19 ?_
        exact j_wiret C hr hk (fun _ _ => rfl) ⟨Nat.le_of_ble_eq_true rfl, Nat.le_of_ble_eq_true rfl⟩ rfl dL_lock_20
      · rw [if_neg y2] at hf
        by_cases y3 : z.1 = 3
        · rw [if_pos y3] at hf
          obtain rfl := Option.some.inj hf
          rw [y3]
          refine j_xcatch (name := exN 3) C [⟨0, 10, 13, 13⟩, ⟨0, 10, 17, 15⟩] ⟨0, 10, 21, 17⟩ [] htab (fun z hz => by rcases List.mem_cons.mp hz with rfl | hz; exact Or.inr ⟨by decide, exN 1, lk_1, C.2.2.2.2.2.2.2.2.2.2.2.1.2.2.2.2.1⟩; cases List.mem_singleton.mp hz; exact Or.inr ⟨by decide, exN 2, lk_2, C.2.2.2.2.2.2.2.2.2.2.2.1.2.2.2.2.2⟩) rfl (by decide) lk_3 (exW_use C.2.2.2.2.2.2.2 (.castable (exN 3) (exN 3)) (by simp [exW])) (fun q => ?_)
          refine j_astore C (i := 4) dL_lock_21 (by decide) rfl ?_
          refine j_iconst C (v := 3) rfl dL_lock_23 ?_
          exact j_wiret C hr hk (fun _ _ => rfl) ⟨Nat.le_of_ble_eq_true rfl, Nat.le_of_ble_eq_true rfl⟩ rfl dL_lock_24
        · rw [if_neg y3] at hf
          cases hf
  · rw [if_pos y] at hf
    obtain rfl := Option.some.inj hf
    refine j_i2l C dL_lock_8 ?_
    refine ast_19 C (X := Unit) (y := some ()) (r := ()) rfl dL_lock_9 (fun _ => ?_)
    refine j_goto C 25 dL_lock_10 rfl ?_
    refine j_iconst C (v := 0) rfl dL_lock_25 ?_
    exact j_wiret C hr hk (fun _ _ => rfl) ⟨Nat.le_of_ble_eq_true rfl, Nat.le_of_ble_eq_true rfl⟩ rfl dL_lock_26
set_option maxRecDepth 100000 in
set_option maxHeartbeats 4000000 in
theorem k_L_kind {l : Launch} {G : GT} {ad : Nat → Nat} {a : KS} {b : MS} {v1 : Int32} {rr : Int32 × KS} (hst : l.stackTraces = false) (hf : f_L_kind a v1 = some rr) : MW l G yL_kind cL_kind 4 (some .int) [(0, 9, 12, 13)] (RX 9 1 6) [.ref (ad 0), .int v1, .ref (ad 19)] ad a b (some (.int rr.1)) rr.2 b := by
  refine MW_of (lv := [(0, .ref (ad 0)), (1, .int v1), (2, .ref (ad 19))]) (by decide) (Nat.le_of_ble_eq_true rfl) rfl ?_
  intro p e s m args below meth c A C hr hk htab
  unfold f_L_kind at hf
  obtain ⟨z, h, hf⟩ := bnd_some hf
  refine j_aload_n C 2 rfl dL_kind_0 ?_
  refine j_iconst C (v := 0) rfl dL_kind_1 ?_
  refine j_aload_n C 0 rfl dL_kind_2 ?_
  refine j_iload_n C 1 rfl dL_kind_3 ?_
  refine j_xcallV (q := 0) (As := [.int v1]) (rest := [.int 0, .ref (ad 19)]) C (k_X8_kind hst h) cw_X8_kind ml_L_30 m_0 ce_0 rfl rfl ⟨Nat.le_of_ble_eq_true rfl, Nat.le_of_ble_eq_true rfl⟩ ⟨Nat.le_of_ble_eq_true rfl, Nat.le_of_ble_eq_true rfl⟩ rfl (Nat.le_of_ble_eq_true rfl) dL_kind_4 (fun y => ?_) (fun y => ?_)
  · rw [if_neg y] at hf
    by_cases y1 : z.1 = 1
    · rw [if_pos y1] at hf
      obtain rfl := Option.some.inj hf
      rw [y1]
      refine j_xcatch (name := exN 1) C [] ⟨0, 9, 12, 13⟩ [] htab (fun z hz => by cases hz) rfl (by decide) lk_1 (exW_use C.2.2.2.2.2.2.2 (.castable (exN 1) (exN 1)) (by simp [exW])) (fun q => ?_)
      refine j_astore_n C (i := 3) dL_kind_12 rfl (by decide) rfl ?_
      refine j_iconst C (v := 1) rfl dL_kind_13 ?_
      exact j_wiret C hr hk (fun _ _ => rfl) ⟨Nat.le_of_ble_eq_true rfl, Nat.le_of_ble_eq_true rfl⟩ rfl dL_kind_14
    · rw [if_neg y1] at hf
      cases hf
  · rw [if_pos y] at hf
    obtain rfl := Option.some.inj hf
    refine j_i2l C dL_kind_7 ?_
    refine ast_19 C (X := Unit) (y := some ()) (r := ()) rfl dL_kind_8 (fun _ => ?_)
    refine j_goto C 15 dL_kind_9 rfl ?_
    refine j_iconst C (v := 0) rfl dL_kind_15 ?_
    exact j_wiret C hr hk (fun _ _ => rfl) ⟨Nat.le_of_ble_eq_true rfl, Nat.le_of_ble_eq_true rfl⟩ rfl dL_kind_16
set_option maxRecDepth 100000 in
set_option maxHeartbeats 4000000 in
theorem k_L_menuOf {l : Launch} {G : GT} {ad : Nat → Nat} {a : KS} {b : MS} {v1 : Int32} {rr : Int32 × KS} (hst : l.stackTraces = false) (hf : f_L_menuOf a v1 = some rr) : MW l G yL_menuOf cL_menuOf 4 (some .int) [(0, 9, 12, 13)] (RX 9 1 6) [.ref (ad 0), .int v1, .ref (ad 19)] ad a b (some (.int rr.1)) rr.2 b := by
  refine MW_of (lv := [(0, .ref (ad 0)), (1, .int v1), (2, .ref (ad 19))]) (by decide) (Nat.le_of_ble_eq_true rfl) rfl ?_
  intro p e s m args below meth c A C hr hk htab
  unfold f_L_menuOf at hf
  obtain ⟨z, h, hf⟩ := bnd_some hf
  refine j_aload_n C 2 rfl dL_menuOf_0 ?_
  refine j_iconst C (v := 0) rfl dL_menuOf_1 ?_
  refine j_aload_n C 0 rfl dL_menuOf_2 ?_
  refine j_iload_n C 1 rfl dL_menuOf_3 ?_
  refine j_xcallV (q := 0) (As := [.int v1]) (rest := [.int 0, .ref (ad 19)]) C (k_X8_menuOf hst h) cw_X8_menuOf ml_L_33 m_0 ce_0 rfl rfl ⟨Nat.le_of_ble_eq_true rfl, Nat.le_of_ble_eq_true rfl⟩ ⟨Nat.le_of_ble_eq_true rfl, Nat.le_of_ble_eq_true rfl⟩ rfl (Nat.le_of_ble_eq_true rfl) dL_menuOf_4 (fun y => ?_) (fun y => ?_)
  · rw [if_neg y] at hf
    by_cases y1 : z.1 = 1
    · rw [if_pos y1] at hf
      obtain rfl := Option.some.inj hf
      rw [y1]
      refine j_xcatch (name := exN 1) C [] ⟨0, 9, 12, 13⟩ [] htab (fun z hz => by cases hz) rfl (by decide) lk_1 (exW_use C.2.2.2.2.2.2.2 (.castable (exN 1) (exN 1)) (by simp [exW])) (fun q => ?_)
      refine j_astore_n C (i := 3) dL_menuOf_12 rfl (by decide) rfl ?_
      refine j_iconst C (v := 1) rfl dL_menuOf_13 ?_
      exact j_wiret C hr hk (fun _ _ => rfl) ⟨Nat.le_of_ble_eq_true rfl, Nat.le_of_ble_eq_true rfl⟩ rfl dL_menuOf_14
    · rw [if_neg y1] at hf
      cases hf
  · rw [if_pos y] at hf
    obtain rfl := Option.some.inj hf
    refine j_i2l C dL_menuOf_7 ?_
    refine ast_19 C (X := Unit) (y := some ()) (r := ()) rfl dL_menuOf_8 (fun _ => ?_)
    refine j_goto C 15 dL_menuOf_9 rfl ?_
    refine j_iconst C (v := 0) rfl dL_menuOf_15 ?_
    exact j_wiret C hr hk (fun _ _ => rfl) ⟨Nat.le_of_ble_eq_true rfl, Nat.le_of_ble_eq_true rfl⟩ rfl dL_menuOf_16
set_option maxRecDepth 100000 in
set_option maxHeartbeats 4000000 in
theorem k_L_value {l : Launch} {G : GT} {ad : Nat → Nat} {a : KS} {b : MS} {v1 : Int32} {rr : Int32 × KS} (hst : l.stackTraces = false) (hf : f_L_value a v1 = some rr) : MW l G yL_value cL_value 4 (some .int) [(0, 9, 12, 13), (0, 9, 15, 15)] (RX 9 2 12) [.ref (ad 0), .int v1, .ref (ad 19)] ad a b (some (.int rr.1)) rr.2 b := by
  refine MW_of (lv := [(0, .ref (ad 0)), (1, .int v1), (2, .ref (ad 19))]) (by decide) (Nat.le_of_ble_eq_true rfl) rfl ?_
  intro p e s m args below meth c A C hr hk htab
  unfold f_L_value at hf
  obtain ⟨z, h, hf⟩ := bnd_some hf
  refine j_aload_n C 2 rfl dL_value_0 ?_
  refine j_iconst C (v := 0) rfl dL_value_1 ?_
  refine j_aload_n C 0 rfl dL_value_2 ?_
  refine j_iload_n C 1 rfl dL_value_3 ?_
  refine j_xcallV (q := 0) (As := [.int v1]) (rest := [.int 0, .ref (ad 19)]) C (k_X8_value hst h) cw_X8_value ml_L_36 m_0 ce_0 rfl rfl ⟨Nat.le_of_ble_eq_true rfl, Nat.le_of_ble_eq_true rfl⟩ ⟨Nat.le_of_ble_eq_true rfl, Nat.le_of_ble_eq_true rfl⟩ rfl (Nat.le_of_ble_eq_true rfl) dL_value_4 (fun y => ?_) (fun y => ?_)
  · rw [if_neg y] at hf
    by_cases y1 : z.1 = 1
    · rw [if_pos y1] at hf
      obtain rfl := Option.some.inj hf
      rw [y1]
      refine j_xcatch (name := exN 1) C [] ⟨0, 9, 12, 13⟩ [⟨0, 9, 15, 15⟩] htab (fun z hz => by cases hz) rfl (by decide) lk_1 (exW_use C.2.2.2.2.2.2.2 (.castable (exN 1) (exN 1)) (by simp [exW])) (fun q => ?_)
      refine j_astore_n C (i := 3) dL_value_12 rfl (by decide) rfl ?_
      refine j_iconst C (v := 1) rfl dL_value_13 ?_
      exact j_wiret C hr hk (fun _ _ => rfl) ⟨Nat.le_of_ble_eq_true rfl, Nat.le_of_ble_eq_true rfl⟩ rfl dL_value_14
    · rw [if_neg y1] at hf
      by_cases y2 : z.1 = 2
      · rw [if_pos y2] at hf
        obtain rfl := Option.some.inj hf
        rw [y2]
        refine j_xcatch (name := exN 2) C [⟨0, 9, 12, 13⟩] ⟨0, 9, 15, 15⟩ [] htab (fun z hz => by cases List.mem_singleton.mp hz; exact Or.inr ⟨by decide, exN 1, lk_1, C.2.2.2.2.2.2.2.2.2.2.2.1.2.2.1⟩) rfl (by decide) lk_2 (exW_use C.2.2.2.2.2.2.2 (.castable (exN 2) (exN 2)) (by simp [exW])) (fun q => ?_)
        refine j_astore_n C (i := 3) dL_value_15 rfl (by decide) rfl ?_
        refine j_iconst C (v := 2) rfl dL_value_16 ?_
        exact j_wiret C hr hk (fun _ _ => rfl) ⟨Nat.le_of_ble_eq_true rfl, Nat.le_of_ble_eq_true rfl⟩ rfl dL_value_17
      · rw [if_neg y2] at hf
        cases hf
  · rw [if_pos y] at hf
    obtain rfl := Option.some.inj hf
    refine j_i2l C dL_value_7 ?_
    refine ast_19 C (X := Unit) (y := some ()) (r := ()) rfl dL_value_8 (fun _ => ?_)
    refine j_goto C 18 dL_value_9 rfl ?_
    refine j_iconst C (v := 0) rfl dL_value_18 ?_
    exact j_wiret C hr hk (fun _ _ => rfl) ⟨Nat.le_of_ble_eq_true rfl, Nat.le_of_ble_eq_true rfl⟩ rfl dL_value_19
set_option maxRecDepth 100000 in
set_option maxHeartbeats 4000000 in
theorem k_L_isClosed {l : Launch} {G : GT} {ad : Nat → Nat} {a : KS} {b : MS} {v1 : Int32} {rr : Int32 × KS} (hst : l.stackTraces = false) (hf : f_L_isClosed a v1 = some rr) : MW l G yL_isClosed cL_isClosed 4 (some .int) [(0, 16, 19, 13)] (RX 9 1 6) [.ref (ad 0), .int v1, .ref (ad 19)] ad a b (some (.int rr.1)) rr.2 b := by
  refine MW_of (lv := [(0, .ref (ad 0)), (1, .int v1), (2, .ref (ad 19))]) (by decide) (Nat.le_of_ble_eq_true rfl) rfl ?_
  intro p e s m args below meth c A C hr hk htab
  unfold f_L_isClosed at hf
  obtain ⟨z, h, hf⟩ := bnd_some hf
  refine j_aload_n C 2 rfl dL_isClosed_0 ?_
  refine j_iconst C (v := 0) rfl dL_isClosed_1 ?_
  refine j_aload_n C 0 rfl dL_isClosed_2 ?_
  refine j_iload_n C 1 rfl dL_isClosed_3 ?_
  refine j_xcallV (q := 0) (As := [.int v1]) (rest := [.int 0, .ref (ad 19)]) C (k_X8_isClosed hst h) cw_X8_isClosed ml_L_39 m_0 ce_0 rfl rfl ⟨Nat.le_of_ble_eq_true rfl, Nat.le_of_ble_eq_true rfl⟩ ⟨Nat.le_of_ble_eq_true rfl, Nat.le_of_ble_eq_true rfl⟩ rfl (Nat.le_of_ble_eq_true rfl) dL_isClosed_4 (fun y => ?_) (fun y => ?_)
  · rw [if_neg y] at hf
    by_cases y1 : z.1 = 1
    · rw [if_pos y1] at hf
      obtain rfl := Option.some.inj hf
      rw [y1]
      refine j_xcatch (name := exN 1) C [] ⟨0, 16, 19, 13⟩ [] htab (fun z hz => by cases hz) rfl (by decide) lk_1 (exW_use C.2.2.2.2.2.2.2 (.castable (exN 1) (exN 1)) (by simp [exW])) (fun q => ?_)
      refine j_astore_n C (i := 3) dL_isClosed_19 rfl (by decide) rfl ?_
      refine j_iconst C (v := 1) rfl dL_isClosed_20 ?_
      exact j_wiret C hr hk (fun _ _ => rfl) ⟨Nat.le_of_ble_eq_true rfl, Nat.le_of_ble_eq_true rfl⟩ rfl dL_isClosed_21
    · rw [if_neg y1] at hf
      cases hf
  · rw [if_pos y] at hf
    refine j_if_eq C 14 dL_isClosed_7 rfl hf (fun _ hf => ?_) (fun _ hf => ?_)
    · obtain rfl := Option.some.inj hf
      refine j_lconst C (v := 0) rfl dL_isClosed_14 ?_
      refine ast_19 C (X := Unit) (y := some ()) (r := ()) rfl dL_isClosed_15 (fun _ => ?_)
      refine j_goto C 22 dL_isClosed_16 rfl ?_
      refine j_iconst C (v := 0) rfl dL_isClosed_22 ?_
      exact j_wiret C hr hk (fun _ _ => rfl) ⟨Nat.le_of_ble_eq_true rfl, Nat.le_of_ble_eq_true rfl⟩ rfl dL_isClosed_23
    · obtain rfl := Option.some.inj hf
      refine j_lconst C (v := 1) rfl dL_isClosed_10 ?_
      refine j_goto C 15 dL_isClosed_11 rfl ?_
      refine ast_19 C (X := Unit) (y := some ()) (r := ()) rfl dL_isClosed_15 (fun _ => ?_)
      refine j_goto C 22 dL_isClosed_16 rfl ?_
      refine j_iconst C (v := 0) rfl dL_isClosed_22 ?_
      exact j_wiret C hr hk (fun _ _ => rfl) ⟨Nat.le_of_ble_eq_true rfl, Nat.le_of_ble_eq_true rfl⟩ rfl dL_isClosed_23
set_option maxRecDepth 100000 in
set_option maxHeartbeats 4000000 in
theorem k_L_turn {l : Launch} {G : GT} {ad : Nat → Nat} {a : KS} {b : MS} {v1 : Int32} {rr : Int32 × KS} (hst : l.stackTraces = false) (hf : f_L_turn a v1 = some rr) : MW l G yL_turn cL_turn 4 (some .int) [(0, 9, 12, 15)] (RX 9 1 6) [.ref (ad 0), .int v1, .ref (ad 19)] ad a b (some (.int rr.1)) rr.2 b := by
  refine MW_of (lv := [(0, .ref (ad 0)), (1, .int v1), (2, .ref (ad 19))]) (by decide) (Nat.le_of_ble_eq_true rfl) rfl ?_
  intro p e s m args below meth c A C hr hk htab
  unfold f_L_turn at hf
  obtain ⟨z, h, hf⟩ := bnd_some hf
  refine j_aload_n C 2 rfl dL_turn_0 ?_
  refine j_iconst C (v := 0) rfl dL_turn_1 ?_
  refine j_aload_n C 0 rfl dL_turn_2 ?_
  refine j_iload_n C 1 rfl dL_turn_3 ?_
  refine j_xcallV (q := 0) (As := [.int v1]) (rest := [.int 0, .ref (ad 19)]) C (k_X8_turn hst h) cw_X8_turn ml_L_43 m_0 ce_0 rfl rfl ⟨Nat.le_of_ble_eq_true rfl, Nat.le_of_ble_eq_true rfl⟩ ⟨Nat.le_of_ble_eq_true rfl, Nat.le_of_ble_eq_true rfl⟩ rfl (Nat.le_of_ble_eq_true rfl) dL_turn_4 (fun y => ?_) (fun y => ?_)
  · rw [if_neg y] at hf
    by_cases y2 : z.1 = 2
    · rw [if_pos y2] at hf
      obtain rfl := Option.some.inj hf
      rw [y2]
      refine j_xcatch (name := exN 2) C [] ⟨0, 9, 12, 15⟩ [] htab (fun z hz => by cases hz) rfl (by decide) lk_2 (exW_use C.2.2.2.2.2.2.2 (.castable (exN 2) (exN 2)) (by simp [exW])) (fun q => ?_)
      refine j_astore_n C (i := 3) dL_turn_12 rfl (by decide) rfl ?_
      refine j_iconst C (v := 1) rfl dL_turn_13 ?_
      exact j_wiret C hr hk (fun _ _ => rfl) ⟨Nat.le_of_ble_eq_true rfl, Nat.le_of_ble_eq_true rfl⟩ rfl dL_turn_14
    · rw [if_neg y2] at hf
      cases hf
  · rw [if_pos y] at hf
    obtain rfl := Option.some.inj hf
    refine j_i2l C dL_turn_7 ?_
    refine ast_19 C (X := Unit) (y := some ()) (r := ()) rfl dL_turn_8 (fun _ => ?_)
    refine j_goto C 15 dL_turn_9 rfl ?_
    refine j_iconst C (v := 0) rfl dL_turn_15 ?_
    exact j_wiret C hr hk (fun _ _ => rfl) ⟨Nat.le_of_ble_eq_true rfl, Nat.le_of_ble_eq_true rfl⟩ rfl dL_turn_16
set_option maxRecDepth 100000 in
set_option maxHeartbeats 4000000 in
theorem k_L_tick {l : Launch} {G : GT} {ad : Nat → Nat} {a : KS} {b : MS} {v1 : Int32} {rr : Int32 × KS} (hst : l.stackTraces = false) (hf : f_L_tick a v1 = some rr) : MW l G yL_tick cL_tick 4 (some .int) [(0, 9, 12, 15)] (RX 8 1 6) [.ref (ad 0), .int v1, .ref (ad 19)] ad a b (some (.int rr.1)) rr.2 b := by
  refine MW_of (lv := [(0, .ref (ad 0)), (1, .int v1), (2, .ref (ad 19))]) (by decide) (Nat.le_of_ble_eq_true rfl) rfl ?_
  intro p e s m args below meth c A C hr hk htab
  unfold f_L_tick at hf
  obtain ⟨z, h, hf⟩ := bnd_some hf
  refine j_aload_n C 2 rfl dL_tick_0 ?_
  refine j_iconst C (v := 0) rfl dL_tick_1 ?_
  refine j_aload_n C 0 rfl dL_tick_2 ?_
  refine j_iload_n C 1 rfl dL_tick_3 ?_
  refine j_xcallV (q := 0) (As := [.int v1]) (rest := [.int 0, .ref (ad 19)]) C (k_X8_tick hst h) cw_X8_tick ml_L_46 m_0 ce_0 rfl rfl ⟨Nat.le_of_ble_eq_true rfl, Nat.le_of_ble_eq_true rfl⟩ ⟨Nat.le_of_ble_eq_true rfl, Nat.le_of_ble_eq_true rfl⟩ rfl (Nat.le_of_ble_eq_true rfl) dL_tick_4 (fun y => ?_) (fun y => ?_)
  · rw [if_neg y] at hf
    by_cases y2 : z.1 = 2
    · rw [if_pos y2] at hf
      obtain rfl := Option.some.inj hf
      rw [y2]
      refine j_xcatch (name := exN 2) C [] ⟨0, 9, 12, 15⟩ [] htab (fun z hz => by cases hz) rfl (by decide) lk_2 (exW_use C.2.2.2.2.2.2.2 (.castable (exN 2) (exN 2)) (by simp [exW])) (fun q => ?_)
      refine j_astore_n C (i := 3) dL_tick_12 rfl (by decide) rfl ?_
      refine j_iconst C (v := 1) rfl dL_tick_13 ?_
      exact j_wiret C hr hk (fun _ _ => rfl) ⟨Nat.le_of_ble_eq_true rfl, Nat.le_of_ble_eq_true rfl⟩ rfl dL_tick_14
    · rw [if_neg y2] at hf
      cases hf
  · rw [if_pos y] at hf
    obtain rfl := Option.some.inj hf
    refine j_i2l C dL_tick_7 ?_
    refine ast_19 C (X := Unit) (y := some ()) (r := ()) rfl dL_tick_8 (fun _ => ?_)
    refine j_goto C 15 dL_tick_9 rfl ?_
    refine j_iconst C (v := 0) rfl dL_tick_15 ?_
    exact j_wiret C hr hk (fun _ _ => rfl) ⟨Nat.le_of_ble_eq_true rfl, Nat.le_of_ble_eq_true rfl⟩ rfl dL_tick_16
set_option maxRecDepth 100000 in
set_option maxHeartbeats 4000000 in
theorem k_L_set {l : Launch} {G : GT} {ad : Nat → Nat} {a : KS} {b : MS} {v1 : Int32} {v2 : Int32} {rr : Int32 × KS} (hst : l.stackTraces = false) (hf : f_L_set a v1 v2 = some rr) : MW l G yL_set cL_set 5 (some .int) [(0, 10, 13, 13), (0, 10, 17, 15)] (RX 8 1 6) [.ref (ad 0), .int v1, .int v2, .ref (ad 19)] ad a b (some (.int rr.1)) rr.2 b := by
  refine MW_of (lv := [(0, .ref (ad 0)), (1, .int v1), (2, .int v2), (3, .ref (ad 19))]) (by decide) (Nat.le_of_ble_eq_true rfl) rfl ?_
  intro p e s m args below meth c A C hr hk htab
  unfold f_L_set at hf
  obtain ⟨z, h, hf⟩ := bnd_some hf
  refine j_aload_n C 3 rfl dL_set_0 ?_
  refine j_iconst C (v := 0) rfl dL_set_1 ?_
  refine j_aload_n C 0 rfl dL_set_2 ?_
  refine j_iload_n C 1 rfl dL_set_3 ?_
  refine j_iload_n C 2 rfl dL_set_4 ?_
  refine j_xcallV (q := 0) (As := [.int v1, .int v2]) (rest := [.int 0, .ref (ad 19)]) C (k_X8_set hst h) cw_X8_set ml_L_49 m_0 ce_0 rfl rfl ⟨Nat.le_of_ble_eq_true rfl, Nat.le_of_ble_eq_true rfl⟩ ⟨Nat.le_of_ble_eq_true rfl, Nat.le_of_ble_eq_true rfl⟩ rfl (Nat.le_of_ble_eq_true rfl) dL_set_5 (fun y => ?_) (fun y => ?_)
  · rw [if_neg y] at hf
    by_cases y1 : z.1 = 1
    · rw [if_pos y1] at hf
      obtain rfl := Option.some.inj hf
      rw [y1]
      refine j_xcatch (name := exN 1) C [] ⟨0, 10, 13, 13⟩ [⟨0, 10, 17, 15⟩] htab (fun z hz => by cases hz) rfl (by decide) lk_1 (exW_use C.2.2.2.2.2.2.2 (.castable (exN 1) (exN 1)) (by simp [exW])) (fun q => ?_)
      refine j_astore C (i := 4) dL_set_13 (by decide) rfl ?_
      refine j_iconst C (v := 1) rfl dL_set_15 ?_
      exact j_wiret C hr hk (fun _ _ => rfl) ⟨Nat.le_of_ble_eq_true rfl, Nat.le_of_ble_eq_true rfl⟩ rfl dL_set_16
    · rw [if_neg y1] at hf
      by_cases y2 : z.1 = 2
      · rw [if_pos y2] at hf
        obtain rfl := Option.some.inj hf
        rw [y2]
        refine j_xcatch (name := exN 2) C [⟨0, 10, 13, 13⟩] ⟨0, 10, 17, 15⟩ [] htab (fun z hz => by cases List.mem_singleton.mp hz; exact Or.inr ⟨by decide, exN 1, lk_1, C.2.2.2.2.2.2.2.2.2.2.2.1.2.2.1⟩) rfl (by decide) lk_2 (exW_use C.2.2.2.2.2.2.2 (.castable (exN 2) (exN 2)) (by simp [exW])) (fun q => ?_)
        refine j_astore C (i := 4) dL_set_17 (by decide) rfl ?_
        refine j_iconst C (v := 2) rfl dL_set_19 ?_
        exact j_wiret C hr hk (fun _ _ => rfl) ⟨Nat.le_of_ble_eq_true rfl, Nat.le_of_ble_eq_true rfl⟩ rfl dL_set_20
      · rw [if_neg y2] at hf
        cases hf
  · rw [if_pos y] at hf
    obtain rfl := Option.some.inj hf
    refine j_i2l C dL_set_8 ?_
    refine ast_19 C (X := Unit) (y := some ()) (r := ()) rfl dL_set_9 (fun _ => ?_)
    refine j_goto C 21 dL_set_10 rfl ?_
    refine j_iconst C (v := 0) rfl dL_set_21 ?_
    exact j_wiret C hr hk (fun _ _ => rfl) ⟨Nat.le_of_ble_eq_true rfl, Nat.le_of_ble_eq_true rfl⟩ rfl dL_set_22
set_option maxRecDepth 100000 in
set_option maxHeartbeats 4000000 in
theorem k_L_takeBack {l : Launch} {G : GT} {ad : Nat → Nat} {a : KS} {b : MS}  {rr : Int32 × KS} (hst : l.stackTraces = false) (hf : f_L_takeBack a  = some rr) : MW l G yL_takeBack cL_takeBack 3 (some .int) [(0, 8, 11, 17)] (RX 8 1 6) [.ref (ad 0), .ref (ad 19)] ad a b (some (.int rr.1)) rr.2 b := by
  refine MW_of (lv := [(0, .ref (ad 0)), (1, .ref (ad 19))]) (by decide) (Nat.le_of_ble_eq_true rfl) rfl ?_
  intro p e s m args below meth c A C hr hk htab
  unfold f_L_takeBack at hf
  obtain ⟨z, h, hf⟩ := bnd_some hf
  refine j_aload_n C 1 rfl dL_takeBack_0 ?_
  refine j_iconst C (v := 0) rfl dL_takeBack_1 ?_
  refine j_aload_n C 0 rfl dL_takeBack_2 ?_
  refine j_xcallV (q := 0) (As := []) (rest := [.int 0, .ref (ad 19)]) C (k_X8_takeBack hst h) cw_X8_takeBack ml_L_52 m_0 ce_0 rfl rfl ⟨Nat.le_of_ble_eq_true rfl, Nat.le_of_ble_eq_true rfl⟩ ⟨Nat.le_of_ble_eq_true rfl, Nat.le_of_ble_eq_true rfl⟩ rfl (Nat.le_of_ble_eq_true rfl) dL_takeBack_3 (fun y => ?_) (fun y => ?_)
  · rw [if_neg y] at hf
    by_cases y3 : z.1 = 3
    · rw [if_pos y3] at hf
      obtain rfl := Option.some.inj hf
      rw [y3]
      refine j_xcatch (name := exN 3) C [] ⟨0, 8, 11, 17⟩ [] htab (fun z hz => by cases hz) rfl (by decide) lk_3 (exW_use C.2.2.2.2.2.2.2 (.castable (exN 3) (exN 3)) (by simp [exW])) (fun q => ?_)
      refine j_astore_n C (i := 2) dL_takeBack_11 rfl (by decide) rfl ?_
      refine j_iconst C (v := 1) rfl dL_takeBack_12 ?_
      exact j_wiret C hr hk (fun _ _ => rfl) ⟨Nat.le_of_ble_eq_true rfl, Nat.le_of_ble_eq_true rfl⟩ rfl dL_takeBack_13
    · rw [if_neg y3] at hf
      cases hf
  · rw [if_pos y] at hf
    obtain rfl := Option.some.inj hf
    refine j_i2l C dL_takeBack_6 ?_
    refine ast_19 C (X := Unit) (y := some ()) (r := ()) rfl dL_takeBack_7 (fun _ => ?_)
    refine j_goto C 14 dL_takeBack_8 rfl ?_
    refine j_iconst C (v := 0) rfl dL_takeBack_14 ?_
    exact j_wiret C hr hk (fun _ _ => rfl) ⟨Nat.le_of_ble_eq_true rfl, Nat.le_of_ble_eq_true rfl⟩ rfl dL_takeBack_15
set_option maxRecDepth 100000 in
set_option maxHeartbeats 4000000 in
theorem k_L_savePreset {l : Launch} {G : GT} {ad : Nat → Nat} {a : KS} {b : MS} {v1 : Int32} {rr : Int32 × KS} (hst : l.stackTraces = false) (hf : f_L_savePreset a v1 = some rr) : MW l G yL_savePreset cL_savePreset 4 (some .int) [(0, 9, 12, 15)] (RX 9 1 6) [.ref (ad 0), .int v1, .ref (ad 19)] ad a b (some (.int rr.1)) rr.2 b := by
  refine MW_of (lv := [(0, .ref (ad 0)), (1, .int v1), (2, .ref (ad 19))]) (by decide) (Nat.le_of_ble_eq_true rfl) rfl ?_
  intro p e s m args below meth c A C hr hk htab
  unfold f_L_savePreset at hf
  obtain ⟨z, h, hf⟩ := bnd_some hf
  refine j_aload_n C 2 rfl dL_savePreset_0 ?_
  refine j_iconst C (v := 0) rfl dL_savePreset_1 ?_
  refine j_aload_n C 0 rfl dL_savePreset_2 ?_
  refine j_iload_n C 1 rfl dL_savePreset_3 ?_
  refine j_xcallV (q := 0) (As := [.int v1]) (rest := [.int 0, .ref (ad 19)]) C (k_X8_savePreset hst h) cw_X8_savePreset ml_L_56 m_0 ce_0 rfl rfl ⟨Nat.le_of_ble_eq_true rfl, Nat.le_of_ble_eq_true rfl⟩ ⟨Nat.le_of_ble_eq_true rfl, Nat.le_of_ble_eq_true rfl⟩ rfl (Nat.le_of_ble_eq_true rfl) dL_savePreset_4 (fun y => ?_) (fun y => ?_)
  · rw [if_neg y] at hf
    by_cases y2 : z.1 = 2
    · rw [if_pos y2] at hf
      obtain rfl := Option.some.inj hf
      rw [y2]
      refine j_xcatch (name := exN 2) C [] ⟨0, 9, 12, 15⟩ [] htab (fun z hz => by cases hz) rfl (by decide) lk_2 (exW_use C.2.2.2.2.2.2.2 (.castable (exN 2) (exN 2)) (by simp [exW])) (fun q => ?_)
      refine j_astore_n C (i := 3) dL_savePreset_12 rfl (by decide) rfl ?_
      refine j_iconst C (v := 1) rfl dL_savePreset_13 ?_
      exact j_wiret C hr hk (fun _ _ => rfl) ⟨Nat.le_of_ble_eq_true rfl, Nat.le_of_ble_eq_true rfl⟩ rfl dL_savePreset_14
    · rw [if_neg y2] at hf
      cases hf
  · rw [if_pos y] at hf
    obtain rfl := Option.some.inj hf
    refine j_i2l C dL_savePreset_7 ?_
    refine ast_19 C (X := Unit) (y := some ()) (r := ()) rfl dL_savePreset_8 (fun _ => ?_)
    refine j_goto C 15 dL_savePreset_9 rfl ?_
    refine j_iconst C (v := 0) rfl dL_savePreset_15 ?_
    exact j_wiret C hr hk (fun _ _ => rfl) ⟨Nat.le_of_ble_eq_true rfl, Nat.le_of_ble_eq_true rfl⟩ rfl dL_savePreset_16
set_option maxRecDepth 100000 in
set_option maxHeartbeats 4000000 in
theorem k_L_loadPreset {l : Launch} {G : GT} {ad : Nat → Nat} {a : KS} {b : MS} {v1 : Int32} {rr : Int32 × KS} (hst : l.stackTraces = false) (hf : f_L_loadPreset a v1 = some rr) : MW l G yL_loadPreset cL_loadPreset 4 (some .int) [(0, 9, 12, 15), (0, 9, 15, 17)] (RX 9 2 12) [.ref (ad 0), .int v1, .ref (ad 19)] ad a b (some (.int rr.1)) rr.2 b := by
  refine MW_of (lv := [(0, .ref (ad 0)), (1, .int v1), (2, .ref (ad 19))]) (by decide) (Nat.le_of_ble_eq_true rfl) rfl ?_
  intro p e s m args below meth c A C hr hk htab
  unfold f_L_loadPreset at hf
  obtain ⟨z, h, hf⟩ := bnd_some hf
  refine j_aload_n C 2 rfl dL_loadPreset_0 ?_
  refine j_iconst C (v := 0) rfl dL_loadPreset_1 ?_
  refine j_aload_n C 0 rfl dL_loadPreset_2 ?_
  refine j_iload_n C 1 rfl dL_loadPreset_3 ?_
  refine j_xcallV (q := 0) (As := [.int v1]) (rest := [.int 0, .ref (ad 19)]) C (k_X8_loadPreset hst h) cw_X8_loadPreset ml_L_59 m_0 ce_0 rfl rfl ⟨Nat.le_of_ble_eq_true rfl, Nat.le_of_ble_eq_true rfl⟩ ⟨Nat.le_of_ble_eq_true rfl, Nat.le_of_ble_eq_true rfl⟩ rfl (Nat.le_of_ble_eq_true rfl) dL_loadPreset_4 (fun y => ?_) (fun y => ?_)
  · rw [if_neg y] at hf
    by_cases y2 : z.1 = 2
    · rw [if_pos y2] at hf
      obtain rfl := Option.some.inj hf
      rw [y2]
      refine j_xcatch (name := exN 2) C [] ⟨0, 9, 12, 15⟩ [⟨0, 9, 15, 17⟩] htab (fun z hz => by cases hz) rfl (by decide) lk_2 (exW_use C.2.2.2.2.2.2.2 (.castable (exN 2) (exN 2)) (by simp [exW])) (fun q => ?_)
      refine j_astore_n C (i := 3) dL_loadPreset_12 rfl (by decide) rfl ?_
      refine j_iconst C (v := 1) rfl dL_loadPreset_13 ?_
      exact j_wiret C hr hk (fun _ _ => rfl) ⟨Nat.le_of_ble_eq_true rfl, Nat.le_of_ble_eq_true rfl⟩ rfl dL_loadPreset_14
    · rw [if_neg y2] at hf
      by_cases y3 : z.1 = 3
      · rw [if_pos y3] at hf
        obtain rfl := Option.some.inj hf
        rw [y3]
        refine j_xcatch (name := exN 3) C [⟨0, 9, 12, 15⟩] ⟨0, 9, 15, 17⟩ [] htab (fun z hz => by cases List.mem_singleton.mp hz; exact Or.inr ⟨by decide, exN 2, lk_2, C.2.2.2.2.2.2.2.2.2.2.2.1.2.2.2.2.2⟩) rfl (by decide) lk_3 (exW_use C.2.2.2.2.2.2.2 (.castable (exN 3) (exN 3)) (by simp [exW])) (fun q => ?_)
        refine j_astore_n C (i := 3) dL_loadPreset_15 rfl (by decide) rfl ?_
        refine j_iconst C (v := 2) rfl dL_loadPreset_16 ?_
        exact j_wiret C hr hk (fun _ _ => rfl) ⟨Nat.le_of_ble_eq_true rfl, Nat.le_of_ble_eq_true rfl⟩ rfl dL_loadPreset_17
      · rw [if_neg y3] at hf
        cases hf
  · rw [if_pos y] at hf
    obtain rfl := Option.some.inj hf
    refine j_i2l C dL_loadPreset_7 ?_
    refine ast_19 C (X := Unit) (y := some ()) (r := ()) rfl dL_loadPreset_8 (fun _ => ?_)
    refine j_goto C 18 dL_loadPreset_9 rfl ?_
    refine j_iconst C (v := 0) rfl dL_loadPreset_18 ?_
    exact j_wiret C hr hk (fun _ _ => rfl) ⟨Nat.le_of_ble_eq_true rfl, Nat.le_of_ble_eq_true rfl⟩ rfl dL_loadPreset_19
set_option maxRecDepth 100000 in
set_option maxHeartbeats 4000000 in
theorem k_L_display {l : Launch} {G : GT} {ad : Nat → Nat} {a : KS} {b : MS} {v1 : Int32} {v2 : Int32} {rr : Int32 × KS} (hst : l.stackTraces = false) (hf : f_L_display a v1 v2 = some rr) : MW l G yL_display cL_display 5 (some .int) [(0, 10, 13, 13)] (RX 11 1 6) [.ref (ad 0), .int v1, .int v2, .ref (ad 19)] ad a b (some (.int rr.1)) rr.2 b := by
  refine MW_of (lv := [(0, .ref (ad 0)), (1, .int v1), (2, .int v2), (3, .ref (ad 19))]) (by decide) (Nat.le_of_ble_eq_true rfl) rfl ?_
  intro p e s m args below meth c A C hr hk htab
  unfold f_L_display at hf
  obtain ⟨z, h, hf⟩ := bnd_some hf
  refine j_aload_n C 3 rfl dL_display_0 ?_
  refine j_iconst C (v := 0) rfl dL_display_1 ?_
  refine j_aload_n C 0 rfl dL_display_2 ?_
  refine j_iload_n C 1 rfl dL_display_3 ?_
  refine j_iload_n C 2 rfl dL_display_4 ?_
  refine j_xcallV (q := 0) (As := [.int v1, .int v2]) (rest := [.int 0, .ref (ad 19)]) C (k_X8_display hst h) cw_X8_display ml_L_62 m_0 ce_0 rfl rfl ⟨Nat.le_of_ble_eq_true rfl, Nat.le_of_ble_eq_true rfl⟩ ⟨Nat.le_of_ble_eq_true rfl, Nat.le_of_ble_eq_true rfl⟩ rfl (Nat.le_of_ble_eq_true rfl) dL_display_5 (fun y => ?_) (fun y => ?_)
  · rw [if_neg y] at hf
    by_cases y1 : z.1 = 1
    · rw [if_pos y1] at hf
      obtain rfl := Option.some.inj hf
      rw [y1]
      refine j_xcatch (name := exN 1) C [] ⟨0, 10, 13, 13⟩ [] htab (fun z hz => by cases hz) rfl (by decide) lk_1 (exW_use C.2.2.2.2.2.2.2 (.castable (exN 1) (exN 1)) (by simp [exW])) (fun q => ?_)
      refine j_astore C (i := 4) dL_display_13 (by decide) rfl ?_
      refine j_iconst C (v := 1) rfl dL_display_15 ?_
      exact j_wiret C hr hk (fun _ _ => rfl) ⟨Nat.le_of_ble_eq_true rfl, Nat.le_of_ble_eq_true rfl⟩ rfl dL_display_16
    · rw [if_neg y1] at hf
      cases hf
  · rw [if_pos y] at hf
    obtain rfl := Option.some.inj hf
    refine j_i2l C dL_display_8 ?_
    refine ast_19 C (X := Unit) (y := some ()) (r := ()) rfl dL_display_9 (fun _ => ?_)
    refine j_goto C 17 dL_display_10 rfl ?_
    refine j_iconst C (v := 0) rfl dL_display_17 ?_
    exact j_wiret C hr hk (fun _ _ => rfl) ⟨Nat.le_of_ble_eq_true rfl, Nat.le_of_ble_eq_true rfl⟩ rfl dL_display_18
set_option maxRecDepth 100000 in
set_option maxHeartbeats 4000000 in
theorem k_L_events {l : Launch} {G : GT} {ad : Nat → Nat} {a : KS} {b : MS} {v1 : Int32} {rr : Int32 × KS} (hst : l.stackTraces = false) (hf : f_L_events a v1 = some rr) : MW l G yL_events cL_events 4 (some .int) [(0, 9, 12, 13)] (RX 8 1 6) [.ref (ad 0), .int v1, .ref (ad 19)] ad a b (some (.int rr.1)) rr.2 b := by
  refine MW_of (lv := [(0, .ref (ad 0)), (1, .int v1), (2, .ref (ad 19))]) (by decide) (Nat.le_of_ble_eq_true rfl) rfl ?_
  intro p e s m args below meth c A C hr hk htab
  unfold f_L_events at hf
  obtain ⟨z, h, hf⟩ := bnd_some hf
  refine j_aload_n C 2 rfl dL_events_0 ?_
  refine j_iconst C (v := 0) rfl dL_events_1 ?_
  refine j_aload_n C 0 rfl dL_events_2 ?_
  refine j_iload_n C 1 rfl dL_events_3 ?_
  refine j_xcallV (q := 0) (As := [.int v1]) (rest := [.int 0, .ref (ad 19)]) C (k_X8_events hst h) cw_X8_events ml_L_65 m_0 ce_0 rfl rfl ⟨Nat.le_of_ble_eq_true rfl, Nat.le_of_ble_eq_true rfl⟩ ⟨Nat.le_of_ble_eq_true rfl, Nat.le_of_ble_eq_true rfl⟩ rfl (Nat.le_of_ble_eq_true rfl) dL_events_4 (fun y => ?_) (fun y => ?_)
  · rw [if_neg y] at hf
    by_cases y1 : z.1 = 1
    · rw [if_pos y1] at hf
      obtain rfl := Option.some.inj hf
      rw [y1]
      refine j_xcatch (name := exN 1) C [] ⟨0, 9, 12, 13⟩ [] htab (fun z hz => by cases hz) rfl (by decide) lk_1 (exW_use C.2.2.2.2.2.2.2 (.castable (exN 1) (exN 1)) (by simp [exW])) (fun q => ?_)
      refine j_astore_n C (i := 3) dL_events_12 rfl (by decide) rfl ?_
      refine j_iconst C (v := 1) rfl dL_events_13 ?_
      exact j_wiret C hr hk (fun _ _ => rfl) ⟨Nat.le_of_ble_eq_true rfl, Nat.le_of_ble_eq_true rfl⟩ rfl dL_events_14
    · rw [if_neg y1] at hf
      cases hf
  · rw [if_pos y] at hf
    obtain rfl := Option.some.inj hf
    refine j_i2l C dL_events_7 ?_
    refine ast_19 C (X := Unit) (y := some ()) (r := ()) rfl dL_events_8 (fun _ => ?_)
    refine j_goto C 15 dL_events_9 rfl ?_
    refine j_iconst C (v := 0) rfl dL_events_15 ?_
    exact j_wiret C hr hk (fun _ _ => rfl) ⟨Nat.le_of_ble_eq_true rfl, Nat.le_of_ble_eq_true rfl⟩ rfl dL_events_16
set_option maxRecDepth 100000 in
set_option maxHeartbeats 4000000 in
theorem k_L_ifTurned {l : Launch} {G : GT} {ad : Nat → Nat} {a : KS} {b : MS} {v1 : Int32} {rr : Int32 × KS} (hst : l.stackTraces = false) (hf : f_L_ifTurned a v1 = some rr) : MW l G yL_ifTurned cL_ifTurned 4 (some .int) [(0, 9, 12, 15)] (RX 9 1 6) [.ref (ad 0), .int v1, .ref (ad 19)] ad a b (some (.int rr.1)) rr.2 b := by
  refine MW_of (lv := [(0, .ref (ad 0)), (1, .int v1), (2, .ref (ad 19))]) (by decide) (Nat.le_of_ble_eq_true rfl) rfl ?_
  intro p e s m args below meth c A C hr hk htab
  unfold f_L_ifTurned at hf
  obtain ⟨z, h, hf⟩ := bnd_some hf
  refine j_aload_n C 2 rfl dL_ifTurned_0 ?_
  refine j_iconst C (v := 0) rfl dL_ifTurned_1 ?_
  refine j_aload_n C 0 rfl dL_ifTurned_2 ?_
  refine j_iload_n C 1 rfl dL_ifTurned_3 ?_
  refine j_xcallV (q := 0) (As := [.int v1]) (rest := [.int 0, .ref (ad 19)]) C (k_X8_ifTurned hst h) cw_X8_ifTurned ml_L_68 m_0 ce_0 rfl rfl ⟨Nat.le_of_ble_eq_true rfl, Nat.le_of_ble_eq_true rfl⟩ ⟨Nat.le_of_ble_eq_true rfl, Nat.le_of_ble_eq_true rfl⟩ rfl (Nat.le_of_ble_eq_true rfl) dL_ifTurned_4 (fun y => ?_) (fun y => ?_)
  · rw [if_neg y] at hf
    by_cases y2 : z.1 = 2
    · rw [if_pos y2] at hf
      obtain rfl := Option.some.inj hf
      rw [y2]
      refine j_xcatch (name := exN 2) C [] ⟨0, 9, 12, 15⟩ [] htab (fun z hz => by cases hz) rfl (by decide) lk_2 (exW_use C.2.2.2.2.2.2.2 (.castable (exN 2) (exN 2)) (by simp [exW])) (fun q => ?_)
      refine j_astore_n C (i := 3) dL_ifTurned_12 rfl (by decide) rfl ?_
      refine j_iconst C (v := 1) rfl dL_ifTurned_13 ?_
      exact j_wiret C hr hk (fun _ _ => rfl) ⟨Nat.le_of_ble_eq_true rfl, Nat.le_of_ble_eq_true rfl⟩ rfl dL_ifTurned_14
    · rw [if_neg y2] at hf
      cases hf
  · rw [if_pos y] at hf
    obtain rfl := Option.some.inj hf
    refine j_i2l C dL_ifTurned_7 ?_
    refine ast_19 C (X := Unit) (y := some ()) (r := ()) rfl dL_ifTurned_8 (fun _ => ?_)
    refine j_goto C 15 dL_ifTurned_9 rfl ?_
    refine j_iconst C (v := 0) rfl dL_ifTurned_15 ?_
    exact j_wiret C hr hk (fun _ _ => rfl) ⟨Nat.le_of_ble_eq_true rfl, Nat.le_of_ble_eq_true rfl⟩ rfl dL_ifTurned_16
set_option maxRecDepth 100000 in
set_option maxHeartbeats 4000000 in
theorem k_L_pressesTo {l : Launch} {G : GT} {ad : Nat → Nat} {a : KS} {b : MS} {v1 : Int32} {rr : Int32 × KS} (hst : l.stackTraces = false) (hf : f_L_pressesTo a v1 = some rr) : MW l G yL_pressesTo cL_pressesTo 4 (some .int) [(0, 9, 12, 13)] (RX 9 1 6) [.ref (ad 0), .int v1, .ref (ad 19)] ad a b (some (.int rr.1)) rr.2 b := by
  refine MW_of (lv := [(0, .ref (ad 0)), (1, .int v1), (2, .ref (ad 19))]) (by decide) (Nat.le_of_ble_eq_true rfl) rfl ?_
  intro p e s m args below meth c A C hr hk htab
  unfold f_L_pressesTo at hf
  obtain ⟨z, h, hf⟩ := bnd_some hf
  refine j_aload_n C 2 rfl dL_pressesTo_0 ?_
  refine j_iconst C (v := 0) rfl dL_pressesTo_1 ?_
  refine j_aload_n C 0 rfl dL_pressesTo_2 ?_
  refine j_iload_n C 1 rfl dL_pressesTo_3 ?_
  refine j_xcallV (q := 0) (As := [.int v1]) (rest := [.int 0, .ref (ad 19)]) C (k_X8_pressesTo hst h) cw_X8_pressesTo ml_L_71 m_0 ce_0 rfl rfl ⟨Nat.le_of_ble_eq_true rfl, Nat.le_of_ble_eq_true rfl⟩ ⟨Nat.le_of_ble_eq_true rfl, Nat.le_of_ble_eq_true rfl⟩ rfl (Nat.le_of_ble_eq_true rfl) dL_pressesTo_4 (fun y => ?_) (fun y => ?_)
  · rw [if_neg y] at hf
    by_cases y1 : z.1 = 1
    · rw [if_pos y1] at hf
      obtain rfl := Option.some.inj hf
      rw [y1]
      refine j_xcatch (name := exN 1) C [] ⟨0, 9, 12, 13⟩ [] htab (fun z hz => by cases hz) rfl (by decide) lk_1 (exW_use C.2.2.2.2.2.2.2 (.castable (exN 1) (exN 1)) (by simp [exW])) (fun q => ?_)
      refine j_astore_n C (i := 3) dL_pressesTo_12 rfl (by decide) rfl ?_
      refine j_iconst C (v := 1) rfl dL_pressesTo_13 ?_
      exact j_wiret C hr hk (fun _ _ => rfl) ⟨Nat.le_of_ble_eq_true rfl, Nat.le_of_ble_eq_true rfl⟩ rfl dL_pressesTo_14
    · rw [if_neg y1] at hf
      cases hf
  · rw [if_pos y] at hf
    obtain rfl := Option.some.inj hf
    refine j_i2l C dL_pressesTo_7 ?_
    refine ast_19 C (X := Unit) (y := some ()) (r := ()) rfl dL_pressesTo_8 (fun _ => ?_)
    refine j_goto C 15 dL_pressesTo_9 rfl ?_
    refine j_iconst C (v := 0) rfl dL_pressesTo_15 ?_
    exact j_wiret C hr hk (fun _ _ => rfl) ⟨Nat.le_of_ble_eq_true rfl, Nat.le_of_ble_eq_true rfl⟩ rfl dL_pressesTo_16
set_option maxRecDepth 100000 in
set_option maxHeartbeats 4000000 in
theorem k_L_detentsTo {l : Launch} {G : GT} {ad : Nat → Nat} {a : KS} {b : MS} {v1 : Int32} {rr : Int32 × KS} (hst : l.stackTraces = false) (hf : f_L_detentsTo a v1 = some rr) : MW l G yL_detentsTo cL_detentsTo 4 (some .int) [(0, 9, 12, 13)] (RX 9 1 6) [.ref (ad 0), .int v1, .ref (ad 19)] ad a b (some (.int rr.1)) rr.2 b := by
  refine MW_of (lv := [(0, .ref (ad 0)), (1, .int v1), (2, .ref (ad 19))]) (by decide) (Nat.le_of_ble_eq_true rfl) rfl ?_
  intro p e s m args below meth c A C hr hk htab
  unfold f_L_detentsTo at hf
  obtain ⟨z, h, hf⟩ := bnd_some hf
  refine j_aload_n C 2 rfl dL_detentsTo_0 ?_
  refine j_iconst C (v := 0) rfl dL_detentsTo_1 ?_
  refine j_aload_n C 0 rfl dL_detentsTo_2 ?_
  refine j_iload_n C 1 rfl dL_detentsTo_3 ?_
  refine j_xcallV (q := 0) (As := [.int v1]) (rest := [.int 0, .ref (ad 19)]) C (k_X8_detentsTo hst h) cw_X8_detentsTo ml_L_74 m_0 ce_0 rfl rfl ⟨Nat.le_of_ble_eq_true rfl, Nat.le_of_ble_eq_true rfl⟩ ⟨Nat.le_of_ble_eq_true rfl, Nat.le_of_ble_eq_true rfl⟩ rfl (Nat.le_of_ble_eq_true rfl) dL_detentsTo_4 (fun y => ?_) (fun y => ?_)
  · rw [if_neg y] at hf
    by_cases y1 : z.1 = 1
    · rw [if_pos y1] at hf
      obtain rfl := Option.some.inj hf
      rw [y1]
      refine j_xcatch (name := exN 1) C [] ⟨0, 9, 12, 13⟩ [] htab (fun z hz => by cases hz) rfl (by decide) lk_1 (exW_use C.2.2.2.2.2.2.2 (.castable (exN 1) (exN 1)) (by simp [exW])) (fun q => ?_)
      refine j_astore_n C (i := 3) dL_detentsTo_12 rfl (by decide) rfl ?_
      refine j_iconst C (v := 1) rfl dL_detentsTo_13 ?_
      exact j_wiret C hr hk (fun _ _ => rfl) ⟨Nat.le_of_ble_eq_true rfl, Nat.le_of_ble_eq_true rfl⟩ rfl dL_detentsTo_14
    · rw [if_neg y1] at hf
      cases hf
  · rw [if_pos y] at hf
    obtain rfl := Option.some.inj hf
    refine j_i2l C dL_detentsTo_7 ?_
    refine ast_19 C (X := Unit) (y := some ()) (r := ()) rfl dL_detentsTo_8 (fun _ => ?_)
    refine j_goto C 15 dL_detentsTo_9 rfl ?_
    refine j_iconst C (v := 0) rfl dL_detentsTo_15 ?_
    exact j_wiret C hr hk (fun _ _ => rfl) ⟨Nat.le_of_ble_eq_true rfl, Nat.le_of_ble_eq_true rfl⟩ rfl dL_detentsTo_16
set_option maxRecDepth 100000 in
set_option maxHeartbeats 4000000 in
theorem k_L_codesTo {l : Launch} {G : GT} {ad : Nat → Nat} {a : KS} {b : MS} {v1 : Int32} {rr : Int32 × KS} (hst : l.stackTraces = false) (hf : f_L_codesTo a v1 = some rr) : MW l G yL_codesTo cL_codesTo 4 (some .int) [(0, 9, 12, 13)] (RX 9 1 6) [.ref (ad 0), .int v1, .ref (ad 19)] ad a b (some (.int rr.1)) rr.2 b := by
  refine MW_of (lv := [(0, .ref (ad 0)), (1, .int v1), (2, .ref (ad 19))]) (by decide) (Nat.le_of_ble_eq_true rfl) rfl ?_
  intro p e s m args below meth c A C hr hk htab
  unfold f_L_codesTo at hf
  obtain ⟨z, h, hf⟩ := bnd_some hf
  refine j_aload_n C 2 rfl dL_codesTo_0 ?_
  refine j_iconst C (v := 0) rfl dL_codesTo_1 ?_
  refine j_aload_n C 0 rfl dL_codesTo_2 ?_
  refine j_iload_n C 1 rfl dL_codesTo_3 ?_
  refine j_xcallV (q := 0) (As := [.int v1]) (rest := [.int 0, .ref (ad 19)]) C (k_X8_codesTo hst h) cw_X8_codesTo ml_L_77 m_0 ce_0 rfl rfl ⟨Nat.le_of_ble_eq_true rfl, Nat.le_of_ble_eq_true rfl⟩ ⟨Nat.le_of_ble_eq_true rfl, Nat.le_of_ble_eq_true rfl⟩ rfl (Nat.le_of_ble_eq_true rfl) dL_codesTo_4 (fun y => ?_) (fun y => ?_)
  · rw [if_neg y] at hf
    by_cases y1 : z.1 = 1
    · rw [if_pos y1] at hf
      obtain rfl := Option.some.inj hf
      rw [y1]
      refine j_xcatch (name := exN 1) C [] ⟨0, 9, 12, 13⟩ [] htab (fun z hz => by cases hz) rfl (by decide) lk_1 (exW_use C.2.2.2.2.2.2.2 (.castable (exN 1) (exN 1)) (by simp [exW])) (fun q => ?_)
      refine j_astore_n C (i := 3) dL_codesTo_12 rfl (by decide) rfl ?_
      refine j_iconst C (v := 1) rfl dL_codesTo_13 ?_
      exact j_wiret C hr hk (fun _ _ => rfl) ⟨Nat.le_of_ble_eq_true rfl, Nat.le_of_ble_eq_true rfl⟩ rfl dL_codesTo_14
    · rw [if_neg y1] at hf
      cases hf
  · rw [if_pos y] at hf
    obtain rfl := Option.some.inj hf
    refine j_i2l C dL_codesTo_7 ?_
    refine ast_19 C (X := Unit) (y := some ()) (r := ()) rfl dL_codesTo_8 (fun _ => ?_)
    refine j_goto C 15 dL_codesTo_9 rfl ?_
    refine j_iconst C (v := 0) rfl dL_codesTo_15 ?_
    exact j_wiret C hr hk (fun _ _ => rfl) ⟨Nat.le_of_ble_eq_true rfl, Nat.le_of_ble_eq_true rfl⟩ rfl dL_codesTo_16
set_option maxRecDepth 100000 in
set_option maxHeartbeats 4000000 in
theorem k_L_append {l : Launch} {G : GT} {ad : Nat → Nat} {a : KS} {b : MS} {v1 : Int32} {rr : Int32 × KS} (hst : l.stackTraces = false) (hf : f_L_append a v1 = some rr) : MW l G yL_append cL_append 4 (some .int) [(0, 9, 12, 15), (0, 9, 15, 17)] (RX 8 1 6) [.ref (ad 0), .int v1, .ref (ad 19)] ad a b (some (.int rr.1)) rr.2 b := by
  refine MW_of (lv := [(0, .ref (ad 0)), (1, .int v1), (2, .ref (ad 19))]) (by decide) (Nat.le_of_ble_eq_true rfl) rfl ?_
  intro p e s m args below meth c A C hr hk htab
  unfold f_L_append at hf
  obtain ⟨z, h, hf⟩ := bnd_some hf
  refine j_aload_n C 2 rfl dL_append_0 ?_
  refine j_iconst C (v := 0) rfl dL_append_1 ?_
  refine j_aload_n C 0 rfl dL_append_2 ?_
  refine j_iload_n C 1 rfl dL_append_3 ?_
  refine j_xcallV (q := 0) (As := [.int v1]) (rest := [.int 0, .ref (ad 19)]) C (k_X8_append hst h) cw_X8_append ml_L_80 m_0 ce_0 rfl rfl ⟨Nat.le_of_ble_eq_true rfl, Nat.le_of_ble_eq_true rfl⟩ ⟨Nat.le_of_ble_eq_true rfl, Nat.le_of_ble_eq_true rfl⟩ rfl (Nat.le_of_ble_eq_true rfl) dL_append_4 (fun y => ?_) (fun y => ?_)
  · rw [if_neg y] at hf
    by_cases y2 : z.1 = 2
    · rw [if_pos y2] at hf
      obtain rfl := Option.some.inj hf
      rw [y2]
      refine j_xcatch (name := exN 2) C [] ⟨0, 9, 12, 15⟩ [⟨0, 9, 15, 17⟩] htab (fun z hz => by cases hz) rfl (by decide) lk_2 (exW_use C.2.2.2.2.2.2.2 (.castable (exN 2) (exN 2)) (by simp [exW])) (fun q => ?_)
      refine j_astore_n C (i := 3) dL_append_12 rfl (by decide) rfl ?_
      refine j_iconst C (v := 1) rfl dL_append_13 ?_
      exact j_wiret C hr hk (fun _ _ => rfl) ⟨Nat.le_of_ble_eq_true rfl, Nat.le_of_ble_eq_true rfl⟩ rfl dL_append_14
    · rw [if_neg y2] at hf
      by_cases y3 : z.1 = 3
      · rw [if_pos y3] at hf
        obtain rfl := Option.some.inj hf
        rw [y3]
        refine j_xcatch (name := exN 3) C [⟨0, 9, 12, 15⟩] ⟨0, 9, 15, 17⟩ [] htab (fun z hz => by cases List.mem_singleton.mp hz; exact Or.inr ⟨by decide, exN 2, lk_2, C.2.2.2.2.2.2.2.2.2.2.2.1.2.2.2.2.2⟩) rfl (by decide) lk_3 (exW_use C.2.2.2.2.2.2.2 (.castable (exN 3) (exN 3)) (by simp [exW])) (fun q => ?_)
        refine j_astore_n C (i := 3) dL_append_15 rfl (by decide) rfl ?_
        refine j_iconst C (v := 2) rfl dL_append_16 ?_
        exact j_wiret C hr hk (fun _ _ => rfl) ⟨Nat.le_of_ble_eq_true rfl, Nat.le_of_ble_eq_true rfl⟩ rfl dL_append_17
      · rw [if_neg y3] at hf
        cases hf
  · rw [if_pos y] at hf
    obtain rfl := Option.some.inj hf
    refine j_i2l C dL_append_7 ?_
    refine ast_19 C (X := Unit) (y := some ()) (r := ()) rfl dL_append_8 (fun _ => ?_)
    refine j_goto C 18 dL_append_9 rfl ?_
    refine j_iconst C (v := 0) rfl dL_append_18 ?_
    exact j_wiret C hr hk (fun _ _ => rfl) ⟨Nat.le_of_ble_eq_true rfl, Nat.le_of_ble_eq_true rfl⟩ rfl dL_append_19
set_option maxRecDepth 100000 in
set_option maxHeartbeats 4000000 in
theorem k_L_run {l : Launch} {G : GT} {ad : Nat → Nat} {a : KS} {b : MS}  {rr : Int32 × KS} (hst : l.stackTraces = false) (hf : f_L_run a  = some rr) : MW l G yL_run cL_run 3 (some .int) [(0, 8, 11, 15)] (RX 8 1 6) [.ref (ad 0), .ref (ad 19)] ad a b (some (.int rr.1)) rr.2 b := by
  refine MW_of (lv := [(0, .ref (ad 0)), (1, .ref (ad 19))]) (by decide) (Nat.le_of_ble_eq_true rfl) rfl ?_
  intro p e s m args below meth c A C hr hk htab
  unfold f_L_run at hf
  obtain ⟨z, h, hf⟩ := bnd_some hf
  refine j_aload_n C 1 rfl dL_run_0 ?_
  refine j_iconst C (v := 0) rfl dL_run_1 ?_
  refine j_aload_n C 0 rfl dL_run_2 ?_
  refine j_xcallV (q := 0) (As := []) (rest := [.int 0, .ref (ad 19)]) C (k_X8_run hst h) cw_X8_run ml_L_83 m_0 ce_0 rfl rfl ⟨Nat.le_of_ble_eq_true rfl, Nat.le_of_ble_eq_true rfl⟩ ⟨Nat.le_of_ble_eq_true rfl, Nat.le_of_ble_eq_true rfl⟩ rfl (Nat.le_of_ble_eq_true rfl) dL_run_3 (fun y => ?_) (fun y => ?_)
  · rw [if_neg y] at hf
    by_cases y2 : z.1 = 2
    · rw [if_pos y2] at hf
      obtain rfl := Option.some.inj hf
      rw [y2]
      refine j_xcatch (name := exN 2) C [] ⟨0, 8, 11, 15⟩ [] htab (fun z hz => by cases hz) rfl (by decide) lk_2 (exW_use C.2.2.2.2.2.2.2 (.castable (exN 2) (exN 2)) (by simp [exW])) (fun q => ?_)
      refine j_astore_n C (i := 2) dL_run_11 rfl (by decide) rfl ?_
      refine j_iconst C (v := 1) rfl dL_run_12 ?_
      exact j_wiret C hr hk (fun _ _ => rfl) ⟨Nat.le_of_ble_eq_true rfl, Nat.le_of_ble_eq_true rfl⟩ rfl dL_run_13
    · rw [if_neg y2] at hf
      cases hf
  · rw [if_pos y] at hf
    obtain rfl := Option.some.inj hf
    refine j_i2l C dL_run_6 ?_
    refine ast_19 C (X := Unit) (y := some ()) (r := ()) rfl dL_run_7 (fun _ => ?_)
    refine j_goto C 14 dL_run_8 rfl ?_
    refine j_iconst C (v := 0) rfl dL_run_14 ?_
    exact j_wiret C hr hk (fun _ _ => rfl) ⟨Nat.le_of_ble_eq_true rfl, Nat.le_of_ble_eq_true rfl⟩ rfl dL_run_15
