def S_0 (I : Nat → KS → MS → Prop) : Prop := ∀ (j : Nat) (a : KS) (b : MS) (v1 v2 v3 v4 : Int32), j < 512 → I j a b → ∃ (z : Int32 × KS) (w : Int32 × MS) (t : Int32), (f_L_addMenu a v1 = some z) ∧ (f_X9_addMenu b v1 = some w) ∧ (f_X9_thrown w.2  = some t) ∧ (t = z.1) ∧ (z.1 = 0 → (Kou z.2 0) = w.1.toInt64) ∧ I (j + 1) z.2 w.2
def S_1 (I : Nat → KS → MS → Prop) : Prop := ∀ (j : Nat) (a : KS) (b : MS) (v1 v2 v3 v4 : Int32), j < 512 → I j a b → ∃ (z : Int32 × KS) (w : Int32 × MS) (t : Int32), (f_L_addNumber a v1 v2 v3 v4 = some z) ∧ (f_X9_addNumber b v1 v2 v3 v4 = some w) ∧ (f_X9_thrown w.2  = some t) ∧ (t = z.1) ∧ (z.1 = 0 → (Kou z.2 0) = w.1.toInt64) ∧ I (j + 1) z.2 w.2
def S_2 (I : Nat → KS → MS → Prop) : Prop := ∀ (j : Nat) (a : KS) (b : MS) (v1 v2 v3 v4 : Int32), j < 512 → I j a b → ∃ (z : Int32 × KS) (w : Int32 × MS) (t : Int32), (f_L_addChoice a v1 v2 = some z) ∧ (f_X9_addChoice b v1 v2 = some w) ∧ (f_X9_thrown w.2  = some t) ∧ (t = z.1) ∧ (z.1 = 0 → (Kou z.2 0) = w.1.toInt64) ∧ I (j + 1) z.2 w.2
def S_3 (I : Nat → KS → MS → Prop) : Prop := ∀ (j : Nat) (a : KS) (b : MS) (v1 v2 v3 v4 : Int32), j < 512 → I j a b → ∃ (z : Int32 × KS) (w : Int32 × MS) (t : Int32), (f_L_lock a v1 v2 = some z) ∧ (f_X9_lock b v1 v2 = some w) ∧ (f_X9_thrown w.2  = some t) ∧ (t = z.1) ∧ (z.1 = 0 → (Kou z.2 0) = w.1.toInt64) ∧ I (j + 1) z.2 w.2
def S_4 (I : Nat → KS → MS → Prop) : Prop := ∀ (j : Nat) (a : KS) (b : MS) (v1 v2 v3 v4 : Int32), j < 512 → I j a b → ∃ (z : Int32) (w : Int32 × MS), (f_X8_items a  = some z) ∧ (f_X9_items b  = some w) ∧ (z = w.1) ∧ I (j + 1) a w.2
def S_5 (I : Nat → KS → MS → Prop) : Prop := ∀ (j : Nat) (a : KS) (b : MS) (v1 v2 v3 v4 : Int32), j < 512 → I j a b → ∃ (z : Int32 × KS) (w : Int32 × MS) (t : Int32), (f_L_kind a v1 = some z) ∧ (f_X9_kind b v1 = some w) ∧ (f_X9_thrown w.2  = some t) ∧ (t = z.1) ∧ (z.1 = 0 → (Kou z.2 0) = w.1.toInt64) ∧ I (j + 1) z.2 w.2
def S_6 (I : Nat → KS → MS → Prop) : Prop := ∀ (j : Nat) (a : KS) (b : MS) (v1 v2 v3 v4 : Int32), j < 512 → I j a b → ∃ (z : Int32 × KS) (w : Int32 × MS) (t : Int32), (f_L_menuOf a v1 = some z) ∧ (f_X9_menuOf b v1 = some w) ∧ (f_X9_thrown w.2  = some t) ∧ (t = z.1) ∧ (z.1 = 0 → (Kou z.2 0) = w.1.toInt64) ∧ I (j + 1) z.2 w.2
def S_7 (I : Nat → KS → MS → Prop) : Prop := ∀ (j : Nat) (a : KS) (b : MS) (v1 v2 v3 v4 : Int32), j < 512 → I j a b → ∃ (z : Int32 × KS) (w : Int32 × MS) (t : Int32), (f_L_value a v1 = some z) ∧ (f_X9_value b v1 = some w) ∧ (f_X9_thrown w.2  = some t) ∧ (t = z.1) ∧ (z.1 = 0 → (Kou z.2 0) = w.1.toInt64) ∧ I (j + 1) z.2 w.2
def S_8 (I : Nat → KS → MS → Prop) : Prop := ∀ (j : Nat) (a : KS) (b : MS) (v1 v2 v3 v4 : Int32), j < 512 → I j a b → ∃ (z : Int32 × KS) (w : Int32 × MS) (t : Int32), (f_L_isClosed a v1 = some z) ∧ (f_X9_isClosed b v1 = some w) ∧ (f_X9_thrown w.2  = some t) ∧ (t = z.1) ∧ (z.1 = 0 → w.1 = 0 → Kou z.2 0 = 0) ∧ (z.1 = 0 → ¬ w.1 = 0 → Kou z.2 0 = 1) ∧ I (j + 1) z.2 w.2
def S_9 (I : Nat → KS → MS → Prop) : Prop := ∀ (j : Nat) (a : KS) (b : MS) (v1 v2 v3 v4 : Int32), j < 512 → I j a b → ∃ (z : Int32 × KS) (w : Int32 × MS) (t : Int32), (f_L_turn a v1 = some z) ∧ (f_X9_turn b v1 = some w) ∧ (f_X9_thrown w.2  = some t) ∧ (t = z.1) ∧ (z.1 = 0 → (Kou z.2 0) = w.1.toInt64) ∧ I (j + 1) z.2 w.2
def S_10 (I : Nat → KS → MS → Prop) : Prop := ∀ (j : Nat) (a : KS) (b : MS) (v1 v2 v3 v4 : Int32), j < 512 → I j a b → ∃ (z : Int32 × KS) (w : Int32 × MS), (f_X8_press a  = some z) ∧ (f_X9_press b  = some w) ∧ (z.1 = w.1) ∧ I (j + 1) z.2 w.2
def S_11 (I : Nat → KS → MS → Prop) : Prop := ∀ (j : Nat) (a : KS) (b : MS) (v1 v2 v3 v4 : Int32), j < 512 → I j a b → ∃ (z : Int32 × KS) (w : Int32 × MS), (f_X8_hold a  = some z) ∧ (f_X9_hold b  = some w) ∧ (z.1 = w.1) ∧ I (j + 1) z.2 w.2
def S_12 (I : Nat → KS → MS → Prop) : Prop := ∀ (j : Nat) (a : KS) (b : MS) (v1 v2 v3 v4 : Int32), j < 512 → I j a b → ∃ (z : Int32 × KS) (w : Int32 × MS) (t : Int32), (f_L_tick a v1 = some z) ∧ (f_X9_tick b v1 = some w) ∧ (f_X9_thrown w.2  = some t) ∧ (t = z.1) ∧ (z.1 = 0 → (Kou z.2 0) = w.1.toInt64) ∧ I (j + 1) z.2 w.2
def S_13 (I : Nat → KS → MS → Prop) : Prop := ∀ (j : Nat) (a : KS) (b : MS) (v1 v2 v3 v4 : Int32), j < 512 → I j a b → ∃ (z : Int32 × KS) (w : Int32 × MS) (t : Int32), (f_L_set a v1 v2 = some z) ∧ (f_X9_set b v1 v2 = some w) ∧ (f_X9_thrown w.2  = some t) ∧ (t = z.1) ∧ (z.1 = 0 → (Kou z.2 0) = w.1.toInt64) ∧ I (j + 1) z.2 w.2
def S_14 (I : Nat → KS → MS → Prop) : Prop := ∀ (j : Nat) (a : KS) (b : MS) (v1 v2 v3 v4 : Int32), j < 512 → I j a b → ∃ (z : Int32 × KS) (w : Int32 × MS) (t : Int32), (f_L_takeBack a  = some z) ∧ (f_X9_takeBack b  = some w) ∧ (f_X9_thrown w.2  = some t) ∧ (t = z.1) ∧ (z.1 = 0 → (Kou z.2 0) = w.1.toInt64) ∧ I (j + 1) z.2 w.2
def S_15 (I : Nat → KS → MS → Prop) : Prop := ∀ (j : Nat) (a : KS) (b : MS) (v1 v2 v3 v4 : Int32), j < 512 → I j a b → ∃ (z : Int32 × KS) (w : Int32 × MS) (t : Int32), (f_L_savePreset a v1 = some z) ∧ (f_X9_savePreset b v1 = some w) ∧ (f_X9_thrown w.2  = some t) ∧ (t = z.1) ∧ (z.1 = 0 → (Kou z.2 0) = w.1.toInt64) ∧ I (j + 1) z.2 w.2
def S_16 (I : Nat → KS → MS → Prop) : Prop := ∀ (j : Nat) (a : KS) (b : MS) (v1 v2 v3 v4 : Int32), j < 512 → I j a b → ∃ (z : Int32 × KS) (w : Int32 × MS) (t : Int32), (f_L_loadPreset a v1 = some z) ∧ (f_X9_loadPreset b v1 = some w) ∧ (f_X9_thrown w.2  = some t) ∧ (t = z.1) ∧ (z.1 = 0 → (Kou z.2 0) = w.1.toInt64) ∧ I (j + 1) z.2 w.2
def S_17 (I : Nat → KS → MS → Prop) : Prop := ∀ (j : Nat) (a : KS) (b : MS) (v1 v2 v3 v4 : Int32), j < 512 → I j a b → ∃ (z : Int32) (w : Int32 × MS), (f_X8_mode a  = some z) ∧ (f_X9_mode b  = some w) ∧ (z = w.1) ∧ I (j + 1) a w.2
def S_18 (I : Nat → KS → MS → Prop) : Prop := ∀ (j : Nat) (a : KS) (b : MS) (v1 v2 v3 v4 : Int32), j < 512 → I j a b → ∃ (z : Int32) (w : Int32 × MS), (f_X8_shown a  = some z) ∧ (f_X9_shown b  = some w) ∧ (z = w.1) ∧ I (j + 1) a w.2
def S_19 (I : Nat → KS → MS → Prop) : Prop := ∀ (j : Nat) (a : KS) (b : MS) (v1 v2 v3 v4 : Int32), j < 512 → I j a b → ∃ (z : Int32) (w : Int32 × MS), (f_X8_cursor a  = some z) ∧ (f_X9_cursor b  = some w) ∧ (z = w.1) ∧ I (j + 1) a w.2
def S_20 (I : Nat → KS → MS → Prop) : Prop := ∀ (j : Nat) (a : KS) (b : MS) (v1 v2 v3 v4 : Int32), j < 512 → I j a b → ∃ (z : Int32) (w : Int32 × MS), (f_X8_chosen a  = some z) ∧ (f_X9_chosen b  = some w) ∧ (z = w.1) ∧ I (j + 1) a w.2
def S_21 (I : Nat → KS → MS → Prop) : Prop := ∀ (j : Nat) (a : KS) (b : MS) (v1 v2 v3 v4 : Int32), j < 512 → I j a b → ∃ (z : Int32) (w : Int32 × MS), (f_X8_draft a  = some z) ∧ (f_X9_draft b  = some w) ∧ (z = w.1) ∧ I (j + 1) a w.2
def S_22 (I : Nat → KS → MS → Prop) : Prop := ∀ (j : Nat) (a : KS) (b : MS) (v1 v2 v3 v4 : Int32), j < 512 → I j a b → ∃ (z : Int32) (w : Int32 × MS), (f_X8_idle a  = some z) ∧ (f_X9_idle b  = some w) ∧ (z = w.1) ∧ I (j + 1) a w.2
def S_23 (I : Nat → KS → MS → Prop) : Prop := ∀ (j : Nat) (a : KS) (b : MS) (v1 v2 v3 v4 : Int32), j < 512 → I j a b → ∃ (z : Int32) (w : Int32 × MS), (f_X8_barred a  = some z) ∧ (f_X9_barred b  = some w) ∧ (z = w.1) ∧ I (j + 1) a w.2
def S_24 (I : Nat → KS → MS → Prop) : Prop := ∀ (j : Nat) (a : KS) (b : MS) (v1 v2 v3 v4 : Int32), j < 512 → I j a b → ∃ (z : Int32) (w : Int32 × MS), (f_X8_logged a  = some z) ∧ (f_X9_logged b  = some w) ∧ (z = w.1) ∧ I (j + 1) a w.2
def S_25 (I : Nat → KS → MS → Prop) : Prop := ∀ (j : Nat) (a : KS) (b : MS) (v1 v2 v3 v4 : Int32), j < 512 → I j a b → ∃ (z : Int32) (w : Int32 × MS), (f_X8_isHome a  = some z) ∧ (f_X9_isHome b  = some w) ∧ (z = w.1) ∧ I (j + 1) a w.2
def S_26 (I : Nat → KS → MS → Prop) : Prop := ∀ (j : Nat) (a : KS) (b : MS) (v1 v2 v3 v4 : Int32), j < 512 → I j a b → ∃ (z : Int32 × KS) (w : Int32 × MS) (t : Int32), (f_L_display a v1 v2 = some z) ∧ (f_X9_display b v1 v2 = some w) ∧ (f_X9_thrown w.2  = some t) ∧ (t = z.1) ∧ (z.1 = 0 → (Kou z.2 0) = w.1.toInt64) ∧ I (j + 1) z.2 w.2
def S_27 (I : Nat → KS → MS → Prop) : Prop := ∀ (j : Nat) (a : KS) (b : MS) (v1 v2 v3 v4 : Int32), j < 512 → I j a b → ∃ (z : Int32 × KS) (w : Int32 × MS) (t : Int32), (f_L_events a v1 = some z) ∧ (f_X9_events b v1 = some w) ∧ (f_X9_thrown w.2  = some t) ∧ (t = z.1) ∧ (z.1 = 0 → (Kou z.2 0) = w.1.toInt64) ∧ I (j + 1) z.2 w.2
def S_28 (I : Nat → KS → MS → Prop) : Prop := ∀ (j : Nat) (a : KS) (b : MS) (v1 v2 v3 v4 : Int32), j < 512 → I j a b → ∃ (z : Int32 × KS) (w : Int32 × MS) (t : Int32), (f_L_ifTurned a v1 = some z) ∧ (f_X9_ifTurned b v1 = some w) ∧ (f_X9_thrown w.2  = some t) ∧ (t = z.1) ∧ (z.1 = 0 → (Kou z.2 0) = w.1.toInt64) ∧ I (j + 1) z.2 w.2
def S_29 (I : Nat → KS → MS → Prop) : Prop := ∀ (j : Nat) (a : KS) (b : MS) (v1 v2 v3 v4 : Int32), j < 512 → I j a b → ∃ (z : Int32 × KS) (w : Int32 × MS) (t : Int32), (f_L_pressesTo a v1 = some z) ∧ (f_X9_pressesTo b v1 = some w) ∧ (f_X9_thrown w.2  = some t) ∧ (t = z.1) ∧ (z.1 = 0 → (Kou z.2 0) = w.1.toInt64) ∧ I (j + 1) z.2 w.2
def S_30 (I : Nat → KS → MS → Prop) : Prop := ∀ (j : Nat) (a : KS) (b : MS) (v1 v2 v3 v4 : Int32), j < 512 → I j a b → ∃ (z : Int32 × KS) (w : Int32 × MS) (t : Int32), (f_L_detentsTo a v1 = some z) ∧ (f_X9_detentsTo b v1 = some w) ∧ (f_X9_thrown w.2  = some t) ∧ (t = z.1) ∧ (z.1 = 0 → (Kou z.2 0) = w.1.toInt64) ∧ I (j + 1) z.2 w.2
def S_31 (I : Nat → KS → MS → Prop) : Prop := ∀ (j : Nat) (a : KS) (b : MS) (v1 v2 v3 v4 : Int32), j < 512 → I j a b → ∃ (z : Int32 × KS) (w : Int32 × MS) (t : Int32), (f_L_codesTo a v1 = some z) ∧ (f_X9_codesTo b v1 = some w) ∧ (f_X9_thrown w.2  = some t) ∧ (t = z.1) ∧ (z.1 = 0 → (Kou z.2 0) = w.1.toInt64) ∧ I (j + 1) z.2 w.2
def S_32 (I : Nat → KS → MS → Prop) : Prop := ∀ (j : Nat) (a : KS) (b : MS) (v1 v2 v3 v4 : Int32), j < 512 → I j a b → ∃ (z : Int32) (w : Int32 × MS), (f_X8_ticksToHome a  = some z) ∧ (f_X9_ticksToHome b  = some w) ∧ (z = w.1) ∧ I (j + 1) a w.2
def S_33 (I : Nat → KS → MS → Prop) : Prop := ∀ (j : Nat) (a : KS) (b : MS) (v1 v2 v3 v4 : Int32), j < 512 → I j a b → ∃ (z : UInt64) (w : UInt64 × MS), (f_X8_fraction a  = some z) ∧ (f_X9_fraction b  = some w) ∧ (z = w.1) ∧ I (j + 1) a w.2
def S_34 (I : Nat → KS → MS → Prop) : Prop := ∀ (j : Nat) (a : KS) (b : MS) (v1 v2 v3 v4 : Int32), j < 512 → I j a b → ∃ (z : Int32 × KS) (w : Int32 × MS) (t : Int32), (f_L_append a v1 = some z) ∧ (f_X9_append b v1 = some w) ∧ (f_X9_thrown w.2  = some t) ∧ (t = z.1) ∧ (z.1 = 0 → (Kou z.2 0) = w.1.toInt64) ∧ I (j + 1) z.2 w.2
def S_35 (I : Nat → KS → MS → Prop) : Prop := ∀ (j : Nat) (a : KS) (b : MS) (v1 v2 v3 v4 : Int32), j < 512 → I j a b → ∃ (z : Int32 × KS) (w : Int32 × MS), (f_X8_clearText a  = some z) ∧ (f_X9_clearText b  = some w) ∧ (z.1 = w.1) ∧ I (j + 1) z.2 w.2
def S_36 (I : Nat → KS → MS → Prop) : Prop := ∀ (j : Nat) (a : KS) (b : MS) (v1 v2 v3 v4 : Int32), j < 512 → I j a b → ∃ (z : Int32 × KS) (w : Int32 × MS), (f_X8_firstError a  = some z) ∧ (f_X9_firstError b  = some w) ∧ (z.1 = w.1) ∧ I (j + 1) z.2 w.2
def S_37 (I : Nat → KS → MS → Prop) : Prop := ∀ (j : Nat) (a : KS) (b : MS) (v1 v2 v3 v4 : Int32), j < 512 → I j a b → ∃ (z : Int32 × KS) (w : Int32 × MS) (t : Int32), (f_L_run a  = some z) ∧ (f_X9_run b  = some w) ∧ (f_X9_thrown w.2  = some t) ∧ (t = z.1) ∧ (z.1 = 0 → (Kou z.2 0) = w.1.toInt64) ∧ I (j + 1) z.2 w.2
def S_38 (I : Nat → KS → MS → Prop) : Prop := ∀ (j : Nat) (a : KS) (b : MS) (v1 v2 v3 v4 : Int32), j < 512 → I j a b → ∃ (z : Int64 × KS) (w : Int64 × MS), (f_X8_digest a  = some z) ∧ (f_X9_digest b  = some w) ∧ (z.1 = w.1) ∧ I (j + 1) z.2 w.2
section LD
variable {p : Program} {l : Launch} {e : Env} {R : Room} {s : State} {m : MethodId} {args : Array Value} {below : List Frame} {meth : Method} {c : Code} {G : GT} {A : Nat → Prop} {Q : State → Prop} {k n : Nat} {ad : Nat → Nat} {a : KS} {b : MS} {sc L : Nat} {xs : Nat → Int32} {i : Int32} {I : Nat → KS → MS → Prop} {j : Nat}
set_option maxHeartbeats 4000000 in
theorem law_switch (C : CX G A RL cL_law 9 p s m args c) (hX : SX A sc L xs s) (hst : l.stackTraces = false) (hF : 14 ≤ R.frames) (hM : 530 ≤ R.locals) (hC : k + 5 ≤ R.cells ∧ n + 39 ≤ R.slots) (hv1 : vp_in (i + 1) L) (hv2 : vp_in (i + 2) L) (hv3 : vp_in (i + 3) L) (hv4 : vp_in (i + 4) L) (H0 : S_0 I) (H1 : S_1 I) (H2 : S_2 I) (H3 : S_3 I) (H4 : S_4 I) (H5 : S_5 I) (H6 : S_6 I) (H7 : S_7 I) (H8 : S_8 I) (H9 : S_9 I) (H10 : S_10 I) (H11 : S_11 I) (H12 : S_12 I) (H13 : S_13 I) (H14 : S_14 I) (H15 : S_15 I) (H16 : S_16 I) (H17 : S_17 I) (H18 : S_18 I) (H19 : S_19 I) (H20 : S_20 I) (H21 : S_21 I) (H22 : S_22 I) (H23 : S_23 I) (H24 : S_24 I) (H25 : S_25 I) (H26 : S_26 I) (H27 : S_27 I) (H28 : S_28 I) (H29 : S_29 I) (H30 : S_30 I) (H31 : S_31 I) (H32 : S_32 I) (H33 : S_33 I) (H34 : S_34 I) (H35 : S_35 I) (H36 : S_36 I) (H37 : S_37 I) (H38 : S_38 I) (hj : j < 512) (hI : I j a b) (kk : ∀ (ad' : Nat → Nat) (a' : KS) (b' : MS), I (j + 1) a' b' → J p l e R s m args below meth c G A 9 Q (k + 5) (n + 39) ad' a' b' 1757 [(0, .ref sc), (1, .ref (ad' 0)), (2, .ref (ad' 100)), (3, .ref (ad' 19)), (4, .int i)] []) : ∀ q : Nat, q ≤ 38 → J p l e R s m args below meth c G A 9 Q k n ad a b 39 [(0, .ref sc), (1, .ref (ad 0)), (2, .ref (ad 100)), (3, .ref (ad 19)), (4, .int i)] [.int (Int32.ofNat q)]
  | 0, _ => by
    refine j_tin (tgt := 208) C dL_law_39 (by decide) (by decide) rfl (by decide) ?_
    obtain ⟨z, w, t, hz, hw, ht, e1, e2, hI2⟩ := H0 j a b (xs (i + 1).toNatClampNeg) (xs (i + 2).toNatClampNeg) (xs (i + 3).toNatClampNeg) (xs (i + 4).toNatClampNeg) hj hI
    exact q_0 C hX hst hF hM hC hv1 hv2 hv3 hv4 hz hw ht e1 e2 (fun ad9 _ => kk ad9 _ _ hI2)
  | 1, _ => by
    refine j_tin (tgt := 264) C dL_law_39 (by decide) (by decide) rfl (by decide) ?_
    obtain ⟨z, w, t, hz, hw, ht, e1, e2, hI2⟩ := H1 j a b (xs (i + 1).toNatClampNeg) (xs (i + 2).toNatClampNeg) (xs (i + 3).toNatClampNeg) (xs (i + 4).toNatClampNeg) hj hI
    exact q_1 C hX hst hF hM hC hv1 hv2 hv3 hv4 hz hw ht e1 e2 (fun ad9 _ => kk ad9 _ _ hI2)
  | 2, _ => by
    refine j_tin (tgt := 356) C dL_law_39 (by decide) (by decide) rfl (by decide) ?_
    obtain ⟨z, w, t, hz, hw, ht, e1, e2, hI2⟩ := H2 j a b (xs (i + 1).toNatClampNeg) (xs (i + 2).toNatClampNeg) (xs (i + 3).toNatClampNeg) (xs (i + 4).toNatClampNeg) hj hI
    exact q_2 C hX hst hF hM hC hv1 hv2 hv3 hv4 hz hw ht e1 e2 (fun ad9 _ => kk ad9 _ _ hI2)
  | 3, _ => by
    refine j_tin (tgt := 424) C dL_law_39 (by decide) (by decide) rfl (by decide) ?_
    obtain ⟨z, w, t, hz, hw, ht, e1, e2, hI2⟩ := H3 j a b (xs (i + 1).toNatClampNeg) (xs (i + 2).toNatClampNeg) (xs (i + 3).toNatClampNeg) (xs (i + 4).toNatClampNeg) hj hI
    exact q_3 C hX hst hF hM hC hv1 hv2 hv3 hv4 hz hw ht e1 e2 (fun ad9 _ => kk ad9 _ _ hI2)
  | 4, _ => by
    refine j_tin (tgt := 492) C dL_law_39 (by decide) (by decide) rfl (by decide) ?_
    obtain ⟨z, w, hz, hw, e1, hI2⟩ := H4 j a b (xs (i + 1).toNatClampNeg) (xs (i + 2).toNatClampNeg) (xs (i + 3).toNatClampNeg) (xs (i + 4).toNatClampNeg) hj hI
    exact q_4 C hX hst hF hM hC hv1 hv2 hv3 hv4 hz hw e1 (fun ad9 _ => kk ad9 _ _ hI2)
  | 5, _ => by
    refine j_tin (tgt := 505) C dL_law_39 (by decide) (by decide) rfl (by decide) ?_
    obtain ⟨z, w, t, hz, hw, ht, e1, e2, hI2⟩ := H5 j a b (xs (i + 1).toNatClampNeg) (xs (i + 2).toNatClampNeg) (xs (i + 3).toNatClampNeg) (xs (i + 4).toNatClampNeg) hj hI
    exact q_5 C hX hst hF hM hC hv1 hv2 hv3 hv4 hz hw ht e1 e2 (fun ad9 _ => kk ad9 _ _ hI2)
  | 6, _ => by
    refine j_tin (tgt := 561) C dL_law_39 (by decide) (by decide) rfl (by decide) ?_
    obtain ⟨z, w, t, hz, hw, ht, e1, e2, hI2⟩ := H6 j a b (xs (i + 1).toNatClampNeg) (xs (i + 2).toNatClampNeg) (xs (i + 3).toNatClampNeg) (xs (i + 4).toNatClampNeg) hj hI
    exact q_6 C hX hst hF hM hC hv1 hv2 hv3 hv4 hz hw ht e1 e2 (fun ad9 _ => kk ad9 _ _ hI2)
  | 7, _ => by
    refine j_tin (tgt := 617) C dL_law_39 (by decide) (by decide) rfl (by decide) ?_
    obtain ⟨z, w, t, hz, hw, ht, e1, e2, hI2⟩ := H7 j a b (xs (i + 1).toNatClampNeg) (xs (i + 2).toNatClampNeg) (xs (i + 3).toNatClampNeg) (xs (i + 4).toNatClampNeg) hj hI
    exact q_7 C hX hst hF hM hC hv1 hv2 hv3 hv4 hz hw ht e1 e2 (fun ad9 _ => kk ad9 _ _ hI2)
  | 8, _ => by
    refine j_tin (tgt := 673) C dL_law_39 (by decide) (by decide) rfl (by decide) ?_
    obtain ⟨z, w, t, hz, hw, ht, e1, e3, e4, hI2⟩ := H8 j a b (xs (i + 1).toNatClampNeg) (xs (i + 2).toNatClampNeg) (xs (i + 3).toNatClampNeg) (xs (i + 4).toNatClampNeg) hj hI
    exact q_8 C hX hst hF hM hC hv1 hv2 hv3 hv4 hz hw ht e1 e3 e4 (fun ad9 _ => kk ad9 _ _ hI2)
  | 9, _ => by
    refine j_tin (tgt := 736) C dL_law_39 (by decide) (by decide) rfl (by decide) ?_
    obtain ⟨z, w, t, hz, hw, ht, e1, e2, hI2⟩ := H9 j a b (xs (i + 1).toNatClampNeg) (xs (i + 2).toNatClampNeg) (xs (i + 3).toNatClampNeg) (xs (i + 4).toNatClampNeg) hj hI
    exact q_9 C hX hst hF hM hC hv1 hv2 hv3 hv4 hz hw ht e1 e2 (fun ad9 _ => kk ad9 _ _ hI2)
  | 10, _ => by
    refine j_tin (tgt := 792) C dL_law_39 (by decide) (by decide) rfl (by decide) ?_
    obtain ⟨z, w, hz, hw, e1, hI2⟩ := H10 j a b (xs (i + 1).toNatClampNeg) (xs (i + 2).toNatClampNeg) (xs (i + 3).toNatClampNeg) (xs (i + 4).toNatClampNeg) hj hI
    exact q_10 C hX hst hF hM hC hv1 hv2 hv3 hv4 hz hw e1 (fun ad9 _ => kk ad9 _ _ hI2)
  | 11, _ => by
    refine j_tin (tgt := 805) C dL_law_39 (by decide) (by decide) rfl (by decide) ?_
    obtain ⟨z, w, hz, hw, e1, hI2⟩ := H11 j a b (xs (i + 1).toNatClampNeg) (xs (i + 2).toNatClampNeg) (xs (i + 3).toNatClampNeg) (xs (i + 4).toNatClampNeg) hj hI
    exact q_11 C hX hst hF hM hC hv1 hv2 hv3 hv4 hz hw e1 (fun ad9 _ => kk ad9 _ _ hI2)
  | 12, _ => by
    refine j_tin (tgt := 818) C dL_law_39 (by decide) (by decide) rfl (by decide) ?_
    obtain ⟨z, w, t, hz, hw, ht, e1, e2, hI2⟩ := H12 j a b (xs (i + 1).toNatClampNeg) (xs (i + 2).toNatClampNeg) (xs (i + 3).toNatClampNeg) (xs (i + 4).toNatClampNeg) hj hI
    exact q_12 C hX hst hF hM hC hv1 hv2 hv3 hv4 hz hw ht e1 e2 (fun ad9 _ => kk ad9 _ _ hI2)
  | 13, _ => by
    refine j_tin (tgt := 874) C dL_law_39 (by decide) (by decide) rfl (by decide) ?_
    obtain ⟨z, w, t, hz, hw, ht, e1, e2, hI2⟩ := H13 j a b (xs (i + 1).toNatClampNeg) (xs (i + 2).toNatClampNeg) (xs (i + 3).toNatClampNeg) (xs (i + 4).toNatClampNeg) hj hI
    exact q_13 C hX hst hF hM hC hv1 hv2 hv3 hv4 hz hw ht e1 e2 (fun ad9 _ => kk ad9 _ _ hI2)
  | 14, _ => by
    refine j_tin (tgt := 942) C dL_law_39 (by decide) (by decide) rfl (by decide) ?_
    obtain ⟨z, w, t, hz, hw, ht, e1, e2, hI2⟩ := H14 j a b (xs (i + 1).toNatClampNeg) (xs (i + 2).toNatClampNeg) (xs (i + 3).toNatClampNeg) (xs (i + 4).toNatClampNeg) hj hI
    exact q_14 C hX hst hF hM hC hv1 hv2 hv3 hv4 hz hw ht e1 e2 (fun ad9 _ => kk ad9 _ _ hI2)
  | 15, _ => by
    refine j_tin (tgt := 986) C dL_law_39 (by decide) (by decide) rfl (by decide) ?_
    obtain ⟨z, w, t, hz, hw, ht, e1, e2, hI2⟩ := H15 j a b (xs (i + 1).toNatClampNeg) (xs (i + 2).toNatClampNeg) (xs (i + 3).toNatClampNeg) (xs (i + 4).toNatClampNeg) hj hI
    exact q_15 C hX hst hF hM hC hv1 hv2 hv3 hv4 hz hw ht e1 e2 (fun ad9 _ => kk ad9 _ _ hI2)
  | 16, _ => by
    refine j_tin (tgt := 1042) C dL_law_39 (by decide) (by decide) rfl (by decide) ?_
    obtain ⟨z, w, t, hz, hw, ht, e1, e2, hI2⟩ := H16 j a b (xs (i + 1).toNatClampNeg) (xs (i + 2).toNatClampNeg) (xs (i + 3).toNatClampNeg) (xs (i + 4).toNatClampNeg) hj hI
    exact q_16 C hX hst hF hM hC hv1 hv2 hv3 hv4 hz hw ht e1 e2 (fun ad9 _ => kk ad9 _ _ hI2)
  | 17, _ => by
    refine j_tin (tgt := 1098) C dL_law_39 (by decide) (by decide) rfl (by decide) ?_
    obtain ⟨z, w, hz, hw, e1, hI2⟩ := H17 j a b (xs (i + 1).toNatClampNeg) (xs (i + 2).toNatClampNeg) (xs (i + 3).toNatClampNeg) (xs (i + 4).toNatClampNeg) hj hI
    exact q_17 C hX hst hF hM hC hv1 hv2 hv3 hv4 hz hw e1 (fun ad9 _ => kk ad9 _ _ hI2)
  | 18, _ => by
    refine j_tin (tgt := 1111) C dL_law_39 (by decide) (by decide) rfl (by decide) ?_
    obtain ⟨z, w, hz, hw, e1, hI2⟩ := H18 j a b (xs (i + 1).toNatClampNeg) (xs (i + 2).toNatClampNeg) (xs (i + 3).toNatClampNeg) (xs (i + 4).toNatClampNeg) hj hI
    exact q_18 C hX hst hF hM hC hv1 hv2 hv3 hv4 hz hw e1 (fun ad9 _ => kk ad9 _ _ hI2)
  | 19, _ => by
    refine j_tin (tgt := 1124) C dL_law_39 (by decide) (by decide) rfl (by decide) ?_
    obtain ⟨z, w, hz, hw, e1, hI2⟩ := H19 j a b (xs (i + 1).toNatClampNeg) (xs (i + 2).toNatClampNeg) (xs (i + 3).toNatClampNeg) (xs (i + 4).toNatClampNeg) hj hI
    exact q_19 C hX hst hF hM hC hv1 hv2 hv3 hv4 hz hw e1 (fun ad9 _ => kk ad9 _ _ hI2)
  | 20, _ => by
    refine j_tin (tgt := 1137) C dL_law_39 (by decide) (by decide) rfl (by decide) ?_
    obtain ⟨z, w, hz, hw, e1, hI2⟩ := H20 j a b (xs (i + 1).toNatClampNeg) (xs (i + 2).toNatClampNeg) (xs (i + 3).toNatClampNeg) (xs (i + 4).toNatClampNeg) hj hI
    exact q_20 C hX hst hF hM hC hv1 hv2 hv3 hv4 hz hw e1 (fun ad9 _ => kk ad9 _ _ hI2)
  | 21, _ => by
    refine j_tin (tgt := 1150) C dL_law_39 (by decide) (by decide) rfl (by decide) ?_
    obtain ⟨z, w, hz, hw, e1, hI2⟩ := H21 j a b (xs (i + 1).toNatClampNeg) (xs (i + 2).toNatClampNeg) (xs (i + 3).toNatClampNeg) (xs (i + 4).toNatClampNeg) hj hI
    exact q_21 C hX hst hF hM hC hv1 hv2 hv3 hv4 hz hw e1 (fun ad9 _ => kk ad9 _ _ hI2)
  | 22, _ => by
    refine j_tin (tgt := 1163) C dL_law_39 (by decide) (by decide) rfl (by decide) ?_
    obtain ⟨z, w, hz, hw, e1, hI2⟩ := H22 j a b (xs (i + 1).toNatClampNeg) (xs (i + 2).toNatClampNeg) (xs (i + 3).toNatClampNeg) (xs (i + 4).toNatClampNeg) hj hI
    exact q_22 C hX hst hF hM hC hv1 hv2 hv3 hv4 hz hw e1 (fun ad9 _ => kk ad9 _ _ hI2)
  | 23, _ => by
    refine j_tin (tgt := 1176) C dL_law_39 (by decide) (by decide) rfl (by decide) ?_
    obtain ⟨z, w, hz, hw, e1, hI2⟩ := H23 j a b (xs (i + 1).toNatClampNeg) (xs (i + 2).toNatClampNeg) (xs (i + 3).toNatClampNeg) (xs (i + 4).toNatClampNeg) hj hI
    exact q_23 C hX hst hF hM hC hv1 hv2 hv3 hv4 hz hw e1 (fun ad9 _ => kk ad9 _ _ hI2)
  | 24, _ => by
    refine j_tin (tgt := 1189) C dL_law_39 (by decide) (by decide) rfl (by decide) ?_
    obtain ⟨z, w, hz, hw, e1, hI2⟩ := H24 j a b (xs (i + 1).toNatClampNeg) (xs (i + 2).toNatClampNeg) (xs (i + 3).toNatClampNeg) (xs (i + 4).toNatClampNeg) hj hI
    exact q_24 C hX hst hF hM hC hv1 hv2 hv3 hv4 hz hw e1 (fun ad9 _ => kk ad9 _ _ hI2)
  | 25, _ => by
    refine j_tin (tgt := 1202) C dL_law_39 (by decide) (by decide) rfl (by decide) ?_
    obtain ⟨z, w, hz, hw, e1, hI2⟩ := H25 j a b (xs (i + 1).toNatClampNeg) (xs (i + 2).toNatClampNeg) (xs (i + 3).toNatClampNeg) (xs (i + 4).toNatClampNeg) hj hI
    exact q_25 C hX hst hF hM hC hv1 hv2 hv3 hv4 hz hw e1 (fun ad9 _ => kk ad9 _ _ hI2)
  | 26, _ => by
    refine j_tin (tgt := 1215) C dL_law_39 (by decide) (by decide) rfl (by decide) ?_
    obtain ⟨z, w, t, hz, hw, ht, e1, e2, hI2⟩ := H26 j a b (xs (i + 1).toNatClampNeg) (xs (i + 2).toNatClampNeg) (xs (i + 3).toNatClampNeg) (xs (i + 4).toNatClampNeg) hj hI
    exact q_26 C hX hst hF hM hC hv1 hv2 hv3 hv4 hz hw ht e1 e2 (fun ad9 _ => kk ad9 _ _ hI2)
  | 27, _ => by
    refine j_tin (tgt := 1283) C dL_law_39 (by decide) (by decide) rfl (by decide) ?_
    obtain ⟨z, w, t, hz, hw, ht, e1, e2, hI2⟩ := H27 j a b (xs (i + 1).toNatClampNeg) (xs (i + 2).toNatClampNeg) (xs (i + 3).toNatClampNeg) (xs (i + 4).toNatClampNeg) hj hI
    exact q_27 C hX hst hF hM hC hv1 hv2 hv3 hv4 hz hw ht e1 e2 (fun ad9 _ => kk ad9 _ _ hI2)
  | 28, _ => by
    refine j_tin (tgt := 1339) C dL_law_39 (by decide) (by decide) rfl (by decide) ?_
    obtain ⟨z, w, t, hz, hw, ht, e1, e2, hI2⟩ := H28 j a b (xs (i + 1).toNatClampNeg) (xs (i + 2).toNatClampNeg) (xs (i + 3).toNatClampNeg) (xs (i + 4).toNatClampNeg) hj hI
    exact q_28 C hX hst hF hM hC hv1 hv2 hv3 hv4 hz hw ht e1 e2 (fun ad9 _ => kk ad9 _ _ hI2)
  | 29, _ => by
    refine j_tin (tgt := 1395) C dL_law_39 (by decide) (by decide) rfl (by decide) ?_
    obtain ⟨z, w, t, hz, hw, ht, e1, e2, hI2⟩ := H29 j a b (xs (i + 1).toNatClampNeg) (xs (i + 2).toNatClampNeg) (xs (i + 3).toNatClampNeg) (xs (i + 4).toNatClampNeg) hj hI
    exact q_29 C hX hst hF hM hC hv1 hv2 hv3 hv4 hz hw ht e1 e2 (fun ad9 _ => kk ad9 _ _ hI2)
  | 30, _ => by
    refine j_tin (tgt := 1451) C dL_law_39 (by decide) (by decide) rfl (by decide) ?_
    obtain ⟨z, w, t, hz, hw, ht, e1, e2, hI2⟩ := H30 j a b (xs (i + 1).toNatClampNeg) (xs (i + 2).toNatClampNeg) (xs (i + 3).toNatClampNeg) (xs (i + 4).toNatClampNeg) hj hI
    exact q_30 C hX hst hF hM hC hv1 hv2 hv3 hv4 hz hw ht e1 e2 (fun ad9 _ => kk ad9 _ _ hI2)
  | 31, _ => by
    refine j_tin (tgt := 1507) C dL_law_39 (by decide) (by decide) rfl (by decide) ?_
    obtain ⟨z, w, t, hz, hw, ht, e1, e2, hI2⟩ := H31 j a b (xs (i + 1).toNatClampNeg) (xs (i + 2).toNatClampNeg) (xs (i + 3).toNatClampNeg) (xs (i + 4).toNatClampNeg) hj hI
    exact q_31 C hX hst hF hM hC hv1 hv2 hv3 hv4 hz hw ht e1 e2 (fun ad9 _ => kk ad9 _ _ hI2)
  | 32, _ => by
    refine j_tin (tgt := 1563) C dL_law_39 (by decide) (by decide) rfl (by decide) ?_
    obtain ⟨z, w, hz, hw, e1, hI2⟩ := H32 j a b (xs (i + 1).toNatClampNeg) (xs (i + 2).toNatClampNeg) (xs (i + 3).toNatClampNeg) (xs (i + 4).toNatClampNeg) hj hI
    exact q_32 C hX hst hF hM hC hv1 hv2 hv3 hv4 hz hw e1 (fun ad9 _ => kk ad9 _ _ hI2)
  | 33, _ => by
    refine j_tin (tgt := 1576) C dL_law_39 (by decide) (by decide) rfl (by decide) ?_
    obtain ⟨z, w, hz, hw, e2, hI2⟩ := H33 j a b (xs (i + 1).toNatClampNeg) (xs (i + 2).toNatClampNeg) (xs (i + 3).toNatClampNeg) (xs (i + 4).toNatClampNeg) hj hI
    exact q_33 C hX hst hF hM hC hv1 hv2 hv3 hv4 hz hw e2 (fun ad9 _ => kk ad9 _ _ hI2)
  | 34, _ => by
    refine j_tin (tgt := 1617) C dL_law_39 (by decide) (by decide) rfl (by decide) ?_
    obtain ⟨z, w, t, hz, hw, ht, e1, e2, hI2⟩ := H34 j a b (xs (i + 1).toNatClampNeg) (xs (i + 2).toNatClampNeg) (xs (i + 3).toNatClampNeg) (xs (i + 4).toNatClampNeg) hj hI
    exact q_34 C hX hst hF hM hC hv1 hv2 hv3 hv4 hz hw ht e1 e2 (fun ad9 _ => kk ad9 _ _ hI2)
  | 35, _ => by
    refine j_tin (tgt := 1673) C dL_law_39 (by decide) (by decide) rfl (by decide) ?_
    obtain ⟨z, w, hz, hw, e1, hI2⟩ := H35 j a b (xs (i + 1).toNatClampNeg) (xs (i + 2).toNatClampNeg) (xs (i + 3).toNatClampNeg) (xs (i + 4).toNatClampNeg) hj hI
    exact q_35 C hX hst hF hM hC hv1 hv2 hv3 hv4 hz hw e1 (fun ad9 _ => kk ad9 _ _ hI2)
  | 36, _ => by
    refine j_tin (tgt := 1686) C dL_law_39 (by decide) (by decide) rfl (by decide) ?_
    obtain ⟨z, w, hz, hw, e1, hI2⟩ := H36 j a b (xs (i + 1).toNatClampNeg) (xs (i + 2).toNatClampNeg) (xs (i + 3).toNatClampNeg) (xs (i + 4).toNatClampNeg) hj hI
    exact q_36 C hX hst hF hM hC hv1 hv2 hv3 hv4 hz hw e1 (fun ad9 _ => kk ad9 _ _ hI2)
  | 37, _ => by
    refine j_tin (tgt := 1699) C dL_law_39 (by decide) (by decide) rfl (by decide) ?_
    obtain ⟨z, w, t, hz, hw, ht, e1, e2, hI2⟩ := H37 j a b (xs (i + 1).toNatClampNeg) (xs (i + 2).toNatClampNeg) (xs (i + 3).toNatClampNeg) (xs (i + 4).toNatClampNeg) hj hI
    exact q_37 C hX hst hF hM hC hv1 hv2 hv3 hv4 hz hw ht e1 e2 (fun ad9 _ => kk ad9 _ _ hI2)
  | 38, _ => by
    refine j_tin (tgt := 1743) C dL_law_39 (by decide) (by decide) rfl (by decide) ?_
    obtain ⟨z, w, hz, hw, e2, hI2⟩ := H38 j a b (xs (i + 1).toNatClampNeg) (xs (i + 2).toNatClampNeg) (xs (i + 3).toNatClampNeg) (xs (i + 4).toNatClampNeg) hj hI
    exact q_38 C hX hst hF hM hC hv1 hv2 hv3 hv4 hz hw e2 (fun ad9 _ => kk ad9 _ _ hI2)
  | q + 39, h => absurd h (by omega)
theorem ofNat_i32 {x : Nat} (h : x < 2147483648) : (Int32.ofNat x).toInt = x := Int32.toInt_ofNat_of_lt h
theorem ofNat_cl {x : Nat} (h : x < 2147483648) : (Int32.ofNat x).toNatClampNeg = x := by
  show (Int32.ofNat x).toInt.toNat = x
  rw [ofNat_i32 h]; rfl
theorem lw_in {j d L : Nat} (hL : L ≤ 2560) (h : 5 * j + d < L) : vp_in (Int32.ofNat (5 * j + d)) L := by
  intro q
  rcases q with q | q
  · rw [Int32.lt_iff_toInt_lt, ofNat_i32 (by omega)] at q
    have : (0 : Int32).toInt = 0 := by decide
    omega
  · rw [ofNat_cl (by omega)] at q
    omega
theorem lw_lt {j L : Nat} (hL : L ≤ 2560) (hj : 5 * j ≤ 2560) : (Int32.ofNat L - 5 < Int32.ofNat (5 * j)) ↔ L < 5 * j + 5 := by
  rw [Int32.lt_iff_toInt_lt, Int32.toInt_sub, ofNat_i32 (by omega), ofNat_i32 (by omega)]
  have e5 : (5 : Int32).toInt = 5 := by decide
  rw [e5, Int.bmod_eq_of_le (by omega) (by omega)]
  omega
set_option maxHeartbeats 4000000 in
theorem law_loop (C : CX G A RL cL_law 9 p s m args c) (hX : SX A sc L xs s) (hst : l.stackTraces = false) (hF : 14 ≤ R.frames) (hM : 530 ≤ R.locals) (hKR : 601024 ≤ R.cells ∧ 7293034 ≤ R.slots) (hL : L ≤ 2560) (H0 : S_0 I) (H1 : S_1 I) (H2 : S_2 I) (H3 : S_3 I) (H4 : S_4 I) (H5 : S_5 I) (H6 : S_6 I) (H7 : S_7 I) (H8 : S_8 I) (H9 : S_9 I) (H10 : S_10 I) (H11 : S_11 I) (H12 : S_12 I) (H13 : S_13 I) (H14 : S_14 I) (H15 : S_15 I) (H16 : S_16 I) (H17 : S_17 I) (H18 : S_18 I) (H19 : S_19 I) (H20 : S_20 I) (H21 : S_21 I) (H22 : S_22 I) (H23 : S_23 I) (H24 : S_24 I) (H25 : S_25 I) (H26 : S_26 I) (H27 : S_27 I) (H28 : S_28 I) (H29 : S_29 I) (H30 : S_30 I) (H31 : S_31 I) (H32 : S_32 I) (H33 : S_33 I) (H34 : S_34 I) (H35 : S_35 I) (H36 : S_36 I) (H37 : S_37 I) (H38 : S_38 I) (HD : ∀ j a b, I j a b → I (j + 1) a b) (kend : ∀ (k n : Nat) (ad : Nat → Nat) (a : KS) (b : MS) (i : Int32), k ≤ 601024 → n ≤ 7293034 → J p l e R s m args below meth c G A 9 Q k n ad a b 1763 [(0, .ref sc), (1, .ref (ad 0)), (2, .ref (ad 100)), (3, .ref (ad 19)), (4, .int i)] []) : ∀ (N j k n : Nat) (ad : Nat → Nat) (a : KS) (b : MS), I j a b → L < 5 * j + 5 * N + 5 → 5 * j ≤ 2560 → k ≤ 100 + 5 * j → n ≤ 1000 + 39 * j → J p l e R s m args below meth c G A 9 Q k n ad a b 23 [(0, .ref sc), (1, .ref (ad 0)), (2, .ref (ad 100)), (3, .ref (ad 19)), (4, .int (Int32.ofNat (5 * j)))] [] := by
  intro N
  induction N with
  | zero =>
    intro j k n ad a b hI hN hj hk hn
    refine j_iload C 4 rfl dL_law_23 ?_
    refine j_aload_n C 0 rfl dL_law_25 ?_
    refine j_slen C hX dL_law_26 ?_
    refine j_iconst C (v := 5) rfl dL_law_27 ?_
    refine j_isub C dL_law_28 ?_
    refine j_icmp_gt C (X := Unit) (f := ()) (g := ()) (r := ()) 1763 dL_law_29 rfl (ite_self _) (fun _ _ => ?_) (fun h9 _ => ?_)
    · exact kend _ _ _ _ _ _ (by omega) (by omega)
    · exact absurd ((lw_lt hL hj).mpr (by omega)) h9
  | succ N ih =>
    intro j k n ad a b hI hN hj hk hn
    refine j_iload C 4 rfl dL_law_23 ?_
    refine j_aload_n C 0 rfl dL_law_25 ?_
    refine j_slen C hX dL_law_26 ?_
    refine j_iconst C (v := 5) rfl dL_law_27 ?_
    refine j_isub C dL_law_28 ?_
    refine j_icmp_gt C (X := Unit) (f := ()) (g := ()) (r := ()) 1763 dL_law_29 rfl (ite_self _) (fun _ _ => ?_) (fun h9 _ => ?_)
    · exact kend _ _ _ _ _ _ (by omega) (by omega)
    have h10 : 5 * j + 5 ≤ L := Nat.not_lt.mp (fun q => h9 ((lw_lt hL hj).mpr q))
    have hin : ∀ d : Nat, d < 5 → vp_in (Int32.ofNat (5 * j + d)) L := fun d hd => lw_in hL (by omega)
    have hadd : ∀ d : Nat, Int32.ofNat (5 * j + d) = Int32.ofNat (5 * j) + Int32.ofNat d := fun d => Int32.ofNat_add _ _
    have hv1 : vp_in (Int32.ofNat (5 * j) + 1) L := by have h := hin 1 (by omega); rw [hadd] at h; exact h
    have hv2 : vp_in (Int32.ofNat (5 * j) + 2) L := by have h := hin 2 (by omega); rw [hadd] at h; exact h
    have hv3 : vp_in (Int32.ofNat (5 * j) + 3) L := by have h := hin 3 (by omega); rw [hadd] at h; exact h
    have hv4 : vp_in (Int32.ofNat (5 * j) + 4) L := by have h := hin 4 (by omega); rw [hadd] at h; exact h
    have hi5 : Int32.ofNat (5 * j) + Int32.ofInt 5 = Int32.ofNat (5 * (j + 1)) := by
      rw [show 5 * (j + 1) = 5 * j + 5 by omega, hadd]; rfl
    have back : ∀ (ad1 : Nat → Nat) (a1 : KS) (b1 : MS), I (j + 1) a1 b1 → J p l e R s m args below meth c G A 9 Q (k + 5) (n + 39) ad1 a1 b1 1757 [(0, .ref sc), (1, .ref (ad1 0)), (2, .ref (ad1 100)), (3, .ref (ad1 19)), (4, .int (Int32.ofNat (5 * j)))] [] := by
      intro ad1 a1 b1 hI1
      refine j_iinc C 4 rfl hi5 (by decide) rfl dL_law_1757 ?_
      refine j_goto C 23 dL_law_1760 rfl ?_
      refine j_sub [1, 2, 3, 4, 0] rfl ?_
      exact ih (j + 1) (k + 5) (n + 39) ad1 a1 b1 hI1 (by omega) (by omega) (by omega) (by omega)
    refine j_aload_n C 0 rfl dL_law_32 ?_
    refine j_iload C 4 rfl dL_law_33 ?_
    refine j_sld C hX (hin 0 (by omega)) dL_law_35 ?_
    refine j_bipush C (v := 63) (by decide) dL_law_36 ?_
    refine j_iand C dL_law_38 ?_
    by_cases hx : (xs (Int32.ofNat (5 * j)).toNatClampNeg &&& 63).toInt < 0 ∨ 38 < (xs (Int32.ofNat (5 * j)).toNatClampNeg &&& 63).toInt
    · refine j_tout (tgt := 1757) C dL_law_39 hx (by decide) ?_
      exact j_widen (k + 5) (n + 39) (Nat.le_add_right _ _) (Nat.le_add_right _ _) (back ad a b (HD j a b hI))
    · have hx1 := fun q => hx (Or.inl q)
      have hx2 := fun q => hx (Or.inr q)
      have e : (xs (Int32.ofNat (5 * j)).toNatClampNeg &&& 63) = Int32.ofNat (xs (Int32.ofNat (5 * j)).toNatClampNeg &&& 63).toInt.toNat := by
        apply Int32.toInt.inj
        rw [ofNat_i32 (by omega)]
        omega
      rw [e]
      exact law_switch C hX hst hF hM ⟨by omega, by omega⟩ hv1 hv2 hv3 hv4 H0 H1 H2 H3 H4 H5 H6 H7 H8 H9 H10 H11 H12 H13 H14 H15 H16 H17 H18 H19 H20 H21 H22 H23 H24 H25 H26 H27 H28 H29 H30 H31 H32 H33 H34 H35 H36 H37 H38 (by omega) hI back _ (by omega)
end LD
