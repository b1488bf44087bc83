theorem wc_jlen : Cond.code yJ0_length_8abf5 cJ0_length_8abf5 1 (some .int) ∈ BIG := big_of 628 (by decide +kernel) (by decide +kernel)
theorem wn_jlen : Cond.instanceMethod yJ0_length_8abf5 ∈ BIG := big_of 626 (by decide +kernel) (by decide +kernel)
theorem ws_jlen : Cond.selects RJ0 yJ0_length_8abf5 yJ0_length_8abf5 ∈ BIG := big_of 627 (by decide +kernel) (by decide +kernel)
theorem wi_jlen : Cond.initialized RJ0 ∈ BIG := big_of 50 (by decide +kernel) (by decide +kernel)
theorem cw_jlen : CWV yJ0_length_8abf5 cJ0_length_8abf5 1 (some .int) RJ0 0 := ⟨rfl, wc_jlen, wn_jlen, ws_jlen, wi_jlen, by decide +kernel, by decide +kernel, by decide +kernel⟩
theorem wc_jcoder : Cond.code yJ0_coder_7d493 cJ0_coder_7d493 1 (some .byte) ∈ BIG := big_of 632 (by decide +kernel) (by decide +kernel)
theorem wn_jcoder : Cond.instanceMethod yJ0_coder_7d493 ∈ BIG := big_of 630 (by decide +kernel) (by decide +kernel)
theorem ws_jcoder : Cond.selects RJ0 yJ0_coder_7d493 yJ0_coder_7d493 ∈ BIG := big_of 631 (by decide +kernel) (by decide +kernel)
theorem wi_jcoder : Cond.initialized RJ0 ∈ BIG := big_of 50 (by decide +kernel) (by decide +kernel)
theorem cw_jcoder : CWV yJ0_coder_7d493 cJ0_coder_7d493 1 (some .byte) RJ0 0 := ⟨rfl, wc_jcoder, wn_jcoder, ws_jcoder, wi_jcoder, by decide +kernel, by decide +kernel, by decide +kernel⟩
theorem wc_jchar : Cond.code yJ0_charAt_5068e cJ0_charAt_5068e 2 (some .char) ∈ BIG := big_of 638 (by decide +kernel) (by decide +kernel)
theorem wn_jchar : Cond.instanceMethod yJ0_charAt_5068e ∈ BIG := big_of 636 (by decide +kernel) (by decide +kernel)
theorem ws_jchar : Cond.selects RJ0 yJ0_charAt_5068e yJ0_charAt_5068e ∈ BIG := big_of 637 (by decide +kernel) (by decide +kernel)
theorem wi_jchar : Cond.initialized RJ0 ∈ BIG := big_of 50 (by decide +kernel) (by decide +kernel)
theorem cw_jchar : CWV yJ0_charAt_5068e cJ0_charAt_5068e 2 (some .char) RJ0 1 := ⟨rfl, wc_jchar, wn_jchar, ws_jchar, wi_jchar, by decide +kernel, by decide +kernel, by decide +kernel⟩
theorem wc_jlat : Cond.code yJ0_isLatin1_aae02 cJ0_isLatin1_aae02 1 (some .boolean) ∈ BIG := big_of 642 (by decide +kernel) (by decide +kernel)
theorem wn_jlat : Cond.instanceMethod yJ0_isLatin1_aae02 ∈ BIG := big_of 640 (by decide +kernel) (by decide +kernel)
theorem ws_jlat : Cond.selects RJ0 yJ0_isLatin1_aae02 yJ0_isLatin1_aae02 ∈ BIG := big_of 641 (by decide +kernel) (by decide +kernel)
theorem wi_jlat : Cond.initialized RJ0 ∈ BIG := big_of 50 (by decide +kernel) (by decide +kernel)
theorem cw_jlat : CWV yJ0_isLatin1_aae02 cJ0_isLatin1_aae02 1 (some .boolean) RJ0 0 := ⟨rfl, wc_jlat, wn_jlat, ws_jlat, wi_jlat, by decide +kernel, by decide +kernel, by decide +kernel⟩
theorem wc_jlchar : Cond.code yJ1_charAt_3b067 cJ1_charAt_3b067 2 (some .char) ∈ BIG := big_of 645 (by decide +kernel) (by decide +kernel)
theorem wt_jlchar : Cond.static yJ1_charAt_3b067 ∈ BIG := big_of 644 (by decide +kernel) (by decide +kernel)
theorem wi_jlchar : Cond.initialized RJ1 ∈ BIG := big_of 51 (by decide +kernel) (by decide +kernel)
theorem cw_jlchar : CWS yJ1_charAt_3b067 cJ1_charAt_3b067 2 (some .char) 2 := ⟨wc_jlchar, wt_jlchar, wi_jlchar, by decide +kernel, by decide +kernel, by decide +kernel⟩
theorem wc_jscheck : Cond.code yJ0_checkIndex_df160 cJ0_checkIndex_df160 2 none ∈ BIG := big_of 648 (by decide +kernel) (by decide +kernel)
theorem wt_jscheck : Cond.static yJ0_checkIndex_df160 ∈ BIG := big_of 647 (by decide +kernel) (by decide +kernel)
theorem wi_jscheck : Cond.initialized RJ0 ∈ BIG := big_of 50 (by decide +kernel) (by decide +kernel)
theorem cw_jscheck : CWS yJ0_checkIndex_df160 cJ0_checkIndex_df160 2 none 2 := ⟨wc_jscheck, wt_jscheck, wi_jscheck, by decide +kernel, by decide +kernel, by decide +kernel⟩
theorem wc_jpcheck : Cond.code yJ3_checkIndex_8e157 cJ3_checkIndex_8e157 3 (some .int) ∈ BIG := big_of 653 (by decide +kernel) (by decide +kernel)
theorem wt_jpcheck : Cond.static yJ3_checkIndex_8e157 ∈ BIG := big_of 652 (by decide +kernel) (by decide +kernel)
theorem wi_jpcheck : Cond.initialized RJ3 ∈ BIG := big_of 52 (by decide +kernel) (by decide +kernel)
theorem cw_jpcheck : CWS yJ3_checkIndex_8e157 cJ3_checkIndex_8e157 3 (some .int) 3 := ⟨wc_jpcheck, wt_jpcheck, wi_jpcheck, by decide +kernel, by decide +kernel, by decide +kernel⟩
theorem ml_J0_335 : Cond.methodLink RJ0 335 yJ0_coder_7d493 ∈ BIG := big_of 629 (by decide +kernel) (by decide +kernel)
theorem ml_J0_492 : Cond.methodLink RJ0 492 yJ0_isLatin1_aae02 ∈ BIG := big_of 639 (by decide +kernel) (by decide +kernel)
theorem ml_J0_495 : Cond.methodLink RJ0 495 yJ1_charAt_3b067 ∈ BIG := big_of 643 (by decide +kernel) (by decide +kernel)
theorem ml_J1_9 : Cond.methodLink RJ1 9 yJ0_checkIndex_df160 ∈ BIG := big_of 646 (by decide +kernel) (by decide +kernel)
theorem ml_J0_1059 : Cond.methodLink RJ0 1059 yJ3_checkIndex_8e157 ∈ BIG := big_of 651 (by decide +kernel) (by decide +kernel)
theorem fl_J0_38 : Cond.fieldLink RJ0 38 "java/lang/String" "COMPACT_STRINGS" "Z" ∈ BIG := big_of 633 (by decide +kernel) (by decide +kernel)
theorem fl_J0_1053 : Cond.fieldLink RJ0 1053 "jdk/internal/util/Preconditions" "SIOOBE_FORMATTER" "Ljava/util/function/BiFunction;" ∈ BIG := big_of 649 (by decide +kernel) (by decide +kernel)
theorem fl_J0_9 : Cond.fieldLink RJ0 9 "java/lang/String" "value" "[B" ∈ BIG := big_of 974 (by decide +kernel) (by decide +kernel)
theorem fl_J0_15 : Cond.fieldLink RJ0 15 "java/lang/String" "coder" "B" ∈ BIG := big_of 975 (by decide +kernel) (by decide +kernel)
section JS
variable {p : Program} {l : Launch} {e : Env} {R : Room} {s : State} {m : MethodId} {args : Array Value} {below : List Frame} {meth : Method} {c : Code} {G : GT} {A : Nat → Prop} {nL : Nat} {Q : State → Prop} {k n : Nat} {ad : Nat → Nat} {a : KS} {b : MS} {own : String} {cc : ByteArray} {pc : Nat} {lv : List (Nat × Value)} {st : List Value}
theorem j_ldcs (C : CX G A RX6 cc nL p s m args c) {w idx : Nat} (hw : w < 6) (hi : scrI.getD w 0 = idx) (d : decode cc pc = .ok (.ldc idx, 2)) (kk : J p l e R s m args below meth c G A nL Q k n ad a b (pc + 2) (lv) (.ref (G.2.2.1 w) :: st)) : J p l e R s m args below meth c G A nL Q k n ad a b (pc) (lv) (st) := fun H locs ls hP hD hS hl => by
  subst hi
  exact va_ldcS C.1 C.2.1 C.2.2.2.1 (C.2.2.2.2.2.2.2.2.1 w hw) d (kk H locs ls hP hD hS hl)
theorem j_ldcfw (C : CX G A own cc nL p s m args c) {idx : Nat} {v : UInt32} (hw : Cond.constantFloat own idx v ∈ BIG) (d : decode cc pc = .ok (.ldc_w idx, 3)) (kk : J p l e R s m args below meth c G A nL Q k n ad a b (pc + 3) (lv) (.float v :: st)) : J p l e R s m args below meth c G A nL Q k n ad a b (pc) (lv) (st) := fun H locs ls hP hD hS hl => by
  intro T hT X
  obtain ⟨t, a1, b1⟩ := kk H locs ls hP hD hS hl T hT X
  refine ⟨t, ?_, b1⟩
  obtain ⟨k1, cf, hk, hcf, hcp⟩ := Cond.constantFloat_spec C.2.2.2.1 (C.2.2.2.2.1 _ hw)
  obtain ⟨k2, hk2, he⟩ := X.warmed.alike.2.2 _ _ hk
  have hexec := C.1
  have hdg : decode c.code pc = .ok (.ldc_w idx, 3) := by rw [C.2.1]; exact d
  jvm_step X.here [hexec, hdg, ldc_w.wp_float (s := T) (f := F0 m pc ls st) X.here.top hk2 (by rw [he]; exact hcf) hcp]
  exact a1
theorem j_gets1 (C : CX G A RJ0 cc nL p s m args c) (d : decode cc pc = .ok (.getstatic 38, 3)) (kk : J p l e R s m args below meth c G A nL Q k n ad a b (pc + 3) (lv) (.int 1 :: st)) : J p l e R s m args below meth c G A nL Q k n ad a b (pc) (lv) (st) := fun H locs ls hP hD hS hl => va_gets C.1 C.2.1 C.2.2.2.2.2.2.2.2.2.2.2.2.1 hS C.2.2.2.1 (C.2.2.2.2.1 _ fl_J0_38) (fun _ h => h) d (kk H locs ls hP hD hS hl)
theorem j_getsF (C : CX G A RJ0 cc nL p s m args c) (d : decode cc pc = .ok (.getstatic 1053, 3)) (kk : ∀ o : Option Nat, J p l e R s m args below meth c G A nL Q k n ad a b (pc + 3) (lv) (va_rf o :: st)) : J p l e R s m args below meth c G A nL Q k n ad a b (pc) (lv) (st) := fun H locs ls hP hD hS hl => by
  rcases C.2.2.2.2.2.2.2.2.2.2.2.2.2.1 with h | ⟨t, h⟩
  · exact va_gets C.1 C.2.1 h hS C.2.2.2.1 (C.2.2.2.2.1 _ fl_J0_1053) (fun _ h => h) d (kk none H locs ls hP hD hS hl)
  · exact va_gets C.1 C.2.1 h hS C.2.2.2.1 (C.2.2.2.2.1 _ fl_J0_1053) (fun _ h => h) d (kk (some t) H locs ls hP hD hS hl)
theorem j_scoder (C : CX G A RJ0 cc nL p s m args c) {w : Nat} (hw : w < 6) (d : decode cc pc = .ok (.getfield 15, 3)) (kk : J p l e R s m args below meth c G A nL Q k n ad a b (pc + 3) (lv) (.int 0 :: st)) : J p l e R s m args below meth c G A nL Q k n ad a b (pc) (lv) (.ref (G.2.2.1 w) :: st) := fun H locs ls hP hD hS hl => vk_getf C.1 C.2.1 (C.2.2.2.2.2.2.2.1 w hw).2.1 hS C.2.2.2.1 (C.2.2.2.2.1 _ fl_J0_15) (fun _ h => h) d (kk H locs ls hP hD hS hl)
theorem j_svalue (C : CX G A RJ0 cc nL p s m args c) {w : Nat} (hw : w < 6) (d : decode cc pc = .ok (.getfield 9, 3)) (kk : J p l e R s m args below meth c G A nL Q k n ad a b (pc + 3) (lv) (.ref (G.2.2.2 w) :: st)) : J p l e R s m args below meth c G A nL Q k n ad a b (pc) (lv) (.ref (G.2.2.1 w) :: st) := fun H locs ls hP hD hS hl => vk_getf C.1 C.2.1 (C.2.2.2.2.2.2.2.1 w hw).2.2.1 hS C.2.2.2.1 (C.2.2.2.2.1 _ fl_J0_9) (fun _ h => h) d (kk H locs ls hP hD hS hl)
theorem j_sblen (C : CX G A own cc nL p s m args c) {w : Nat} (hw : w < 6) (d : decode cc pc = .ok (.arraylength, 1)) (kk : J p l e R s m args below meth c G A nL Q k n ad a b (pc + 1) (lv) (.int (slen w) :: st)) : J p l e R s m args below meth c G A nL Q k n ad a b (pc) (lv) (.ref (G.2.2.2 w) :: st) := fun H locs ls hP hD hS hl => va_tlen C.1 C.2.1 (C.2.2.2.2.2.2.2.1 w hw).2.2.2 hS rfl d (kk H locs ls hP hD hS hl)
theorem j_sbld (C : CX G A own cc nL p s m args c) {w : Nat} {i : Int32} (hw : w < 6) (hi : inb i (scrN.getD w 0) = true) (d : decode cc pc = .ok (.baload, 1)) (kk : J p l e R s m args below meth c G A nL Q k n ad a b (pc + 1) (lv) (.int (schar w i) :: st)) : J p l e R s m args below meth c G A nL Q k n ad a b (pc) (lv) (.int i :: .ref (G.2.2.2 w) :: st) := fun H locs ls hP hD hS hl => va_tb C.1 C.2.1 (C.2.2.2.2.2.2.2.1 w hw).2.2.2 hS (inb_in hi) rfl d (kk H locs ls hP hD hS hl)
theorem srecv {H : Heap} {locs : List Loc} (C : CX G A own cc nL p s m args c) {w : Nat} (hw : w < 6) (hS : va_S A s.heap H locs) : ∃ cell : Cell, H[G.2.2.1 w]? = some cell ∧ cell.vm.isStatics = false ∧ s.vm.findClass RJ0 = some cell.cls := by
  obtain ⟨cell, h1, h2, h3, h4⟩ := (C.2.2.2.2.2.2.2.1 w hw).1
  refine ⟨cell, ?_, h2, h3⟩
  rw [hS.2.1 _ (Array.getElem?_eq_some_iff.mp h1).1 h4]
  exact h1
/-- a call of a method of a text -/
theorem j_callT (C : CX G A own cc nL p s m args c) {y : MethodName} {bytes : ByteArray} {maxL na idx w : Nat} {ret : Option FieldType} {rm : Room} {As rest : List Value} {v : Option Value} {a' : KS} {b' : MS} (hw : w < 6) (hM : MT l G y bytes maxL ret rm (.ref (G.2.2.1 w) :: As) ad a b v a' b') (cw : CWV y bytes maxL ret RJ0 na) (hlink : Cond.methodLink own idx y ∈ BIG) (hna : As.length = na)
    (hR : rm.frames + 1 ≤ R.frames ∧ 8 + (maxL + 11) + rm.locals ≤ R.locals) (hcs : k + rm.cells ≤ R.cells ∧ n + rm.slots ≤ R.slots) (hst : st = As.reverse ++ .ref (G.2.2.1 w) :: rest) (hW : (rest.map fun v => v.category).sum ≤ 8) (d : decode cc pc = .ok (.invokevirtual idx, 3)) (kk : J p l e R s m args below meth c G A nL Q (k + rm.cells) (n + rm.slots) ad a' b' (pc + 3) lv (v.toList ++ rest)) : J p l e R s m args below meth c G A nL Q k n ad a b (pc) (lv) (st) := fun H locs ls hP hD hS hl => by
  have cw1 := cwV (R := R) (s := s) (args := args) (rm := rm) na C.2.2.2.2.1 (ws_V (own := own) cw hlink) rfl rfl rfl ⟨cw.1, cw.2.2.2.2.2.1, cw.2.2.2.2.2.2.1, cw.2.2.2.2.2.2.2⟩ hR
  exact run_end C hl hD hS (va_runV (As := As) (rest := rest) ⟨C.1, C.2.1, C.2.2.1, C.2.2.2.1, C.2.2.2.2.1⟩ (hM H.size) cw1 ⟨pre_blind, srecv C hw hS, fun U hU hW => pre_at C hP hD hS _ U hU hW⟩ rfl hna hl.1 hst (by simpa [JFrame.monitorRoom, F0] using hW) d hcs) kk
theorem sch_ok {w : Nat} {i : Int32} (hw : w < 6) (hi : inb i (scrN.getD w 0) = true) : ((schar w i &&& 255).toUInt32 % 65536).toInt32 = schar w i ∧ narrow .char (.int (schar w i)) = .int (schar w i) := by
  have h := of_decide_eq_true hi
  have h2 : i.toNatClampNeg < scrN.getD w 0 := by
    have := h.1
    have := h.2
    rw [Int32.toNatClampNeg]
    omega
  have key : ∀ w, w < 6 → ∀ j, j < scrN.getD w 0 → (((scrB.getD w []).getD j 0 &&& 255).toUInt32 % 65536).toInt32 = (scrB.getD w []).getD j 0 ∧ narrow .char (.int ((scrB.getD w []).getD j 0)) = .int ((scrB.getD w []).getD j 0) := by decide +kernel
  exact key w hw _ h2
theorem k_jcoder {w : Nat} (hw : w < 6) : MT l G yJ0_coder_7d493 cJ0_coder_7d493 1 (some .byte) (RM 0) [.ref (G.2.2.1 w)] ad a b (some (.int 0)) a b := by
  refine MT_ofF (by decide +kernel) (Nat.le_of_ble_eq_true rfl) ?_
  intro p e s m args below meth c A C hr hk
  refine j_gets1 C dJ0_coder_7d493_0 ?_
  refine j_if_eq (X := Nat) (f := 0) (g := 0) (r := 0) C 13 dJ0_coder_7d493_3 (by decide) (by decide) (fun h _ => absurd h (by decide)) (fun _ _ => ?_)
  refine j_aload_n (x := G.2.2.1 w) C 0 rfl dJ0_coder_7d493_6 ?_
  refine j_scoder C hw dJ0_coder_7d493_7 ?_
  refine j_goto C 14 dJ0_coder_7d493_10 (by decide) ?_
  exact j_zret C hr hk rfl ⟨Nat.le_refl _, Nat.le_refl _⟩ rfl dJ0_coder_7d493_14
theorem k_jlat {w : Nat} (hw : w < 6) : MT l G yJ0_isLatin1_aae02 cJ0_isLatin1_aae02 1 (some .boolean) (RM 0) [.ref (G.2.2.1 w)] ad a b (some (.int 1)) a b := by
  refine MT_ofF (by decide +kernel) (Nat.le_of_ble_eq_true rfl) ?_
  intro p e s m args below meth c A C hr hk
  refine j_gets1 C dJ0_isLatin1_aae02_0 ?_
  refine j_if_eq (X := Nat) (f := 0) (g := 0) (r := 0) C 17 dJ0_isLatin1_aae02_3 (by decide) (by decide) (fun h _ => absurd h (by decide)) (fun _ _ => ?_)
  refine j_aload_n (x := G.2.2.1 w) C 0 rfl dJ0_isLatin1_aae02_6 ?_
  refine j_scoder C hw dJ0_isLatin1_aae02_7 ?_
  refine j_if_ne (X := Nat) (f := 0) (g := 0) (r := 0) C 17 dJ0_isLatin1_aae02_10 (by decide) (by decide) (fun h _ => absurd rfl h) (fun _ _ => ?_)
  refine j_iconst (v := 1) C (by decide) dJ0_isLatin1_aae02_13 ?_
  refine j_goto C 18 dJ0_isLatin1_aae02_14 (by decide) ?_
  exact j_zret C hr hk rfl ⟨Nat.le_refl _, Nat.le_refl _⟩ rfl dJ0_isLatin1_aae02_18
theorem k_jlen {w : Nat} (hw : w < 6) : MT l G yJ0_length_8abf5 cJ0_length_8abf5 1 (some .int) (RM 1) [.ref (G.2.2.1 w)] ad a b (some (.int (slen w))) a b := by
  refine MT_ofF (by decide +kernel) (Nat.le_of_ble_eq_true rfl) ?_
  intro p e s m args below meth c A C hr hk
  refine j_aload_n (x := G.2.2.1 w) C 0 rfl dJ0_length_8abf5_0 ?_
  refine j_svalue C hw dJ0_length_8abf5_1 ?_
  refine j_sblen C hw dJ0_length_8abf5_4 ?_
  refine j_aload_n (x := G.2.2.1 w) C 0 rfl dJ0_length_8abf5_5 ?_
  refine j_callT (w := w) (As := []) (rest := [.int (slen w)]) C hw (k_jcoder hw) cw_jcoder ml_J0_335 rfl ⟨Nat.le_of_ble_eq_true rfl, Nat.le_of_ble_eq_true rfl⟩ ⟨Nat.le_refl _, Nat.le_refl _⟩ rfl (Nat.le_of_ble_eq_true rfl) dJ0_length_8abf5_6 ?_
  refine j_ishr C dJ0_length_8abf5_9 ?_
  exact j_iret C hr hk ⟨Nat.le_refl _, Nat.le_refl _⟩ (by rw [sb_shr0]) dJ0_length_8abf5_10
theorem k_jpcheck {i z : Int32} (o : Option Nat) (h : 0 ≤ i.toInt ∧ i.toInt < z.toInt) : MT l G yJ3_checkIndex_8e157 cJ3_checkIndex_8e157 3 (some .int) (RM 0) [.int i, .int z, va_rf o] ad a b (some (.int i)) a b := by
  have hc : (va_rf o).category = 1 := by cases o <;> rfl
  intro sz
  revert hc
  cases o with
  | none =>
    intro _
    revert sz
    refine MT_ofF (by decide +kernel) (Nat.le_of_ble_eq_true rfl) ?_
    intro p e s m args below meth c A C hr hk
    refine j_iload_n (x := i) C 0 rfl dJ3_checkIndex_8e157_0 ?_
    refine j_if_lt (X := Nat) (f := 0) (g := 0) (r := 0) C 9 dJ3_checkIndex_8e157_1 (by decide) (by simp) (fun h2 _ => absurd (Int32.lt_iff_toInt_lt.mp h2) (by have := h.1; simp; omega)) (fun _ _ => ?_)
    refine j_iload_n (x := i) C 0 rfl dJ3_checkIndex_8e157_4 ?_
    refine j_iload_n (x := z) C 1 rfl dJ3_checkIndex_8e157_5 ?_
    refine j_icmp_lt (X := Nat) (f := 0) (g := 0) (r := 0) C 16 dJ3_checkIndex_8e157_6 (by decide) (by simp) (fun _ _ => ?_) (fun h2 _ => absurd (Int32.lt_iff_toInt_lt.mpr h.2) h2)
    refine j_iload_n (x := i) C 0 rfl dJ3_checkIndex_8e157_16 ?_
    exact j_iret C hr hk ⟨Nat.le_refl _, Nat.le_refl _⟩ rfl dJ3_checkIndex_8e157_17
  | some q =>
    intro _
    revert sz
    refine MT_ofF (by decide +kernel) (Nat.le_of_ble_eq_true rfl) ?_
    intro p e s m args below meth c A C hr hk
    refine j_iload_n (x := i) C 0 rfl dJ3_checkIndex_8e157_0 ?_
    refine j_if_lt (X := Nat) (f := 0) (g := 0) (r := 0) C 9 dJ3_checkIndex_8e157_1 (by decide) (by simp) (fun h2 _ => absurd (Int32.lt_iff_toInt_lt.mp h2) (by have := h.1; simp; omega)) (fun _ _ => ?_)
    refine j_iload_n (x := i) C 0 rfl dJ3_checkIndex_8e157_4 ?_
    refine j_iload_n (x := z) C 1 rfl dJ3_checkIndex_8e157_5 ?_
    refine j_icmp_lt (X := Nat) (f := 0) (g := 0) (r := 0) C 16 dJ3_checkIndex_8e157_6 (by decide) (by simp) (fun _ _ => ?_) (fun h2 _ => absurd (Int32.lt_iff_toInt_lt.mpr h.2) h2)
    refine j_iload_n (x := i) C 0 rfl dJ3_checkIndex_8e157_16 ?_
    exact j_iret C hr hk ⟨Nat.le_refl _, Nat.le_refl _⟩ rfl dJ3_checkIndex_8e157_17
theorem rf_cat (o : Option Nat) : (va_rf o).category = 1 := by cases o <;> rfl
theorem k_jscheck {i z : Int32} (h : 0 ≤ i.toInt ∧ i.toInt < z.toInt) : MT l G yJ0_checkIndex_df160 cJ0_checkIndex_df160 2 none (RM 1) [.int i, .int z] ad a b none a b := by
  refine MT_ofF (by decide +kernel) (Nat.le_of_ble_eq_true rfl) ?_
  intro p e s m args below meth c A C hr hk
  refine j_iload_n (x := i) C 0 rfl dJ0_checkIndex_df160_0 ?_
  refine j_iload_n (x := z) C 1 rfl dJ0_checkIndex_df160_1 ?_
  refine j_getsF C dJ0_checkIndex_df160_2 (fun o => ?_)
  refine j_callS (As := [.int i, .int z, va_rf o]) (rest := []) C (k_jpcheck o h) cw_jpcheck ml_J0_1059 rfl ⟨Nat.le_of_ble_eq_true rfl, Nat.le_of_ble_eq_true rfl⟩ ⟨Nat.le_refl _, Nat.le_refl _⟩ rfl (Nat.le_of_ble_eq_true rfl) dJ0_checkIndex_df160_5 ?_
  refine j_pop C rfl dJ0_checkIndex_df160_8 ?_
  exact j_vret C hr hk ⟨Nat.le_refl _, Nat.le_refl _⟩ rfl dJ0_checkIndex_df160_9
theorem k_jlchar {w : Nat} {i : Int32} (hw : w < 6) (hi : inb i (scrN.getD w 0) = true) : MT l G yJ1_charAt_3b067 cJ1_charAt_3b067 2 (some .char) (RM 2) [.ref (G.2.2.2 w), .int i] ad a b (some (.int (schar w i))) a b := by
  have hb : ∀ w, w < 6 → (slen w).toInt = (scrN.getD w 0 : Int) := by decide +kernel
  have h := of_decide_eq_true hi
  refine MT_ofF (by decide +kernel) (Nat.le_of_ble_eq_true rfl) ?_
  intro p e s m args below meth c A C hr hk
  refine j_iload_n (x := i) C 1 rfl dJ1_charAt_3b067_0 ?_
  refine j_aload_n (x := G.2.2.2 w) C 0 rfl dJ1_charAt_3b067_1 ?_
  refine j_sblen C hw dJ1_charAt_3b067_2 ?_
  refine j_callS (As := [.int i, .int (slen w)]) (rest := []) C (k_jscheck ⟨h.1, by rw [hb w hw]; exact h.2⟩) cw_jscheck ml_J1_9 rfl ⟨Nat.le_of_ble_eq_true rfl, Nat.le_of_ble_eq_true rfl⟩ ⟨Nat.le_refl _, Nat.le_refl _⟩ rfl (Nat.le_of_ble_eq_true rfl) dJ1_charAt_3b067_3 ?_
  refine j_aload_n (x := G.2.2.2 w) C 0 rfl dJ1_charAt_3b067_6 ?_
  refine j_iload_n (x := i) C 1 rfl dJ1_charAt_3b067_7 ?_
  refine j_sbld C hw hi dJ1_charAt_3b067_8 ?_
  refine j_sipush (v := 255) C (by decide) dJ1_charAt_3b067_9 ?_
  refine j_iand C dJ1_charAt_3b067_12 ?_
  refine j_i2c C dJ1_charAt_3b067_13 ?_
  rw [(sch_ok hw hi).1]
  exact j_zret C hr hk (sch_ok hw hi).2 ⟨Nat.le_refl _, Nat.le_refl _⟩ rfl dJ1_charAt_3b067_14
theorem k_jchar {w : Nat} {i : Int32} (hw : w < 6) (hi : inb i (scrN.getD w 0) = true) : MT l G yJ0_charAt_5068e cJ0_charAt_5068e 2 (some .char) (RM 3) [.ref (G.2.2.1 w), .int i] ad a b (some (.int (schar w i))) a b := by
  refine MT_ofF (by decide +kernel) (Nat.le_of_ble_eq_true rfl) ?_
  intro p e s m args below meth c A C hr hk
  refine j_aload_n (x := G.2.2.1 w) C 0 rfl dJ0_charAt_5068e_0 ?_
  refine j_callT (w := w) (As := []) (rest := []) C hw (k_jlat hw) cw_jlat ml_J0_492 rfl ⟨Nat.le_of_ble_eq_true rfl, Nat.le_of_ble_eq_true rfl⟩ ⟨Nat.le_refl _, Nat.le_refl _⟩ rfl (Nat.le_of_ble_eq_true rfl) dJ0_charAt_5068e_1 ?_
  refine j_if_eq (X := Nat) (f := 0) (g := 0) (r := 0) C 16 dJ0_charAt_5068e_4 (by decide) (by decide) (fun h _ => absurd h (by decide)) (fun _ _ => ?_)
  refine j_aload_n (x := G.2.2.1 w) C 0 rfl dJ0_charAt_5068e_7 ?_
  refine j_svalue C hw dJ0_charAt_5068e_8 ?_
  refine j_iload_n (x := i) C 1 rfl dJ0_charAt_5068e_11 ?_
  refine j_callS (As := [.ref (G.2.2.2 w), .int i]) (rest := []) C (k_jlchar hw hi) cw_jlchar ml_J0_495 rfl ⟨Nat.le_of_ble_eq_true rfl, Nat.le_of_ble_eq_true rfl⟩ ⟨Nat.le_refl _, Nat.le_refl _⟩ rfl (Nat.le_of_ble_eq_true rfl) dJ0_charAt_5068e_12 ?_
  exact j_zret C hr hk (sch_ok hw hi).2 ⟨Nat.le_refl _, Nat.le_refl _⟩ rfl dJ0_charAt_5068e_15
end JS
