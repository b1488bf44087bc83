section
-- ===== PART A: goes FIRST, ahead of the names: the tables' words, and 'selects' of the private methods out of them =====
/-- a private method of a class that the tables say can be made, by its rows of tables_1 -/
def lw_okq (q : MethodName × Nat) : Prop := (q.1.cls ≠ "java/lang/invoke/MethodHandle" ∧ q.1.cls ≠ "java/lang/invoke/VarHandle") ∧ Cond.instantiable q.1.cls q.2 ∈ tables_1 ∧ Cond.privateMethod q.1 ∈ tables_1 ∧ Cond.instanceMethod q.1 ∈ tables_1
theorem lw_p0 : lw_okq (⟨"KnobMenu$Device", "goBack", "()I"⟩, 13) := ⟨⟨by decide +kernel, by decide +kernel⟩, List.mem_of_getElem? (i := 163) (by decide +kernel), List.mem_of_getElem? (i := 311) (by decide +kernel), List.mem_of_getElem? (i := 312) (by decide +kernel)⟩
theorem lw_p1 : lw_okq (⟨"KnobMenu$Device", "endEdit", "(LKnobMenu$Item;)I"⟩, 13) := ⟨⟨by decide +kernel, by decide +kernel⟩, List.mem_of_getElem? (i := 163) (by decide +kernel), List.mem_of_getElem? (i := 315) (by decide +kernel), List.mem_of_getElem? (i := 316) (by decide +kernel)⟩
theorem lw_p2 : lw_okq (⟨"KnobMenu$EditLog", "removeOldest", "()V"⟩, 3) := ⟨⟨by decide +kernel, by decide +kernel⟩, List.mem_of_getElem? (i := 127) (by decide +kernel), List.mem_of_getElem? (i := 323) (by decide +kernel), List.mem_of_getElem? (i := 324) (by decide +kernel)⟩
theorem lw_p3 : lw_okq (⟨"KnobMenu$Device", "endDigit", "(LKnobMenu$Item;)I"⟩, 13) := ⟨⟨by decide +kernel, by decide +kernel⟩, List.mem_of_getElem? (i := 163) (by decide +kernel), List.mem_of_getElem? (i := 331) (by decide +kernel), List.mem_of_getElem? (i := 332) (by decide +kernel)⟩
theorem lw_p4 : lw_okq (⟨"KnobMenu$Device", "enteredCode", "()I"⟩, 13) := ⟨⟨by decide +kernel, by decide +kernel⟩, List.mem_of_getElem? (i := 163) (by decide +kernel), List.mem_of_getElem? (i := 335) (by decide +kernel), List.mem_of_getElem? (i := 336) (by decide +kernel)⟩
theorem lw_p5 : lw_okq (⟨"KnobMenu$Device", "countWrongCode", "()V"⟩, 13) := ⟨⟨by decide +kernel, by decide +kernel⟩, List.mem_of_getElem? (i := 163) (by decide +kernel), List.mem_of_getElem? (i := 343) (by decide +kernel), List.mem_of_getElem? (i := 344) (by decide +kernel)⟩
theorem lw_p6 : lw_okq (⟨"KnobMenu$Device", "beginCode", "()I"⟩, 13) := ⟨⟨by decide +kernel, by decide +kernel⟩, List.mem_of_getElem? (i := 163) (by decide +kernel), List.mem_of_getElem? (i := 355) (by decide +kernel), List.mem_of_getElem? (i := 356) (by decide +kernel)⟩
theorem lw_p7 : lw_okq (⟨"KnobMenu$Device", "use", "(LKnobMenu$Item;)I"⟩, 13) := ⟨⟨by decide +kernel, by decide +kernel⟩, List.mem_of_getElem? (i := 163) (by decide +kernel), List.mem_of_getElem? (i := 363) (by decide +kernel), List.mem_of_getElem? (i := 364) (by decide +kernel)⟩
theorem lw_p8 : lw_okq (⟨"KnobMenu$Device", "goHome", "()V"⟩, 13) := ⟨⟨by decide +kernel, by decide +kernel⟩, List.mem_of_getElem? (i := 163) (by decide +kernel), List.mem_of_getElem? (i := 375) (by decide +kernel), List.mem_of_getElem? (i := 376) (by decide +kernel)⟩
theorem lw_p9 : lw_okq (⟨"KnobMenu$Device", "wouldBeHomeBrowsing", "()Z"⟩, 13) := ⟨⟨by decide +kernel, by decide +kernel⟩, List.mem_of_getElem? (i := 163) (by decide +kernel), List.mem_of_getElem? (i := 431) (by decide +kernel), List.mem_of_getElem? (i := 432) (by decide +kernel)⟩
theorem lw_p10 : lw_okq (⟨"KnobMenu$ActionText", "signAt", "(I)C"⟩, 4) := ⟨⟨by decide +kernel, by decide +kernel⟩, List.mem_of_getElem? (i := 230) (by decide +kernel), List.mem_of_getElem? (i := 484) (by decide +kernel), List.mem_of_getElem? (i := 485) (by decide +kernel)⟩
theorem lw_p11 : lw_okq (⟨"KnobMenu$ActionReader", "takesVerb", "(C)Z"⟩, 2) := ⟨⟨by decide +kernel, by decide +kernel⟩, List.mem_of_getElem? (i := 236) (by decide +kernel), List.mem_of_getElem? (i := 492) (by decide +kernel), List.mem_of_getElem? (i := 493) (by decide +kernel)⟩
theorem lw_p12 : lw_okq (⟨"KnobMenu$ActionReader", "takesComma", "()Z"⟩, 2) := ⟨⟨by decide +kernel, by decide +kernel⟩, List.mem_of_getElem? (i := 236) (by decide +kernel), List.mem_of_getElem? (i := 499) (by decide +kernel), List.mem_of_getElem? (i := 500) (by decide +kernel)⟩
theorem lw_p13 : lw_okq (⟨"KnobMenu$ActionReader", "takesDigit", "(I)Z"⟩, 2) := ⟨⟨by decide +kernel, by decide +kernel⟩, List.mem_of_getElem? (i := 236) (by decide +kernel), List.mem_of_getElem? (i := 508) (by decide +kernel), List.mem_of_getElem? (i := 509) (by decide +kernel)⟩
theorem lw_p14 : lw_okq (⟨"KnobMenu", "mixPosition", "(J)J"⟩, 7) := ⟨⟨by decide +kernel, by decide +kernel⟩, List.mem_of_getElem? (i := 23) (by decide +kernel), List.mem_of_getElem? (i := 517) (by decide +kernel), List.mem_of_getElem? (i := 518) (by decide +kernel)⟩
theorem lw_p15 : lw_okq (⟨"KnobMenu", "mixItems", "(J)J"⟩, 7) := ⟨⟨by decide +kernel, by decide +kernel⟩, List.mem_of_getElem? (i := 23) (by decide +kernel), List.mem_of_getElem? (i := 535) (by decide +kernel), List.mem_of_getElem? (i := 536) (by decide +kernel)⟩
def lw_privs_1 : List (MethodName × Nat) := [(⟨"KnobMenu$Device", "goBack", "()I"⟩, 13), (⟨"KnobMenu$Device", "endEdit", "(LKnobMenu$Item;)I"⟩, 13), (⟨"KnobMenu$EditLog", "removeOldest", "()V"⟩, 3), (⟨"KnobMenu$Device", "endDigit", "(LKnobMenu$Item;)I"⟩, 13), (⟨"KnobMenu$Device", "enteredCode", "()I"⟩, 13), (⟨"KnobMenu$Device", "countWrongCode", "()V"⟩, 13), (⟨"KnobMenu$Device", "beginCode", "()I"⟩, 13), (⟨"KnobMenu$Device", "use", "(LKnobMenu$Item;)I"⟩, 13), (⟨"KnobMenu$Device", "goHome", "()V"⟩, 13), (⟨"KnobMenu$Device", "wouldBeHomeBrowsing", "()Z"⟩, 13), (⟨"KnobMenu$ActionText", "signAt", "(I)C"⟩, 4), (⟨"KnobMenu$ActionReader", "takesVerb", "(C)Z"⟩, 2), (⟨"KnobMenu$ActionReader", "takesComma", "()Z"⟩, 2), (⟨"KnobMenu$ActionReader", "takesDigit", "(I)Z"⟩, 2), (⟨"KnobMenu", "mixPosition", "(J)J"⟩, 7), (⟨"KnobMenu", "mixItems", "(J)J"⟩, 7)]
theorem lw_r1 : ∀ q ∈ lw_privs_1, lw_okq q := List.forall_mem_cons.mpr ⟨lw_p0, List.forall_mem_cons.mpr ⟨lw_p1, List.forall_mem_cons.mpr ⟨lw_p2, List.forall_mem_cons.mpr ⟨lw_p3, List.forall_mem_cons.mpr ⟨lw_p4, List.forall_mem_cons.mpr ⟨lw_p5, List.forall_mem_cons.mpr ⟨lw_p6, List.forall_mem_cons.mpr ⟨lw_p7, List.forall_mem_cons.mpr ⟨lw_p8, List.forall_mem_cons.mpr ⟨lw_p9, List.forall_mem_cons.mpr ⟨lw_p10, List.forall_mem_cons.mpr ⟨lw_p11, List.forall_mem_cons.mpr ⟨lw_p12, List.forall_mem_cons.mpr ⟨lw_p13, List.forall_mem_cons.mpr ⟨lw_p14, List.forall_mem_cons.mpr ⟨lw_p15, fun _ h => absurd h List.not_mem_nil⟩⟩⟩⟩⟩⟩⟩⟩⟩⟩⟩⟩⟩⟩⟩⟩
theorem lw_p16 : lw_okq (⟨"KnobMenu$Screen", "clear", "()V"⟩, 1) := ⟨⟨by decide +kernel, by decide +kernel⟩, List.mem_of_getElem? (i := 219) (by decide +kernel), List.mem_of_getElem? (i := 548) (by decide +kernel), List.mem_of_getElem? (i := 549) (by decide +kernel)⟩
theorem lw_p17 : lw_okq (⟨"KnobMenu$Screen", "writeTitle", "(Ljava/lang/String;LKnobMenu$Item;)V"⟩, 1) := ⟨⟨by decide +kernel, by decide +kernel⟩, List.mem_of_getElem? (i := 219) (by decide +kernel), List.mem_of_getElem? (i := 554) (by decide +kernel), List.mem_of_getElem? (i := 555) (by decide +kernel)⟩
theorem lw_p18 : lw_okq (⟨"KnobMenu$Screen", "writeNumbered", "(ILjava/lang/String;I)V"⟩, 1) := ⟨⟨by decide +kernel, by decide +kernel⟩, List.mem_of_getElem? (i := 219) (by decide +kernel), List.mem_of_getElem? (i := 558) (by decide +kernel), List.mem_of_getElem? (i := 559) (by decide +kernel)⟩
theorem lw_p19 : lw_okq (⟨"KnobMenu$Screen", "write", "(ILjava/lang/String;)I"⟩, 1) := ⟨⟨by decide +kernel, by decide +kernel⟩, List.mem_of_getElem? (i := 219) (by decide +kernel), List.mem_of_getElem? (i := 562) (by decide +kernel), List.mem_of_getElem? (i := 563) (by decide +kernel)⟩
theorem lw_p20 : lw_okq (⟨"KnobMenu$Screen", "put", "(IIC)V"⟩, 1) := ⟨⟨by decide +kernel, by decide +kernel⟩, List.mem_of_getElem? (i := 219) (by decide +kernel), List.mem_of_getElem? (i := 614) (by decide +kernel), List.mem_of_getElem? (i := 615) (by decide +kernel)⟩
theorem lw_p21 : lw_okq (⟨"KnobMenu$Screen", "writeEndingAt", "(III)V"⟩, 1) := ⟨⟨by decide +kernel, by decide +kernel⟩, List.mem_of_getElem? (i := 219) (by decide +kernel), List.mem_of_getElem? (i := 618) (by decide +kernel), List.mem_of_getElem? (i := 619) (by decide +kernel)⟩
theorem lw_p22 : lw_okq (⟨"KnobMenu$Screen", "writeAtEnd", "(II)V"⟩, 1) := ⟨⟨by decide +kernel, by decide +kernel⟩, List.mem_of_getElem? (i := 219) (by decide +kernel), List.mem_of_getElem? (i := 625) (by decide +kernel), List.mem_of_getElem? (i := 626) (by decide +kernel)⟩
theorem lw_p23 : lw_okq (⟨"KnobMenu$Screen", "writeDigits", "(LKnobMenu$Device;)V"⟩, 1) := ⟨⟨by decide +kernel, by decide +kernel⟩, List.mem_of_getElem? (i := 219) (by decide +kernel), List.mem_of_getElem? (i := 630) (by decide +kernel), List.mem_of_getElem? (i := 631) (by decide +kernel)⟩
theorem lw_p24 : lw_okq (⟨"KnobMenu$Screen", "writeName", "(ILKnobMenu$Item;)V"⟩, 1) := ⟨⟨by decide +kernel, by decide +kernel⟩, List.mem_of_getElem? (i := 219) (by decide +kernel), List.mem_of_getElem? (i := 635) (by decide +kernel), List.mem_of_getElem? (i := 636) (by decide +kernel)⟩
theorem lw_p25 : lw_okq (⟨"KnobMenu$Screen", "writeChosen", "(LKnobMenu$Item;LKnobMenu$Item;)V"⟩, 1) := ⟨⟨by decide +kernel, by decide +kernel⟩, List.mem_of_getElem? (i := 219) (by decide +kernel), List.mem_of_getElem? (i := 642) (by decide +kernel), List.mem_of_getElem? (i := 643) (by decide +kernel)⟩
theorem lw_p26 : lw_okq (⟨"KnobMenu$Screen", "writeState", "(LKnobMenu$Item;)V"⟩, 1) := ⟨⟨by decide +kernel, by decide +kernel⟩, List.mem_of_getElem? (i := 219) (by decide +kernel), List.mem_of_getElem? (i := 646) (by decide +kernel), List.mem_of_getElem? (i := 647) (by decide +kernel)⟩
theorem lw_p27 : lw_okq (⟨"KnobMenu", "mixScreen", "(J)J"⟩, 7) := ⟨⟨by decide +kernel, by decide +kernel⟩, List.mem_of_getElem? (i := 23) (by decide +kernel), List.mem_of_getElem? (i := 656) (by decide +kernel), List.mem_of_getElem? (i := 657) (by decide +kernel)⟩
theorem lw_p28 : lw_okq (⟨"KnobMenu", "menuNumbered", "(I)LKnobMenu$Item;"⟩, 7) := ⟨⟨by decide +kernel, by decide +kernel⟩, List.mem_of_getElem? (i := 23) (by decide +kernel), List.mem_of_getElem? (i := 680) (by decide +kernel), List.mem_of_getElem? (i := 681) (by decide +kernel)⟩
theorem lw_p29 : lw_okq (⟨"KnobMenu", "itemNumbered", "(I)LKnobMenu$Item;"⟩, 7) := ⟨⟨by decide +kernel, by decide +kernel⟩, List.mem_of_getElem? (i := 23) (by decide +kernel), List.mem_of_getElem? (i := 684) (by decide +kernel), List.mem_of_getElem? (i := 685) (by decide +kernel)⟩
theorem lw_p30 : lw_okq (⟨"java/lang/Throwable", "fillInStackTrace", "(I)Ljava/lang/Throwable;"⟩, 6) := ⟨⟨by decide +kernel, by decide +kernel⟩, List.mem_of_getElem? (i := 726) (by decide +kernel), List.mem_of_getElem? (i := 724) (by decide +kernel), List.mem_of_getElem? (i := 725) (by decide +kernel)⟩
theorem lw_p31 : lw_okq (⟨"KnobMenu", "added", "(LKnobMenu$Item;IIII)I"⟩, 7) := ⟨⟨by decide +kernel, by decide +kernel⟩, List.mem_of_getElem? (i := 23) (by decide +kernel), List.mem_of_getElem? (i := 787) (by decide +kernel), List.mem_of_getElem? (i := 788) (by decide +kernel)⟩
def lw_privs_2 : List (MethodName × Nat) := [(⟨"KnobMenu$Screen", "clear", "()V"⟩, 1), (⟨"KnobMenu$Screen", "writeTitle", "(Ljava/lang/String;LKnobMenu$Item;)V"⟩, 1), (⟨"KnobMenu$Screen", "writeNumbered", "(ILjava/lang/String;I)V"⟩, 1), (⟨"KnobMenu$Screen", "write", "(ILjava/lang/String;)I"⟩, 1), (⟨"KnobMenu$Screen", "put", "(IIC)V"⟩, 1), (⟨"KnobMenu$Screen", "writeEndingAt", "(III)V"⟩, 1), (⟨"KnobMenu$Screen", "writeAtEnd", "(II)V"⟩, 1), (⟨"KnobMenu$Screen", "writeDigits", "(LKnobMenu$Device;)V"⟩, 1), (⟨"KnobMenu$Screen", "writeName", "(ILKnobMenu$Item;)V"⟩, 1), (⟨"KnobMenu$Screen", "writeChosen", "(LKnobMenu$Item;LKnobMenu$Item;)V"⟩, 1), (⟨"KnobMenu$Screen", "writeState", "(LKnobMenu$Item;)V"⟩, 1), (⟨"KnobMenu", "mixScreen", "(J)J"⟩, 7), (⟨"KnobMenu", "menuNumbered", "(I)LKnobMenu$Item;"⟩, 7), (⟨"KnobMenu", "itemNumbered", "(I)LKnobMenu$Item;"⟩, 7), (⟨"java/lang/Throwable", "fillInStackTrace", "(I)Ljava/lang/Throwable;"⟩, 6), (⟨"KnobMenu", "added", "(LKnobMenu$Item;IIII)I"⟩, 7)]
theorem lw_r2 : ∀ q ∈ lw_privs_2, lw_okq q := List.forall_mem_cons.mpr ⟨lw_p16, List.forall_mem_cons.mpr ⟨lw_p17, List.forall_mem_cons.mpr ⟨lw_p18, List.forall_mem_cons.mpr ⟨lw_p19, List.forall_mem_cons.mpr ⟨lw_p20, List.forall_mem_cons.mpr ⟨lw_p21, List.forall_mem_cons.mpr ⟨lw_p22, List.forall_mem_cons.mpr ⟨lw_p23, List.forall_mem_cons.mpr ⟨lw_p24, List.forall_mem_cons.mpr ⟨lw_p25, List.forall_mem_cons.mpr ⟨lw_p26, List.forall_mem_cons.mpr ⟨lw_p27, List.forall_mem_cons.mpr ⟨lw_p28, List.forall_mem_cons.mpr ⟨lw_p29, List.forall_mem_cons.mpr ⟨lw_p30, List.forall_mem_cons.mpr ⟨lw_p31, fun _ h => absurd h List.not_mem_nil⟩⟩⟩⟩⟩⟩⟩⟩⟩⟩⟩⟩⟩⟩⟩⟩
theorem lw_p32 : lw_okq (⟨"KnobMenu", "requireHome", "()V"⟩, 7) := ⟨⟨by decide +kernel, by decide +kernel⟩, List.mem_of_getElem? (i := 23) (by decide +kernel), List.mem_of_getElem? (i := 791) (by decide +kernel), List.mem_of_getElem? (i := 792) (by decide +kernel)⟩
theorem lw_p33 : lw_okq (⟨"KnobMenu$Device", "turnedDraft", "(I)I"⟩, 13) := ⟨⟨by decide +kernel, by decide +kernel⟩, List.mem_of_getElem? (i := 163) (by decide +kernel), List.mem_of_getElem? (i := 879) (by decide +kernel), List.mem_of_getElem? (i := 880) (by decide +kernel)⟩
theorem lw_p34 : lw_okq (⟨"KnobMenu$Device", "passTick", "()I"⟩, 13) := ⟨⟨by decide +kernel, by decide +kernel⟩, List.mem_of_getElem? (i := 163) (by decide +kernel), List.mem_of_getElem? (i := 903) (by decide +kernel), List.mem_of_getElem? (i := 904) (by decide +kernel)⟩
theorem lw_p35 : lw_okq (⟨"KnobMenu", "presetNumbered", "(I)LKnobMenu$Preset;"⟩, 7) := ⟨⟨by decide +kernel, by decide +kernel⟩, List.mem_of_getElem? (i := 23) (by decide +kernel), List.mem_of_getElem? (i := 952) (by decide +kernel), List.mem_of_getElem? (i := 953) (by decide +kernel)⟩
theorem lw_p36 : lw_okq (⟨"KnobMenu$Device", "detentsToEntry", "(II)I"⟩, 13) := ⟨⟨by decide +kernel, by decide +kernel⟩, List.mem_of_getElem? (i := 163) (by decide +kernel), List.mem_of_getElem? (i := 1020) (by decide +kernel), List.mem_of_getElem? (i := 1021) (by decide +kernel)⟩
theorem lw_p37 : lw_okq (⟨"KnobMenuModel", "isItem", "(I)Z"⟩, 33) := ⟨⟨by decide +kernel, by decide +kernel⟩, List.mem_of_getElem? (i := 1081) (by decide +kernel), List.mem_of_getElem? (i := 1196) (by decide +kernel), List.mem_of_getElem? (i := 1197) (by decide +kernel)⟩
theorem lw_p38 : lw_okq (⟨"KnobMenuModel", "isMenu", "(I)Z"⟩, 33) := ⟨⟨by decide +kernel, by decide +kernel⟩, List.mem_of_getElem? (i := 1081) (by decide +kernel), List.mem_of_getElem? (i := 1203) (by decide +kernel), List.mem_of_getElem? (i := 1204) (by decide +kernel)⟩
theorem lw_p39 : lw_okq (⟨"KnobMenuModel", "canAdd", "(I)Z"⟩, 33) := ⟨⟨by decide +kernel, by decide +kernel⟩, List.mem_of_getElem? (i := 1081) (by decide +kernel), List.mem_of_getElem? (i := 1207) (by decide +kernel), List.mem_of_getElem? (i := 1208) (by decide +kernel)⟩
theorem lw_p40 : lw_okq (⟨"KnobMenuModel", "home", "()Z"⟩, 33) := ⟨⟨by decide +kernel, by decide +kernel⟩, List.mem_of_getElem? (i := 1081) (by decide +kernel), List.mem_of_getElem? (i := 1211) (by decide +kernel), List.mem_of_getElem? (i := 1212) (by decide +kernel)⟩
theorem lw_p41 : lw_okq (⟨"KnobMenuModel", "anyOpen", "()Z"⟩, 33) := ⟨⟨by decide +kernel, by decide +kernel⟩, List.mem_of_getElem? (i := 1081) (by decide +kernel), List.mem_of_getElem? (i := 1215) (by decide +kernel), List.mem_of_getElem? (i := 1216) (by decide +kernel)⟩
theorem lw_p42 : lw_okq (⟨"KnobMenuModel", "itemsOf", "(I)I"⟩, 33) := ⟨⟨by decide +kernel, by decide +kernel⟩, List.mem_of_getElem? (i := 1081) (by decide +kernel), List.mem_of_getElem? (i := 1219) (by decide +kernel), List.mem_of_getElem? (i := 1220) (by decide +kernel)⟩
theorem lw_p43 : lw_okq (⟨"KnobMenuModel", "levelOf", "(I)I"⟩, 33) := ⟨⟨by decide +kernel, by decide +kernel⟩, List.mem_of_getElem? (i := 1081) (by decide +kernel), List.mem_of_getElem? (i := 1223) (by decide +kernel), List.mem_of_getElem? (i := 1224) (by decide +kernel)⟩
theorem lw_p44 : lw_okq (⟨"KnobMenuModel", "holds", "(I)Z"⟩, 33) := ⟨⟨by decide +kernel, by decide +kernel⟩, List.mem_of_getElem? (i := 1081) (by decide +kernel), List.mem_of_getElem? (i := 1227) (by decide +kernel), List.mem_of_getElem? (i := 1228) (by decide +kernel)⟩
theorem lw_p45 : lw_okq (⟨"KnobMenuModel", "adds", "(II)I"⟩, 33) := ⟨⟨by decide +kernel, by decide +kernel⟩, List.mem_of_getElem? (i := 1081) (by decide +kernel), List.mem_of_getElem? (i := 1231) (by decide +kernel), List.mem_of_getElem? (i := 1232) (by decide +kernel)⟩
theorem lw_p46 : lw_okq (⟨"KnobMenuModel", "isShut", "(I)Z"⟩, 33) := ⟨⟨by decide +kernel, by decide +kernel⟩, List.mem_of_getElem? (i := 1081) (by decide +kernel), List.mem_of_getElem? (i := 1267) (by decide +kernel), List.mem_of_getElem? (i := 1268) (by decide +kernel)⟩
theorem lw_p47 : lw_okq (⟨"KnobMenuModel", "turns", "(I)I"⟩, 33) := ⟨⟨by decide +kernel, by decide +kernel⟩, List.mem_of_getElem? (i := 1081) (by decide +kernel), List.mem_of_getElem? (i := 1275) (by decide +kernel), List.mem_of_getElem? (i := 1276) (by decide +kernel)⟩
def lw_privs_3 : List (MethodName × Nat) := [(⟨"KnobMenu", "requireHome", "()V"⟩, 7), (⟨"KnobMenu$Device", "turnedDraft", "(I)I"⟩, 13), (⟨"KnobMenu$Device", "passTick", "()I"⟩, 13), (⟨"KnobMenu", "presetNumbered", "(I)LKnobMenu$Preset;"⟩, 7), (⟨"KnobMenu$Device", "detentsToEntry", "(II)I"⟩, 13), (⟨"KnobMenuModel", "isItem", "(I)Z"⟩, 33), (⟨"KnobMenuModel", "isMenu", "(I)Z"⟩, 33), (⟨"KnobMenuModel", "canAdd", "(I)Z"⟩, 33), (⟨"KnobMenuModel", "home", "()Z"⟩, 33), (⟨"KnobMenuModel", "anyOpen", "()Z"⟩, 33), (⟨"KnobMenuModel", "itemsOf", "(I)I"⟩, 33), (⟨"KnobMenuModel", "levelOf", "(I)I"⟩, 33), (⟨"KnobMenuModel", "holds", "(I)Z"⟩, 33), (⟨"KnobMenuModel", "adds", "(II)I"⟩, 33), (⟨"KnobMenuModel", "isShut", "(I)Z"⟩, 33), (⟨"KnobMenuModel", "turns", "(I)I"⟩, 33)]
theorem lw_r3 : ∀ q ∈ lw_privs_3, lw_okq q := List.forall_mem_cons.mpr ⟨lw_p32, List.forall_mem_cons.mpr ⟨lw_p33, List.forall_mem_cons.mpr ⟨lw_p34, List.forall_mem_cons.mpr ⟨lw_p35, List.forall_mem_cons.mpr ⟨lw_p36, List.forall_mem_cons.mpr ⟨lw_p37, List.forall_mem_cons.mpr ⟨lw_p38, List.forall_mem_cons.mpr ⟨lw_p39, List.forall_mem_cons.mpr ⟨lw_p40, List.forall_mem_cons.mpr ⟨lw_p41, List.forall_mem_cons.mpr ⟨lw_p42, List.forall_mem_cons.mpr ⟨lw_p43, List.forall_mem_cons.mpr ⟨lw_p44, List.forall_mem_cons.mpr ⟨lw_p45, List.forall_mem_cons.mpr ⟨lw_p46, List.forall_mem_cons.mpr ⟨lw_p47, fun _ h => absurd h List.not_mem_nil⟩⟩⟩⟩⟩⟩⟩⟩⟩⟩⟩⟩⟩⟩⟩⟩
theorem lw_p48 : lw_okq (⟨"KnobMenuModel", "turned", "(I)I"⟩, 33) := ⟨⟨by decide +kernel, by decide +kernel⟩, List.mem_of_getElem? (i := 1081) (by decide +kernel), List.mem_of_getElem? (i := 1279) (by decide +kernel), List.mem_of_getElem? (i := 1280) (by decide +kernel)⟩
theorem lw_p49 : lw_okq (⟨"KnobMenuModel", "itemAt", "(I)I"⟩, 33) := ⟨⟨by decide +kernel, by decide +kernel⟩, List.mem_of_getElem? (i := 1081) (by decide +kernel), List.mem_of_getElem? (i := 1286) (by decide +kernel), List.mem_of_getElem? (i := 1287) (by decide +kernel)⟩
theorem lw_p50 : lw_okq (⟨"KnobMenuModel", "indexOf", "(I)I"⟩, 33) := ⟨⟨by decide +kernel, by decide +kernel⟩, List.mem_of_getElem? (i := 1081) (by decide +kernel), List.mem_of_getElem? (i := 1290) (by decide +kernel), List.mem_of_getElem? (i := 1291) (by decide +kernel)⟩
theorem lw_p51 : lw_okq (⟨"KnobMenuModel", "entries", "(I)I"⟩, 33) := ⟨⟨by decide +kernel, by decide +kernel⟩, List.mem_of_getElem? (i := 1081) (by decide +kernel), List.mem_of_getElem? (i := 1297) (by decide +kernel), List.mem_of_getElem? (i := 1298) (by decide +kernel)⟩
theorem lw_p52 : lw_okq (⟨"KnobMenuModel", "presses", "()I"⟩, 33) := ⟨⟨by decide +kernel, by decide +kernel⟩, List.mem_of_getElem? (i := 1081) (by decide +kernel), List.mem_of_getElem? (i := 1305) (by decide +kernel), List.mem_of_getElem? (i := 1306) (by decide +kernel)⟩
theorem lw_p53 : lw_okq (⟨"KnobMenuModel", "goesOn", "()I"⟩, 33) := ⟨⟨by decide +kernel, by decide +kernel⟩, List.mem_of_getElem? (i := 1081) (by decide +kernel), List.mem_of_getElem? (i := 1309) (by decide +kernel), List.mem_of_getElem? (i := 1310) (by decide +kernel)⟩
theorem lw_p54 : lw_okq (⟨"KnobMenuModel", "codeDone", "()I"⟩, 33) := ⟨⟨by decide +kernel, by decide +kernel⟩, List.mem_of_getElem? (i := 1081) (by decide +kernel), List.mem_of_getElem? (i := 1313) (by decide +kernel), List.mem_of_getElem? (i := 1314) (by decide +kernel)⟩
theorem lw_p55 : lw_okq (⟨"KnobMenuModel", "logs", "(II)V"⟩, 33) := ⟨⟨by decide +kernel, by decide +kernel⟩, List.mem_of_getElem? (i := 1081) (by decide +kernel), List.mem_of_getElem? (i := 1317) (by decide +kernel), List.mem_of_getElem? (i := 1318) (by decide +kernel)⟩
theorem lw_p56 : lw_okq (⟨"KnobMenuModel", "held", "()I"⟩, 33) := ⟨⟨by decide +kernel, by decide +kernel⟩, List.mem_of_getElem? (i := 1081) (by decide +kernel), List.mem_of_getElem? (i := 1325) (by decide +kernel), List.mem_of_getElem? (i := 1326) (by decide +kernel)⟩
theorem lw_p57 : lw_okq (⟨"KnobMenuModel", "goHome", "()V"⟩, 33) := ⟨⟨by decide +kernel, by decide +kernel⟩, List.mem_of_getElem? (i := 1081) (by decide +kernel), List.mem_of_getElem? (i := 1329) (by decide +kernel), List.mem_of_getElem? (i := 1330) (by decide +kernel)⟩
theorem lw_p58 : lw_okq (⟨"KnobMenuModel", "ticksPass", "(I)I"⟩, 33) := ⟨⟨by decide +kernel, by decide +kernel⟩, List.mem_of_getElem? (i := 1081) (by decide +kernel), List.mem_of_getElem? (i := 1337) (by decide +kernel), List.mem_of_getElem? (i := 1338) (by decide +kernel)⟩
theorem lw_p59 : lw_okq (⟨"KnobMenuModel", "draftNow", "()I"⟩, 33) := ⟨⟨by decide +kernel, by decide +kernel⟩, List.mem_of_getElem? (i := 1081) (by decide +kernel), List.mem_of_getElem? (i := 1377) (by decide +kernel), List.mem_of_getElem? (i := 1378) (by decide +kernel)⟩
theorem lw_p60 : lw_okq (⟨"KnobMenuModel", "lays", "(I)V"⟩, 33) := ⟨⟨by decide +kernel, by decide +kernel⟩, List.mem_of_getElem? (i := 1081) (by decide +kernel), List.mem_of_getElem? (i := 1401) (by decide +kernel), List.mem_of_getElem? (i := 1402) (by decide +kernel)⟩
theorem lw_p61 : lw_okq (⟨"KnobMenuModel", "firstLine", "()V"⟩, 33) := ⟨⟨by decide +kernel, by decide +kernel⟩, List.mem_of_getElem? (i := 1081) (by decide +kernel), List.mem_of_getElem? (i := 1405) (by decide +kernel), List.mem_of_getElem? (i := 1406) (by decide +kernel)⟩
theorem lw_p62 : lw_okq (⟨"KnobMenuModel", "names", "(I)V"⟩, 33) := ⟨⟨by decide +kernel, by decide +kernel⟩, List.mem_of_getElem? (i := 1081) (by decide +kernel), List.mem_of_getElem? (i := 1409) (by decide +kernel), List.mem_of_getElem? (i := 1410) (by decide +kernel)⟩
theorem lw_p63 : lw_okq (⟨"KnobMenuModel", "writes", "(II)V"⟩, 33) := ⟨⟨by decide +kernel, by decide +kernel⟩, List.mem_of_getElem? (i := 1081) (by decide +kernel), List.mem_of_getElem? (i := 1416) (by decide +kernel), List.mem_of_getElem? (i := 1417) (by decide +kernel)⟩
def lw_privs_4 : List (MethodName × Nat) := [(⟨"KnobMenuModel", "turned", "(I)I"⟩, 33), (⟨"KnobMenuModel", "itemAt", "(I)I"⟩, 33), (⟨"KnobMenuModel", "indexOf", "(I)I"⟩, 33), (⟨"KnobMenuModel", "entries", "(I)I"⟩, 33), (⟨"KnobMenuModel", "presses", "()I"⟩, 33), (⟨"KnobMenuModel", "goesOn", "()I"⟩, 33), (⟨"KnobMenuModel", "codeDone", "()I"⟩, 33), (⟨"KnobMenuModel", "logs", "(II)V"⟩, 33), (⟨"KnobMenuModel", "held", "()I"⟩, 33), (⟨"KnobMenuModel", "goHome", "()V"⟩, 33), (⟨"KnobMenuModel", "ticksPass", "(I)I"⟩, 33), (⟨"KnobMenuModel", "draftNow", "()I"⟩, 33), (⟨"KnobMenuModel", "lays", "(I)V"⟩, 33), (⟨"KnobMenuModel", "firstLine", "()V"⟩, 33), (⟨"KnobMenuModel", "names", "(I)V"⟩, 33), (⟨"KnobMenuModel", "writes", "(II)V"⟩, 33)]
theorem lw_r4 : ∀ q ∈ lw_privs_4, lw_okq q := List.forall_mem_cons.mpr ⟨lw_p48, List.forall_mem_cons.mpr ⟨lw_p49, List.forall_mem_cons.mpr ⟨lw_p50, List.forall_mem_cons.mpr ⟨lw_p51, List.forall_mem_cons.mpr ⟨lw_p52, List.forall_mem_cons.mpr ⟨lw_p53, List.forall_mem_cons.mpr ⟨lw_p54, List.forall_mem_cons.mpr ⟨lw_p55, List.forall_mem_cons.mpr ⟨lw_p56, List.forall_mem_cons.mpr ⟨lw_p57, List.forall_mem_cons.mpr ⟨lw_p58, List.forall_mem_cons.mpr ⟨lw_p59, List.forall_mem_cons.mpr ⟨lw_p60, List.forall_mem_cons.mpr ⟨lw_p61, List.forall_mem_cons.mpr ⟨lw_p62, List.forall_mem_cons.mpr ⟨lw_p63, fun _ h => absurd h List.not_mem_nil⟩⟩⟩⟩⟩⟩⟩⟩⟩⟩⟩⟩⟩⟩⟩⟩
theorem lw_p64 : lw_okq (⟨"KnobMenuModel", "begins", "(IIII)V"⟩, 33) := ⟨⟨by decide +kernel, by decide +kernel⟩, List.mem_of_getElem? (i := 1081) (by decide +kernel), List.mem_of_getElem? (i := 1420) (by decide +kernel), List.mem_of_getElem? (i := 1421) (by decide +kernel)⟩
theorem lw_p65 : lw_okq (⟨"KnobMenuModel", "secondLine", "()V"⟩, 33) := ⟨⟨by decide +kernel, by decide +kernel⟩, List.mem_of_getElem? (i := 1081) (by decide +kernel), List.mem_of_getElem? (i := 1424) (by decide +kernel), List.mem_of_getElem? (i := 1425) (by decide +kernel)⟩
theorem lw_p66 : lw_okq (⟨"KnobMenuModel", "ends", "(I)V"⟩, 33) := ⟨⟨by decide +kernel, by decide +kernel⟩, List.mem_of_getElem? (i := 1081) (by decide +kernel), List.mem_of_getElem? (i := 1428) (by decide +kernel), List.mem_of_getElem? (i := 1429) (by decide +kernel)⟩
theorem lw_p67 : lw_okq (⟨"KnobMenuModel", "ticksLeft", "()I"⟩, 33) := ⟨⟨by decide +kernel, by decide +kernel⟩, List.mem_of_getElem? (i := 1081) (by decide +kernel), List.mem_of_getElem? (i := 1456) (by decide +kernel), List.mem_of_getElem? (i := 1457) (by decide +kernel)⟩
theorem lw_p68 : lw_okq (⟨"KnobMenuModel", "share", "()D"⟩, 33) := ⟨⟨by decide +kernel, by decide +kernel⟩, List.mem_of_getElem? (i := 1081) (by decide +kernel), List.mem_of_getElem? (i := 1464) (by decide +kernel), List.mem_of_getElem? (i := 1465) (by decide +kernel)⟩
theorem lw_p69 : lw_okq (⟨"KnobMenuModel", "isComplete", "()Z"⟩, 33) := ⟨⟨by decide +kernel, by decide +kernel⟩, List.mem_of_getElem? (i := 1081) (by decide +kernel), List.mem_of_getElem? (i := 1480) (by decide +kernel), List.mem_of_getElem? (i := 1481) (by decide +kernel)⟩
theorem lw_p70 : lw_okq (⟨"KnobMenuModel", "readsAction", "()Z"⟩, 33) := ⟨⟨by decide +kernel, by decide +kernel⟩, List.mem_of_getElem? (i := 1081) (by decide +kernel), List.mem_of_getElem? (i := 1484) (by decide +kernel), List.mem_of_getElem? (i := 1485) (by decide +kernel)⟩
theorem lw_p71 : lw_okq (⟨"KnobMenuModel", "sign", "()I"⟩, 33) := ⟨⟨by decide +kernel, by decide +kernel⟩, List.mem_of_getElem? (i := 1081) (by decide +kernel), List.mem_of_getElem? (i := 1488) (by decide +kernel), List.mem_of_getElem? (i := 1489) (by decide +kernel)⟩
theorem lw_p72 : lw_okq (⟨"KnobMenuModel", "readsNumber", "(I)Z"⟩, 33) := ⟨⟨by decide +kernel, by decide +kernel⟩, List.mem_of_getElem? (i := 1081) (by decide +kernel), List.mem_of_getElem? (i := 1492) (by decide +kernel), List.mem_of_getElem? (i := 1493) (by decide +kernel)⟩
theorem lw_p73 : lw_okq (⟨"KnobMenuModel", "does", "()I"⟩, 33) := ⟨⟨by decide +kernel, by decide +kernel⟩, List.mem_of_getElem? (i := 1081) (by decide +kernel), List.mem_of_getElem? (i := 1500) (by decide +kernel), List.mem_of_getElem? (i := 1501) (by decide +kernel)⟩
theorem lw_p74 : lw_okq (⟨"KnobMenuModel", "mix", "(J)V"⟩, 33) := ⟨⟨by decide +kernel, by decide +kernel⟩, List.mem_of_getElem? (i := 1081) (by decide +kernel), List.mem_of_getElem? (i := 1509) (by decide +kernel), List.mem_of_getElem? (i := 1510) (by decide +kernel)⟩
def lw_privs_5 : List (MethodName × Nat) := [(⟨"KnobMenuModel", "begins", "(IIII)V"⟩, 33), (⟨"KnobMenuModel", "secondLine", "()V"⟩, 33), (⟨"KnobMenuModel", "ends", "(I)V"⟩, 33), (⟨"KnobMenuModel", "ticksLeft", "()I"⟩, 33), (⟨"KnobMenuModel", "share", "()D"⟩, 33), (⟨"KnobMenuModel", "isComplete", "()Z"⟩, 33), (⟨"KnobMenuModel", "readsAction", "()Z"⟩, 33), (⟨"KnobMenuModel", "sign", "()I"⟩, 33), (⟨"KnobMenuModel", "readsNumber", "(I)Z"⟩, 33), (⟨"KnobMenuModel", "does", "()I"⟩, 33), (⟨"KnobMenuModel", "mix", "(J)V"⟩, 33)]
theorem lw_r5 : ∀ q ∈ lw_privs_5, lw_okq q := List.forall_mem_cons.mpr ⟨lw_p64, List.forall_mem_cons.mpr ⟨lw_p65, List.forall_mem_cons.mpr ⟨lw_p66, List.forall_mem_cons.mpr ⟨lw_p67, List.forall_mem_cons.mpr ⟨lw_p68, List.forall_mem_cons.mpr ⟨lw_p69, List.forall_mem_cons.mpr ⟨lw_p70, List.forall_mem_cons.mpr ⟨lw_p71, List.forall_mem_cons.mpr ⟨lw_p72, List.forall_mem_cons.mpr ⟨lw_p73, List.forall_mem_cons.mpr ⟨lw_p74, fun _ h => absurd h List.not_mem_nil⟩⟩⟩⟩⟩⟩⟩⟩⟩⟩⟩
def lw_privs : List (MethodName × Nat) := lw_privs_1 ++ (lw_privs_2 ++ (lw_privs_3 ++ (lw_privs_4 ++ (lw_privs_5))))
def lw_tbl : List Cond := k2_sels lw_privs ++ tables_1
theorem lw_privs_ok : ∀ q ∈ lw_privs, lw_okq q := by
  show ∀ q ∈ lw_privs_1 ++ (lw_privs_2 ++ (lw_privs_3 ++ (lw_privs_4 ++ (lw_privs_5)))), lw_okq q
  exact List.forall_mem_append.mpr ⟨lw_r1, List.forall_mem_append.mpr ⟨lw_r2, List.forall_mem_append.mpr ⟨lw_r3, List.forall_mem_append.mpr ⟨lw_r4, lw_r5⟩⟩⟩⟩
/-- the streams that the claim lets the run draw from -/
abbrev lw_cs : List Choice := [Jvm.Choice.named "NaN.bits"]
theorem lw_bits : nanBits ∈ lw_cs := by first | decide | exact List.mem_cons_self | simp [lw_cs, nanBits]
-- ===== end of PART A; then your names; then what follows =====
end
section
/-! ===== BEGIN words of one list among another's, by their places ===== -/
theorem goodIn_r {big : List Cond} (ws : List Cond) (ps : List Nat) (hp : ws = ps.filterMap (fun i => big[i]?)) (h : ws.all goodWord = true) : GoodIn big ws := by
  intro w hw
  have h1 := List.all_eq_true.mp h w hw
  rw [hp] at hw
  obtain ⟨i, -, hi⟩ := List.mem_filterMap.mp hw
  have hm : w ∈ big := by first | exact List.mem_of_getElem? hi | exact List.getElem?_mem hi
  exact ⟨hm, good_of_word h1⟩
theorem goodIn_app {big a b : List Cond} (ha : GoodIn big a) (hb : GoodIn big b) : GoodIn big (a ++ b) := fun w h => (List.mem_append.mp h).elim (ha w) (hb w)
theorem goodIn_ca {big a b : List Cond} {c : Cond} (ha : GoodIn big (c :: a)) (hb : GoodIn big b) : GoodIn big (c :: (a ++ b)) := fun w h => (List.mem_cons.mp h).elim (fun e => ha w (List.mem_cons.mpr (Or.inl e))) (fun h => (List.mem_append.mp h).elim (fun h => ha w (List.mem_cons.mpr (Or.inr h))) (hb w))
theorem goodIn_sub {big ws : List Cond} (hm : ∀ w ∈ ws, w ∈ big) (h : ws.all goodWord = true) : GoodIn big ws := fun w hw => ⟨hm w hw, good_of_word (List.all_eq_true.mp h w hw)⟩
/-! ===== END ===== -/

/-! ===== BEGIN exceptions that leave a method, and their catching by the caller (launches without stack traces) ===== -/
section VXA
/-! The laws vx_back, vx_callV, vx_callS, vx_callSW, vx_throw0, vx_throwS follow proofs of the library, with one case more: JvmDerived/Free/Laws.lean (Back.of_free), Shelf42/LK1.lean (callV, callS), Shelf/KitTraced.lean (throwNew0V, throwNewS). -/
/-- where a method has thrown q: the class by its name, the cell, what was written, the world -/
def vx_T (XC : String → State → State → Prop) (st : State) (q : Addr) (t : State) (mc ms : Nat) (free : Addr → Prop) : Prop :=
  ∃ (E : String) (ce : Cell) (L : List Loc), XC E st t ∧ t.heap[q]? = some ce ∧ ce.vm = .none ∧ st.vm.findClass E = some ce.cls ∧ st.WarmedH t.vm ∧ st.sameButNew ({ t with vm := st.vm } : State) L mc ms ∧ ∀ z ∈ L, free z.base
def vx_Q (Qc : Array Value → State → Outcome → State → Prop) (XC : String → State → State → Prop) (mc ms : Nat) (free : Addr → Prop) : Array Value → State → Outcome → State → Prop := fun a st o t =>
  (Qc a st o t ∧ ∃ L, FrameEnd st o t L mc ms ∧ ∀ q ∈ L, free q.base) ∨ ∃ q, o = .threw q ∧ vx_T XC st q t mc ms free
/-- a callee that returns or throws -/
def vx_Met (l : Launch) (y : MethodName) (ws : List Cond) (rm : Room) (Pc : Array Value → State → Prop) (Qc : Array Value → State → Outcome → State → Prop) (XC : String → State → State → Prop) (mc ms : Nat) (free : Addr → Prop) : Prop :=
  MetFree l y (headSpec ws rm) Pc (fun _ _ _ _ _ => True) (vx_Q Qc XC mc ms free)
def vx_Post (XC : String → State → State → Prop) (mc ms : Nat) (free : Addr → Prop) : Pt → Array Value → Addr → Pt → Prop := fun A a q B =>
  ∃ (g : JFrame) (mk : MethodId) (t : State) (L : List Loc) (E : String) (ce : Cell), B.U.heap = t.heap ∧ B.U.vm = t.vm ∧ XC E (A.U.calling g mk a) t ∧ t.heap[q]? = some ce ∧ ce.vm = .none ∧ A.U.vm.findClass E = some ce.cls ∧ B.locs = A.locs ++ L ∧ (∀ z ∈ L, free z.base) ∧ B.cells = A.cells + mc ∧ B.slots = A.slots + ms
def vx_Back (l : Launch) (R : Room) (p : Program) (e : Env) (below : List Frame) (s : State) (sargs : Array Value) (y : MethodName) (len W9 : Nat)
    (Pre : Pt → Array Value → Prop) (Post : Pt → Array Value → Option Value → Pt → Prop) (PostX : Pt → Array Value → Addr → Pt → Prop) : Prop :=
  ∀ (m : MethodId) (meth : Method) (c : Code) (A : Pt) (g : JFrame) (ig : Instr) (mk : MethodId) (a : Array Value),
    Stand p l e R s m sargs below meth c A.U A.locs A.cells A.slots → g.method = m → g.locals.size = c.maxLocals → decode c.code g.pc = .ok (ig, len) →
    2 * g.monitorRoom + (g.stack.map fun v => v.category).sum ≤ W9 → A.U.methodNamed? y = some mk → Pre A a →
    (∃ (v : Option Value) (B : Pt), Stand p l e R s m sargs below meth c B.U B.locs B.cells B.slots ∧ Post A a v B ∧
      Steps p.tables e below (doInvoke e (A.U.setTop g) [] mk a).1 (B.U.setTop { g with pc := g.pc + len, stack := v.toList ++ g.stack })) ∨
    (∃ (q : Addr) (B : Pt), Stand p l e R s m sargs below meth c B.U B.locs B.cells B.slots ∧ PostX A a q B ∧
      Steps p.tables e below (doInvoke e (A.U.setTop g) [] mk a).1 ((B.U.setTop g).pushFrame (.throwing q)))
section Payer
variable {l : Launch} {R : Room} {p : Program} {e : Env} {below : List Frame} {s : State} {sargs : Array Value} {y : MethodName} {len W9 : Nat}
theorem vx_back {ws : List Cond} {rm : Room} {Pc : Array Value → State → Prop} {Qc : Array Value → State → Outcome → State → Prop} {XC : String → State → State → Prop} {mc ms : Nat} {free : Addr → Prop} {bytes : ByteArray} {maxL : Nat} {ret : Option FieldType}
    (hM : vx_Met l y ws rm Pc Qc XC mc ms free) (hblind : FrameBlind Pc) (hrc : rm.cells = mc) (hrs : rm.slots = ms)
    (hframes : rm.frames + 1 ≤ R.frames) (hlocals : W9 + (maxL + 11) + rm.locals ≤ R.locals)
    (hws : ∀ w ∈ ws, ∀ a' U, s.WarmedH U.vm → w.before a' U = true) (hcode : Cond.code y bytes maxL ret ∈ ws) (hinit : ∀ a' U, s.WarmedH U.vm → (Cond.initialized y.cls).before a' U = true) :
    vx_Back l R p e below s sargs y len W9 (PreOf R mc ms Pc) (PostOf Qc mc ms free) (vx_Post XC mc ms free) := by
  intro m meth c A g ig mk a X hg hsize hdg hW hn hp
  have h1 : (headSpec ws rm).pre.before a A.U = true := atoms_intro fun w hw => hws w hw _ _ X.warmed
  have h2 : (Cond.code y bytes maxL ret).before a A.U = true := hws _ hcode _ _ X.warmed
  have h3 : (Cond.initialized y.cls).before a A.U = true := hinit _ _ X.warmed
  have h4 : A.cells + (headSpec ws rm).room.cells ≤ R.cells := by rw [show (headSpec ws rm).room.cells = mc from hrc]; exact hp.1
  have h5 : A.slots + (headSpec ws rm).room.slots ≤ R.slots := by rw [show (headSpec ws rm).room.slots = ms from hrs]; exact hp.2.1
  have hPc : Pc a (A.U.calling g mk a) := hblind _ _ _ _ hp.2.2
  obtain ⟨U, Ls, c0, s0⟩ := A
  dsimp only [Pt.U, Pt.locs, Pt.cells, Pt.slots] at h1 h2 h3 h4 h5 X hn hPc ⊢
  obtain ⟨methY, cY, hmY, hcY, -, hlY, -, -, -, -⟩ := Cond.code_spec hn h2
  obtain ⟨kY, hkY, -⟩ := className_of_methodNamed hn
  have hinitY : kY.init = .initialized := Cond.initialized_spec (findClass_of_methodNamed hn) hkY h3
  have h : At U g.method c below := by rw [hg]; exact X.here
  have hlocals9 : W9 + (maxL + 11) + (headSpec ws rm).room.locals ≤ R.locals := hlocals
  have happ : (headSpec ws rm).appliesLoose y e.platform (U.calling g mk a) = true :=
    Spec.appliesLoose_calling (g := g) h hdg hn hkY hinitY
      (X.room_calling (g := g) (R' := (headSpec ws rm).room) hsize hmY hcY hframes (by rw [hlY]; omega) h4 h5) h1
  obtain ⟨mid, hmid⟩ := h.above
  have hfr : (U.setTop g).frames = (.java g :: mid) ++ below := by rw [State.frames_setTop' g h.top, hmid]; rfl
  obtain ⟨o, s₂, hsteps, -, hend, hq⟩ := Steps.callFree hM p X.admits X.cas X.clock (acts := []) hfr happ hPc trivial
  have hq' : vx_Q Qc XC mc ms free a (U.calling g mk a) o s₂ := hq
  rw [State.frames_setTop' g h.top] at hend
  obtain ⟨g₀, hg0⟩ := Option.isSome_iff_exists.mp h.top
  obtain ⟨r, hr⟩ := State.topJava?_eq_some.mp hg0
  have hr' : (({ U with heap := s₂.heap, slotsUsed := s₂.slotsUsed } : State).setVm s₂.vm).frames = .java g₀ :: r := hr
  rcases hq' with ⟨hqc, L, hfe, hL⟩ | ⟨q, rfl, E, ce, L, hx, hce, hcv, hcl, hW₂, hsm, hL⟩
  · obtain ⟨⟨v, rfl⟩, hW₂, e2, q2, q3, q4, q5, q6⟩ := id hfe
    have e3 : s₂ = ({ (U.calling g mk a).setFrames s₂.frames with heap := s₂.heap, slotsUsed := s₂.slotsUsed } : State).setVm s₂.vm := by
      have : s₂ = ({ s₂ with vm := (U.calling g mk a).vm } : State).setVm s₂.vm := rfl
      rw [e2] at this
      exact this
    obtain ⟨c₂, i₂, len₂, hc₂, hd₂, hf₂⟩ := hend
    have hW' : U.WarmedH s₂.vm := hW₂
    have hcc : c₂ = c := by
      have h1 : s₂.code? g.method = U.code? g.method := by
        rw [State.code?_eq, State.code?_eq, hW'.alike.method?]
      exact Option.some.inj (hc₂.symm.trans (h1.trans h.code))
    subst hcc
    have hlen : len₂ = len := by rw [hdg] at hd₂; cases hd₂; rfl
    subst hlen
    have hs₂ : s₂ = (({ U with heap := s₂.heap, slotsUsed := s₂.slotsUsed } : State).setVm s₂.vm).setTop { g with pc := g.pc + len₂, stack := v.toList ++ g.stack } := by
      refine e3.trans ?_
      rw [hf₂, State.calling_eq h.top, State.setFrames_setFrames, State.setTop_of_frames _ hr', hr]
      rfl
    have hsame : U.sameButNew ({ U with heap := s₂.heap, slotsUsed := s₂.slotsUsed } : State) L mc ms := by
      refine ⟨?_, q2, q3, q4, q5, q6⟩
      obtain ⟨t, ht, -⟩ := State.frames_cons hr
      show ({ U with heap := s₂.heap, slotsUsed := s₂.slotsUsed } : State) = { U.setFrames U.frames with heap := s₂.heap, slotsUsed := s₂.slotsUsed }
      rw [State.setFrames_self ht]
    subst hg
    refine Or.inl ⟨v, ⟨(({ U with heap := s₂.heap, slotsUsed := s₂.slotsUsed } : State).setVm s₂.vm), Ls ++ L, c0 + mc, s0 + ms⟩,
      ⟨X.admits, X.cas, X.clock, X.frames, X.room, X.hears, X.method, X.code, (X.here.setHeapUsed s₂.heap s₂.slotsUsed).setVm hW'.alike, X.tail, State.WarmedH.trans X.warmed hW', X.limits, X.bytes, X.same.trans (hsame.setVm s.vm)⟩,
      ⟨g, mk, s₂, L, rfl, rfl, hqc, rfl, hL, rfl, rfl⟩, ?_⟩
    show Steps p.tables e below _ ((({ U with heap := s₂.heap, slotsUsed := s₂.slotsUsed } : State).setVm s₂.vm).setTop { g with pc := g.pc + len₂, stack := v.toList ++ g.stack })
    rw [← hs₂]
    exact hsteps
  · obtain ⟨e2, q2, q3, q4, q5, q6⟩ := id hsm
    have e3 : s₂ = ({ (U.calling g mk a).setFrames s₂.frames with heap := s₂.heap, slotsUsed := s₂.slotsUsed } : State).setVm s₂.vm := by
      have : s₂ = ({ s₂ with vm := (U.calling g mk a).vm } : State).setVm s₂.vm := rfl
      rw [e2] at this
      exact this
    have hf₂ : s₂.frames = .throwing q :: .java g :: U.frames.tail := hend
    have hW' : U.WarmedH s₂.vm := hW₂
    have hs₂ : s₂ = ((({ U with heap := s₂.heap, slotsUsed := s₂.slotsUsed } : State).setVm s₂.vm).setTop g).pushFrame (.throwing q) := by
      refine e3.trans ?_
      rw [hf₂, State.calling_eq h.top, State.setFrames_setFrames, State.pushFrame, State.frames_setTop _ hr', State.setTop_of_frames _ hr', State.setFrames_setFrames, hr]
      rfl
    have hsame : U.sameButNew ({ U with heap := s₂.heap, slotsUsed := s₂.slotsUsed } : State) L mc ms := by
      refine ⟨?_, q2, q3, q4, q5, q6⟩
      obtain ⟨t, ht, -⟩ := State.frames_cons hr
      show ({ U with heap := s₂.heap, slotsUsed := s₂.slotsUsed } : State) = { U.setFrames U.frames with heap := s₂.heap, slotsUsed := s₂.slotsUsed }
      rw [State.setFrames_self ht]
    subst hg
    refine Or.inr ⟨q, ⟨(({ U with heap := s₂.heap, slotsUsed := s₂.slotsUsed } : State).setVm s₂.vm), Ls ++ L, c0 + mc, s0 + ms⟩,
      ⟨X.admits, X.cas, X.clock, X.frames, X.room, X.hears, X.method, X.code, (X.here.setHeapUsed s₂.heap s₂.slotsUsed).setVm hW'.alike, X.tail, State.WarmedH.trans X.warmed hW', X.limits, X.bytes, X.same.trans (hsame.setVm s.vm)⟩,
      ⟨g, mk, s₂, L, E, ce, rfl, rfl, hx, hce, hcv, hcl, rfl, hL, rfl, rfl⟩, ?_⟩
    show Steps p.tables e below _ (((({ U with heap := s₂.heap, slotsUsed := s₂.slotsUsed } : State).setVm s₂.vm).setTop g).pushFrame (.throwing q))
    rw [← hs₂]
    exact hsteps
end Payer
section Calls
variable {p : Program} {l : Launch} {e : Env} {R : Room} {s : State} {m : MethodId} {args : Array Value} {below : List Frame} {meth : Method} {c : Code} {T : State} {locs : List Loc} {cells slots : Nat}
theorem vx_callV (X : Stand p l e R s m args below meth c T locs cells slots) (hexec : p.tables.exec = Jvm.exec) {own C : String} {index : Nat} {y : MethodName} {bytes : ByteArray} {maxL : Nat} {ret : Option FieldType}
    (hown : s.vm.findClass own = some m.cls) (hlink : (Cond.methodLink own index y).before args s = true) (hinst : (Cond.instanceMethod y).before args s = true) (hsel : (Cond.selects C y y).before args s = true)
    (hcode : (Cond.code y bytes maxL ret).before args s = true) (hy : y.cls ≠ "java/lang/invoke/MethodHandle" ∧ y.cls ≠ "java/lang/invoke/VarHandle")
    {W9 : Nat} {Pre : Pt → Array Value → Prop} {Post : Pt → Array Value → Option Value → Pt → Prop} {PostX : Pt → Array Value → Addr → Pt → Prop} (hK : vx_Back l R p e below s args y 3 W9 Pre Post PostX)
    {b : Addr} {cellB : Cell} (hcell : T.heap[b]? = some cellB) (hobj : cellB.vm.isStatics = false) (hcls : s.vm.findClass C = some cellB.cls)
    {g : JFrame} (hg : g.method = m) (hsize : g.locals.size = c.maxLocals) {argsL rest : List Value} (hlen : ∀ sig, parseMethodDescriptor y.desc = some sig → argsL.length = sig.parameters.length)
    (hstack : g.stack = argsL.reverse ++ .ref b :: rest) (hW : 2 * g.monitorRoom + (rest.map fun v => v.category).sum ≤ W9) (hdg : decode c.code g.pc = .ok (.invokevirtual index, 3))
    (hpre : ∀ vm₁, s.WarmedH vm₁ → Pre ⟨T.setVm vm₁, locs, cells, slots⟩ (Value.ref b :: argsL).toArray) :
    (∃ (v : Option Value) (vm₁ : Vm) (B : Pt), s.WarmedH vm₁ ∧ Stand p l e R s m args below meth c B.U B.locs B.cells B.slots ∧ Post ⟨T.setVm vm₁, locs, cells, slots⟩ (Value.ref b :: argsL).toArray v B ∧
      ∀ target, Steps p.tables e below (B.U.setTop { g with pc := g.pc + 3, stack := v.toList ++ rest }) target → Steps p.tables e below (T.setTop g) target) ∨
    (∃ (q : Addr) (vm₁ : Vm) (B : Pt), s.WarmedH vm₁ ∧ Stand p l e R s m args below meth c B.U B.locs B.cells B.slots ∧ PostX ⟨T.setVm vm₁, locs, cells, slots⟩ (Value.ref b :: argsL).toArray q B ∧
      Steps p.tables e below (T.setTop g) ((B.U.setTop { g with stack := rest }).pushFrame (.throwing q))) := by
  obtain ⟨mk, methM, hnamed, hmethM, hstM, habM⟩ := Cond.instanceMethod_spec hinst
  obtain ⟨methM', cM, hmethM', -, -, -, -, -, -, hsigM⟩ := Cond.code_spec hnamed hcode
  cases hmethM.symm.trans hmethM'
  obtain ⟨c2, r2, m2, q1, q2, q3, q4, kP, hkP, hkPi⟩ := Cond.selects_spec hsel
  cases hcls.symm.trans q1
  cases (State.methodFound?_of_named hnamed hy).symm.trans q2
  cases hnamed.symm.trans q3
  have hselP : selectMethod e.platform s.vm cellB.cls mk = .method mk := by rw [Launch.admits_selectMethod X.admits]; exact q4
  obtain ⟨vm₁, X₁, hstep₁⟩ := X.invokevirtual hexec hown hlink hnamed hmethM hstM hkP hkPi hy (a := b) (cell := cellB) hcell
    (fun z h => by rw [h] at hobj; cases hobj) hselP hmethM habM hkP hkPi (g := g) hg (argsL := argsL) (rest := rest) (hlen _ hsigM) hstack hdg
  rcases hK m meth c ⟨T.setVm vm₁, locs, cells, slots⟩ { g with stack := rest } (.invokevirtual index) mk (Value.ref b :: argsL).toArray X₁ hg hsize hdg hW (X₁.named hnamed) (hpre vm₁ X₁.warmed) with ⟨v, B, X', hpost, hsteps⟩ | ⟨q, B, X', hpost, hsteps⟩
  · exact Or.inl ⟨v, vm₁, B, X₁.warmed, X', hpost, fun target h => hstep₁ _ fun acts => by rw [doInvoke_state]; exact hsteps.trans h⟩
  · exact Or.inr ⟨q, vm₁, B, X₁.warmed, X', hpost, hstep₁ _ fun acts => by rw [doInvoke_state]; exact hsteps⟩
theorem vx_callS (X : Stand p l e R s m args below meth c T locs cells slots) (hexec : p.tables.exec = Jvm.exec) {own : String} {index : Nat} {y : MethodName} {bytes : ByteArray} {maxL : Nat} {ret : Option FieldType}
    (hown : s.vm.findClass own = some m.cls) (hlink : (Cond.methodLink own index y).before args s = true) (hstat : (Cond.static y).before args s = true) (hinit : (Cond.initialized y.cls).before args s = true)
    (hcode : (Cond.code y bytes maxL ret).before args s = true) (hy : y.cls ≠ "java/lang/invoke/MethodHandle" ∧ y.cls ≠ "java/lang/invoke/VarHandle")
    {W9 : Nat} {Pre : Pt → Array Value → Prop} {Post : Pt → Array Value → Option Value → Pt → Prop} {PostX : Pt → Array Value → Addr → Pt → Prop} (hK : vx_Back l R p e below s args y 3 W9 Pre Post PostX)
    {g : JFrame} (hg : g.method = m) (hsize : g.locals.size = c.maxLocals) {argsL rest : List Value} (hlen : ∀ sig, parseMethodDescriptor y.desc = some sig → argsL.length = sig.parameters.length)
    (hstack : g.stack = argsL.reverse ++ rest) (hW : 2 * g.monitorRoom + (rest.map fun v => v.category).sum ≤ W9) (hdg : decode c.code g.pc = .ok (.invokestatic index, 3))
    (hpre : ∀ vm₁, s.WarmedH vm₁ → Pre ⟨T.setVm vm₁, locs, cells, slots⟩ argsL.toArray) :
    (∃ (v : Option Value) (vm₁ : Vm) (B : Pt), s.WarmedH vm₁ ∧ Stand p l e R s m args below meth c B.U B.locs B.cells B.slots ∧ Post ⟨T.setVm vm₁, locs, cells, slots⟩ argsL.toArray v B ∧
      ∀ target, Steps p.tables e below (B.U.setTop { g with pc := g.pc + 3, stack := v.toList ++ rest }) target → Steps p.tables e below (T.setTop g) target) ∨
    (∃ (q : Addr) (vm₁ : Vm) (B : Pt), s.WarmedH vm₁ ∧ Stand p l e R s m args below meth c B.U B.locs B.cells B.slots ∧ PostX ⟨T.setVm vm₁, locs, cells, slots⟩ argsL.toArray q B ∧
      Steps p.tables e below (T.setTop g) ((B.U.setTop { g with stack := rest }).pushFrame (.throwing q))) := by
  obtain ⟨mk, hnamed⟩ := Cond.code_named hcode
  obtain ⟨methM, cM, hmethM, -, -, -, -, -, -, hsigM⟩ := Cond.code_spec hnamed hcode
  have hstatic : methM.isStatic = true := Cond.static_spec hnamed hmethM hstat
  obtain ⟨kP, hkP, -⟩ := className_of_methodNamed hnamed
  have hinitP : kP.init = .initialized := Cond.initialized_spec (findClass_of_methodNamed hnamed) hkP hinit
  obtain ⟨vm₁, X₁, hstep₁⟩ := X.invokestatic hexec hown hlink hnamed hmethM hstatic hkP hinitP hy (g := g) hg (argsL := argsL) (rest := rest) (hlen _ hsigM) hstack hdg
  rcases hK m meth c ⟨T.setVm vm₁, locs, cells, slots⟩ { g with stack := rest } (.invokestatic index) mk argsL.toArray X₁ hg hsize hdg hW (X₁.named hnamed) (hpre vm₁ X₁.warmed) with ⟨v, B, X', hpost, hsteps⟩ | ⟨q, B, X', hpost, hsteps⟩
  · exact Or.inl ⟨v, vm₁, B, X₁.warmed, X', hpost, fun target h => hstep₁ _ fun acts => by rw [doInvoke_state]; exact hsteps.trans h⟩
  · exact Or.inr ⟨q, vm₁, B, X₁.warmed, X', hpost, hstep₁ _ fun acts => by rw [doInvoke_state]; exact hsteps⟩
end Calls
theorem vx_cls {s : State} {T : State} {vm₁ : Vm} {E : String} {k : ClassId} (hW : s.WarmedH vm₁) (h : (T.setVm vm₁).vm.findClass E = some k) : s.vm.findClass E = some k := by
  have h1 : vm₁.findClass E = some k := h
  rw [hW.alike.findClass] at h1
  exact h1
/-- the method's frame g, with q thrown over it -/
def vx_W (p : Program) (l : Launch) (e : Env) (R : Room) (s : State) (m : MethodId) (args : Array Value) (below : List Frame) (meth : Method) (c : Code) (H : Heap) (locs : List Loc) (cells slots : Nat) (Q : State → Prop) (g : JFrame) (q : Addr) : Prop :=
  ∀ T : State, T.heap = H → Stand p l e R s m args below meth c T locs cells slots → ∃ t, Steps p.tables e below ((T.setTop g).pushFrame (.throwing q)) t ∧ Q t
def vx_Run (p : Program) (l : Launch) (e : Env) (R : Room) (s : State) (m : MethodId) (args : Array Value) (below : List Frame) (meth : Method) (c : Code) (H : Heap) (locs : List Loc) (cells slots mc ms : Nat) (g : JFrame) (rest : List Value) (Qa : State → Outcome → State → Prop) (XC : String → State → State → Prop) (free : Addr → Prop) : Prop :=
  ∀ T : State, T.heap = H → Stand p l e R s m args below meth c T locs cells slots →
    (∃ (v : Option Value) (st₀ t T' : State) (L : List Loc), st₀.heap = H ∧ Stand p l e R s m args below meth c T' (locs ++ L) (cells + mc) (slots + ms) ∧ (∀ q ∈ L, free q.base) ∧ T'.heap = t.heap ∧ T'.vm = t.vm ∧ Qa st₀ (.returned v) t ∧
      Goes p e below T g T' { g with pc := g.pc + 3, stack := v.toList ++ rest }) ∨
    (∃ (q : Addr) (st₀ t T' : State) (L : List Loc) (E : String) (ce : Cell), st₀.heap = H ∧ Stand p l e R s m args below meth c T' (locs ++ L) (cells + mc) (slots + ms) ∧ (∀ z ∈ L, free z.base) ∧ T'.heap = t.heap ∧ T'.vm = t.vm ∧ XC E st₀ t ∧ t.heap[q]? = some ce ∧ ce.vm = .none ∧ s.vm.findClass E = some ce.cls ∧
      Steps p.tables e below (T.setTop g) ((T'.setTop { g with stack := rest }).pushFrame (.throwing q)))
def vx_X {S : Type} (px : S → Prop) (B : String → S → State → Prop) (A : Nat → Prop) : String → State → State → Prop := fun E st t => ∃ u : S, px u ∧ B E u t ∧ va_F A st t
section Runs
variable {p : Program} {l : Launch} {e : Env} {R : Room} {s : State} {m : MethodId} {args : Array Value} {below : List Frame} {meth : Method} {c : Code} {H : Heap} {locs : List Loc} {cells slots : Nat}
variable {y : MethodName} {bytes cc : ByteArray} {maxL nL mc ms n index : Nat} {ret : Option FieldType} {ws : List Cond} {rm : Room} {Pc : Array Value → State → Prop} {Qc : Array Value → State → Outcome → State → Prop} {XC : String → State → State → Prop} {free : Addr → Prop} {Ts : List Cond} {own C : String} {b : Addr} {As rest : List Value} {g : JFrame}
theorem vx_callBack (cb : CallB R s args own index y bytes maxL ret ws rm mc ms n) (hM : vx_Met l y ws rm Pc Qc XC mc ms free) (hbl : FrameBlind Pc) : vx_Back l R p e below s args y 3 8 (PreOf R mc ms Pc) (PostOf Qc mc ms free) (vx_Post XC mc ms free) := by
  obtain ⟨hrc, hrs, hfr, hlo, hws, hcw, -, hini, -⟩ := cb
  exact vx_back (bytes := bytes) (maxL := maxL) (ret := ret) hM hbl hrc hrs hfr hlo hws hcw (fun a' U hW => word_at hW (Or.inl (by first | rfl | simp [Cond.onTables, Cond.keeps, Cond.steady])) hini)
theorem vx_runV (S : CallFix p m c cc nL s args Ts own) (hM : vx_Met l y ws rm Pc Qc XC mc ms free) (cw : CallW R s args own C index y bytes maxL ret ws rm mc ms n) (hp : PreV s H C b Pc As)
    (hg : g.method = m) (hn : As.length = n) (hsize : g.locals.size = nL) (hstack : g.stack = As.reverse ++ .ref b :: rest) (hW : 2 * g.monitorRoom + (rest.map fun v => v.category).sum ≤ 8) (hdg : decode cc g.pc = .ok (.invokevirtual index, 3)) (hf : cells + mc ≤ R.cells ∧ slots + ms ≤ R.slots) :
    vx_Run p l e R s m args below meth c H locs cells slots mc ms g rest (Qc (Value.ref b :: As).toArray) XC free := by
  have hK : vx_Back l R p e below s args y 3 8 (PreOf R mc ms Pc) (PostOf Qc mc ms free) (vx_Post XC mc ms free) := vx_callBack cw.1 hM hp.1
  obtain ⟨⟨-, -, -, -, -, -, hcode, -, hy, hlen, hl⟩, hin, hse⟩ := cw
  obtain ⟨hx, hb, hml, ho, -⟩ := S
  obtain ⟨-, ⟨cellB, hcB, hoB, hclB⟩, hPc⟩ := hp
  intro T hT X
  rcases vx_callV X hx (C := C) (bytes := bytes) (maxL := maxL) (ret := ret) ho hl hin hse hcode hy hK (by rw [hT]; exact hcB) hoB hclB hg (hsize.trans hml.symm) (argsL := As) (rest := rest) (fun sig h => hn.trans (hlen sig h)) hstack hW (by rw [hb]; exact hdg)
    (fun vm₁ hW₁ => ⟨hf.1, hf.2, hPc (T.setVm vm₁) hT hW₁⟩) with ⟨v, vm₁, ⟨U', l2, c2, s2⟩, hW₁, X', ⟨g', mk, t, L, e1, e2, hq, h1, hL, h2, h3⟩, st⟩ | ⟨q, vm₁, ⟨U', l2, c2, s2⟩, hW₁, X', ⟨g', mk, t, L, E, ce, e1, e2, hq, hce, hcv, hcl, h1, hL, h2, h3⟩, st⟩
  · dsimp only [Pt.U, Pt.locs, Pt.cells, Pt.slots] at X' e1 e2 h1 h2 h3 st
    subst h1; subst h2; subst h3
    exact Or.inl ⟨v, (T.setVm vm₁).calling g' mk (Value.ref b :: As).toArray, t, U', L, hT, X', hL, e1, e2, hq, st⟩
  · dsimp only [Pt.U, Pt.locs, Pt.cells, Pt.slots] at X' e1 e2 h1 h2 h3 st hcl
    subst h1; subst h2; subst h3
    exact Or.inr ⟨q, (T.setVm vm₁).calling g' mk (Value.ref b :: As).toArray, t, U', L, E, ce, hT, X', hL, e1, e2, hq, hce, hcv, vx_cls hW₁ hcl, st⟩
theorem vx_runS (S : CallFix p m c cc nL s args Ts own) (hM : vx_Met l y ws rm Pc Qc XC mc ms free) (cw : CallB R s args own index y bytes maxL ret ws rm mc ms n ∧ (Cond.static y).before args s = true) (hp : PreS s H Pc As)
    (hg : g.method = m) (hn : As.length = n) (hsize : g.locals.size = nL) (hstack : g.stack = As.reverse ++ rest) (hW : 2 * g.monitorRoom + (rest.map fun v => v.category).sum ≤ 8) (hdg : decode cc g.pc = .ok (.invokestatic index, 3)) (hf : cells + mc ≤ R.cells ∧ slots + ms ≤ R.slots) :
    vx_Run p l e R s m args below meth c H locs cells slots mc ms g rest (Qc As.toArray) XC free := by
  have hK : vx_Back l R p e below s args y 3 8 (PreOf R mc ms Pc) (PostOf Qc mc ms free) (vx_Post XC mc ms free) := vx_callBack cw.1 hM hp.1
  obtain ⟨⟨-, -, -, -, -, -, hcode, hini, hy, hlen, hl⟩, hstt⟩ := cw
  obtain ⟨hx, hb, hml, ho, -⟩ := S
  intro T hT X
  rcases vx_callS X hx (bytes := bytes) (maxL := maxL) (ret := ret) ho hl hstt hini hcode hy hK hg (hsize.trans hml.symm) (argsL := As) (rest := rest) (fun sig h => hn.trans (hlen sig h)) hstack hW (by rw [hb]; exact hdg)
    (fun vm₁ hW₁ => ⟨hf.1, hf.2, hp.2 (T.setVm vm₁) hT hW₁⟩) with ⟨v, vm₁, ⟨U', l2, c2, s2⟩, hW₁, X', ⟨g', mk, t, L, e1, e2, hq, h1, hL, h2, h3⟩, st⟩ | ⟨q, vm₁, ⟨U', l2, c2, s2⟩, hW₁, X', ⟨g', mk, t, L, E, ce, e1, e2, hq, hce, hcv, hcl, h1, hL, h2, h3⟩, st⟩
  · dsimp only [Pt.U, Pt.locs, Pt.cells, Pt.slots] at X' e1 e2 h1 h2 h3 st
    subst h1; subst h2; subst h3
    exact Or.inl ⟨v, (T.setVm vm₁).calling g' mk As.toArray, t, U', L, hT, X', hL, e1, e2, hq, st⟩
  · dsimp only [Pt.U, Pt.locs, Pt.cells, Pt.slots] at X' e1 e2 h1 h2 h3 st hcl
    subst h1; subst h2; subst h3
    exact Or.inr ⟨q, (T.setVm vm₁).calling g' mk As.toArray, t, U', L, E, ce, hT, X', hL, e1, e2, hq, hce, hcv, vx_cls hW₁ hcl, st⟩
end Runs
section Rows
variable {p : Program} {l : Launch} {e : Env} {R : Room} {s : State} {m : MethodId} {args : Array Value} {below : List Frame} {meth : Method} {c : Code} {H : Heap} {locs : List Loc} {cells slots : Nat} {Q : State → Prop}
variable {mc ms : Nat} {free : Addr → Prop} {A0 A1 : Nat → Prop} {H0 : Heap} {a : Array Value} {pc : Nat} {ls : Array Slot} {st0 rest : List Value}
theorem vx_keep {st₀ t T' : State} {L : List Loc} (h0 : st₀.heap = H) (e1 : T'.heap = t.heap) (hS : va_S A0 H0 H locs) (hA : ∀ q, q < H.size → A1 q → A0 q) (hf : ∀ q, free q → A0 q) (hL : ∀ q ∈ L, free q.base) (hF : va_F A1 st₀ t) :
    H.size ≤ T'.heap.size ∧ (∀ q : Nat, q < H.size → ¬ A1 q → T'.heap[q]? = H[q]?) ∧ va_S A0 H0 T'.heap (locs ++ L) := by
  obtain ⟨hz, hk⟩ := hF
  rw [h0] at hz hk
  exact ⟨by rw [e1]; exact hz, fun q h1 h2 => by rw [e1]; exact hk q h1 h2,
    ⟨Nat.le_trans hS.1 (by rw [e1]; exact hz), fun q h1 h2 => by rw [e1, hk q (Nat.lt_of_lt_of_le h1 hS.1) (fun z => h2 (hA q (Nat.lt_of_lt_of_le h1 hS.1) z))]; exact hS.2.1 q h1 h2, fun q hq => by
      rcases List.mem_append.mp hq with h | h
      · exact hS.2.2 q h
      · exact hf _ (hL q h)⟩⟩
theorem vx_calli {S SX : Type} {post : Int32 → S → Prop} {px : SX → Prop} {B : S → State → Prop} {BX : String → SX → State → Prop} {AX : Nat → Prop} (hr : vx_Run p l e R s m args below meth c H locs cells slots mc ms (F0 m pc ls st0) rest (va_Qi post B A1 a) (vx_X px BX AX) free) (hS : va_S A0 H0 H locs) (hA : ∀ q, q < H.size → A1 q → A0 q) (hf : ∀ q, free q → A0 q) (hAX : ∀ q, q < H.size → AX q → A0 q)
    (kx : ∀ (E : String) (ce : Cell) (q9 : Addr) (u : SX) (t : State) (H1 : Heap) (locs1 : List Loc), t.heap = H1 → s.vm.Alike t.vm → px u → BX E u t → H.size ≤ H1.size → (∀ q : Nat, q < H.size → ¬ AX q → H1[q]? = H[q]?) → va_S A0 H0 H1 locs1 → H1[q9]? = some ce → ce.vm = .none → s.vm.findClass E = some ce.cls → vx_W p l e R s m args below meth c H1 locs1 (cells + mc) (slots + ms) Q (F0 m pc ls rest) q9)
    (kk : ∀ (r : Int32) (u : S) (t : State) (H1 : Heap) (locs1 : List Loc), t.heap = H1 → s.vm.Alike t.vm → post r u → B u t → H.size ≤ H1.size → (∀ q : Nat, q < H.size → ¬ A1 q → H1[q]? = H[q]?) → va_S A0 H0 H1 locs1 → W p l e R s m args below meth c H1 locs1 (cells + mc) (slots + ms) Q (F0 m (pc + 3) ls (.int r :: rest))) : W p l e R s m args below meth c H locs cells slots Q (F0 m pc ls st0) := by
  intro T hT X
  rcases hr T hT X with ⟨v, st₀, t, T', L, h0, X', hL, e1, e2, ⟨⟨r, u, hv, hp, hb⟩, hF⟩, st⟩ | ⟨q, st₀, t, T', L, E, ce, h0, X', hL, e1, e2, ⟨u, hp, hb, hF⟩, hce, hcv, hcl, st⟩
  · cases hv
    obtain ⟨k1, k2, k3⟩ := vx_keep h0 e1 hS hA hf hL hF
    obtain ⟨t2, a1, b1⟩ := kk r u t T'.heap (locs ++ L) e1.symm (by rw [← e2]; exact X'.warmed.alike) hp hb k1 k2 k3 T' rfl X'
    exact ⟨t2, st t2 a1, b1⟩
  · obtain ⟨k1, k2, k3⟩ := vx_keep h0 e1 hS hAX hf hL hF
    obtain ⟨t2, a1, b1⟩ := kx E ce q u t T'.heap (locs ++ L) e1.symm (by rw [← e2]; exact X'.warmed.alike) hp hb k1 k2 k3 (by rw [e1]; exact hce) hcv hcl T' rfl X'
    exact ⟨t2, st.trans a1, b1⟩
theorem vx_calll {S SX : Type} {post : Int64 → S → Prop} {px : SX → Prop} {B : S → State → Prop} {BX : String → SX → State → Prop} {AX : Nat → Prop} (hr : vx_Run p l e R s m args below meth c H locs cells slots mc ms (F0 m pc ls st0) rest (va_Ql post B A1 a) (vx_X px BX AX) free) (hS : va_S A0 H0 H locs) (hA : ∀ q, q < H.size → A1 q → A0 q) (hf : ∀ q, free q → A0 q) (hAX : ∀ q, q < H.size → AX q → A0 q)
    (kx : ∀ (E : String) (ce : Cell) (q9 : Addr) (u : SX) (t : State) (H1 : Heap) (locs1 : List Loc), t.heap = H1 → s.vm.Alike t.vm → px u → BX E u t → H.size ≤ H1.size → (∀ q : Nat, q < H.size → ¬ AX q → H1[q]? = H[q]?) → va_S A0 H0 H1 locs1 → H1[q9]? = some ce → ce.vm = .none → s.vm.findClass E = some ce.cls → vx_W p l e R s m args below meth c H1 locs1 (cells + mc) (slots + ms) Q (F0 m pc ls rest) q9)
    (kk : ∀ (r : Int64) (u : S) (t : State) (H1 : Heap) (locs1 : List Loc), t.heap = H1 → s.vm.Alike t.vm → post r u → B u t → H.size ≤ H1.size → (∀ q : Nat, q < H.size → ¬ A1 q → H1[q]? = H[q]?) → va_S A0 H0 H1 locs1 → W p l e R s m args below meth c H1 locs1 (cells + mc) (slots + ms) Q (F0 m (pc + 3) ls (.long r :: rest))) : W p l e R s m args below meth c H locs cells slots Q (F0 m pc ls st0) := by
  intro T hT X
  rcases hr T hT X with ⟨v, st₀, t, T', L, h0, X', hL, e1, e2, ⟨⟨r, u, hv, hp, hb⟩, hF⟩, st⟩ | ⟨q, st₀, t, T', L, E, ce, h0, X', hL, e1, e2, ⟨u, hp, hb, hF⟩, hce, hcv, hcl, st⟩
  · cases hv
    obtain ⟨k1, k2, k3⟩ := vx_keep h0 e1 hS hA hf hL hF
    obtain ⟨t2, a1, b1⟩ := kk r u t T'.heap (locs ++ L) e1.symm (by rw [← e2]; exact X'.warmed.alike) hp hb k1 k2 k3 T' rfl X'
    exact ⟨t2, st t2 a1, b1⟩
  · obtain ⟨k1, k2, k3⟩ := vx_keep h0 e1 hS hAX hf hL hF
    obtain ⟨t2, a1, b1⟩ := kx E ce q u t T'.heap (locs ++ L) e1.symm (by rw [← e2]; exact X'.warmed.alike) hp hb k1 k2 k3 (by rw [e1]; exact hce) hcv hcl T' rfl X'
    exact ⟨t2, st.trans a1, b1⟩
theorem vx_callf {S SX : Type} {post : UInt32 → S → Prop} {px : SX → Prop} {B : S → State → Prop} {BX : String → SX → State → Prop} {AX : Nat → Prop} (hr : vx_Run p l e R s m args below meth c H locs cells slots mc ms (F0 m pc ls st0) rest (va_Qf post B A1 a) (vx_X px BX AX) free) (hS : va_S A0 H0 H locs) (hA : ∀ q, q < H.size → A1 q → A0 q) (hf : ∀ q, free q → A0 q) (hAX : ∀ q, q < H.size → AX q → A0 q)
    (kx : ∀ (E : String) (ce : Cell) (q9 : Addr) (u : SX) (t : State) (H1 : Heap) (locs1 : List Loc), t.heap = H1 → s.vm.Alike t.vm → px u → BX E u t → H.size ≤ H1.size → (∀ q : Nat, q < H.size → ¬ AX q → H1[q]? = H[q]?) → va_S A0 H0 H1 locs1 → H1[q9]? = some ce → ce.vm = .none → s.vm.findClass E = some ce.cls → vx_W p l e R s m args below meth c H1 locs1 (cells + mc) (slots + ms) Q (F0 m pc ls rest) q9)
    (kk : ∀ (r : UInt32) (u : S) (t : State) (H1 : Heap) (locs1 : List Loc), t.heap = H1 → s.vm.Alike t.vm → post r u → B u t → H.size ≤ H1.size → (∀ q : Nat, q < H.size → ¬ A1 q → H1[q]? = H[q]?) → va_S A0 H0 H1 locs1 → W p l e R s m args below meth c H1 locs1 (cells + mc) (slots + ms) Q (F0 m (pc + 3) ls (.float r :: rest))) : W p l e R s m args below meth c H locs cells slots Q (F0 m pc ls st0) := by
  intro T hT X
  rcases hr T hT X with ⟨v, st₀, t, T', L, h0, X', hL, e1, e2, ⟨⟨r, u, hv, hp, hb⟩, hF⟩, st⟩ | ⟨q, st₀, t, T', L, E, ce, h0, X', hL, e1, e2, ⟨u, hp, hb, hF⟩, hce, hcv, hcl, st⟩
  · cases hv
    obtain ⟨k1, k2, k3⟩ := vx_keep h0 e1 hS hA hf hL hF
    obtain ⟨t2, a1, b1⟩ := kk r u t T'.heap (locs ++ L) e1.symm (by rw [← e2]; exact X'.warmed.alike) hp hb k1 k2 k3 T' rfl X'
    exact ⟨t2, st t2 a1, b1⟩
  · obtain ⟨k1, k2, k3⟩ := vx_keep h0 e1 hS hAX hf hL hF
    obtain ⟨t2, a1, b1⟩ := kx E ce q u t T'.heap (locs ++ L) e1.symm (by rw [← e2]; exact X'.warmed.alike) hp hb k1 k2 k3 (by rw [e1]; exact hce) hcv hcl T' rfl X'
    exact ⟨t2, st.trans a1, b1⟩
theorem vx_calld {S SX : Type} {post : UInt64 → S → Prop} {px : SX → Prop} {B : S → State → Prop} {BX : String → SX → State → Prop} {AX : Nat → Prop} (hr : vx_Run p l e R s m args below meth c H locs cells slots mc ms (F0 m pc ls st0) rest (va_Qd post B A1 a) (vx_X px BX AX) free) (hS : va_S A0 H0 H locs) (hA : ∀ q, q < H.size → A1 q → A0 q) (hf : ∀ q, free q → A0 q) (hAX : ∀ q, q < H.size → AX q → A0 q)
    (kx : ∀ (E : String) (ce : Cell) (q9 : Addr) (u : SX) (t : State) (H1 : Heap) (locs1 : List Loc), t.heap = H1 → s.vm.Alike t.vm → px u → BX E u t → H.size ≤ H1.size → (∀ q : Nat, q < H.size → ¬ AX q → H1[q]? = H[q]?) → va_S A0 H0 H1 locs1 → H1[q9]? = some ce → ce.vm = .none → s.vm.findClass E = some ce.cls → vx_W p l e R s m args below meth c H1 locs1 (cells + mc) (slots + ms) Q (F0 m pc ls rest) q9)
    (kk : ∀ (r : UInt64) (u : S) (t : State) (H1 : Heap) (locs1 : List Loc), t.heap = H1 → s.vm.Alike t.vm → post r u → B u t → H.size ≤ H1.size → (∀ q : Nat, q < H.size → ¬ A1 q → H1[q]? = H[q]?) → va_S A0 H0 H1 locs1 → W p l e R s m args below meth c H1 locs1 (cells + mc) (slots + ms) Q (F0 m (pc + 3) ls (.double r :: rest))) : W p l e R s m args below meth c H locs cells slots Q (F0 m pc ls st0) := by
  intro T hT X
  rcases hr T hT X with ⟨v, st₀, t, T', L, h0, X', hL, e1, e2, ⟨⟨r, u, hv, hp, hb⟩, hF⟩, st⟩ | ⟨q, st₀, t, T', L, E, ce, h0, X', hL, e1, e2, ⟨u, hp, hb, hF⟩, hce, hcv, hcl, st⟩
  · cases hv
    obtain ⟨k1, k2, k3⟩ := vx_keep h0 e1 hS hA hf hL hF
    obtain ⟨t2, a1, b1⟩ := kk r u t T'.heap (locs ++ L) e1.symm (by rw [← e2]; exact X'.warmed.alike) hp hb k1 k2 k3 T' rfl X'
    exact ⟨t2, st t2 a1, b1⟩
  · obtain ⟨k1, k2, k3⟩ := vx_keep h0 e1 hS hAX hf hL hF
    obtain ⟨t2, a1, b1⟩ := kx E ce q u t T'.heap (locs ++ L) e1.symm (by rw [← e2]; exact X'.warmed.alike) hp hb k1 k2 k3 (by rw [e1]; exact hce) hcv hcl T' rfl X'
    exact ⟨t2, st.trans a1, b1⟩
theorem vx_callv {S SX : Type} {post : S → Prop} {px : SX → Prop} {B : S → State → Prop} {BX : String → SX → State → Prop} {AX : Nat → Prop} (hr : vx_Run p l e R s m args below meth c H locs cells slots mc ms (F0 m pc ls st0) rest (va_Qv post B A1 a) (vx_X px BX AX) free) (hS : va_S A0 H0 H locs) (hA : ∀ q, q < H.size → A1 q → A0 q) (hf : ∀ q, free q → A0 q) (hAX : ∀ q, q < H.size → AX q → A0 q)
    (kx : ∀ (E : String) (ce : Cell) (q9 : Addr) (u : SX) (t : State) (H1 : Heap) (locs1 : List Loc), t.heap = H1 → s.vm.Alike t.vm → px u → BX E u t → H.size ≤ H1.size → (∀ q : Nat, q < H.size → ¬ AX q → H1[q]? = H[q]?) → va_S A0 H0 H1 locs1 → H1[q9]? = some ce → ce.vm = .none → s.vm.findClass E = some ce.cls → vx_W p l e R s m args below meth c H1 locs1 (cells + mc) (slots + ms) Q (F0 m pc ls rest) q9)
    (kk : ∀ (u : S) (t : State) (H1 : Heap) (locs1 : List Loc), t.heap = H1 → s.vm.Alike t.vm → post u → B u t → H.size ≤ H1.size → (∀ q : Nat, q < H.size → ¬ A1 q → H1[q]? = H[q]?) → va_S A0 H0 H1 locs1 → W p l e R s m args below meth c H1 locs1 (cells + mc) (slots + ms) Q (F0 m (pc + 3) ls (rest))) : W p l e R s m args below meth c H locs cells slots Q (F0 m pc ls st0) := by
  intro T hT X
  rcases hr T hT X with ⟨v, st₀, t, T', L, h0, X', hL, e1, e2, ⟨⟨u, hv, hp, hb⟩, hF⟩, st⟩ | ⟨q, st₀, t, T', L, E, ce, h0, X', hL, e1, e2, ⟨u, hp, hb, hF⟩, hce, hcv, hcl, st⟩
  · cases hv
    obtain ⟨k1, k2, k3⟩ := vx_keep h0 e1 hS hA hf hL hF
    obtain ⟨t2, a1, b1⟩ := kk u t T'.heap (locs ++ L) e1.symm (by rw [← e2]; exact X'.warmed.alike) hp hb k1 k2 k3 T' rfl X'
    exact ⟨t2, st t2 a1, b1⟩
  · obtain ⟨k1, k2, k3⟩ := vx_keep h0 e1 hS hAX hf hL hF
    obtain ⟨t2, a1, b1⟩ := kx E ce q u t T'.heap (locs ++ L) e1.symm (by rw [← e2]; exact X'.warmed.alike) hp hb k1 k2 k3 (by rw [e1]; exact hce) hcv hcl T' rfl X'
    exact ⟨t2, st.trans a1, b1⟩
/-- caught by the row x of this method's table; the rows ahead don't take it -/
theorem vx_catch {own name : String} {E : String} {ce : Cell} {q : Addr} (hown : s.vm.findClass own = some m.cls) (pre : List ExceptionTableEntry) (x : ExceptionTableEntry) (suf : List ExceptionTableEntry) (hsplit : c.exceptionTable.toList = pre ++ x :: suf)
    (hpass : ∀ z ∈ pre, covers z pc = false ∨ (z.catchType ≠ 0 ∧ ∃ nm : String, (Cond.classLink own z.catchType nm).before args s = true ∧ va_Nc E nm s)) (hx : covers x pc = true) (h0 : x.catchType ≠ 0)
    (hlink : (Cond.classLink own x.catchType name).before args s = true) (hcast : (Cond.castable E name).before args s = true) (hcell : H[q]? = some ce) (hv : ce.vm = .none) (hcl : s.vm.findClass E = some ce.cls)
    (kk : W p l e R s m args below meth c H locs cells slots Q (F0 m x.handlerPc ls [.ref q])) : vx_W p l e R s m args below meth c H locs cells slots Q (F0 m pc ls rest) q := by
  intro T hT X
  have hpl : e.platform.magicAccessors = ({} : Platform).magicAccessors := by rw [X.admits.platform]
  obtain ⟨c3, c4, hc3, hc4, hasg⟩ := Cond.castable_spec hcast
  cases Option.some.inj (hc3.symm.trans hcl)
  obtain ⟨c5, hc5, hcl5⟩ := Cond.classLink_spec hown hlink e.platform hpl
  cases Option.some.inj (hc4.symm.trans hc5)
  obtain ⟨vm', X', st⟩ := X.thenCaughtThrough q (g := F0 m pc ls rest) rfl (Steps.refl _) (by rw [hT]; exact hcell) (by rw [hv]; rfl) (by obtain ⟨k9, h9, -⟩ := Vm.findClass_spec hcl; exact ⟨k9, h9⟩) pre x suf hsplit
    (fun z hz => by
      rcases hpass z hz with h | ⟨hz0, nm, hl1, hn1⟩
      · exact Or.inl h
      · obtain ⟨c6, hc6, hcl6⟩ := Cond.classLink_spec hown hl1 e.platform hpl
        obtain ⟨a8, b8, h1, h2, h3⟩ := hn1
        cases Option.some.inj (h1.symm.trans hcl)
        cases Option.some.inj (h2.symm.trans hc6)
        exact Or.inr ⟨hz0, _, hcl6, h3⟩) hx (Or.inr ⟨h0, c4, hcl5, hasg⟩)
  obtain ⟨t, a1, b1⟩ := kk (T.setVm vm') hT X'
  exact ⟨t, st.trans a1, b1⟩
end Rows
section Ends
variable {p : Program} {l : Launch} {e : Env} {R : Room} {s : State} {m : MethodId} {args : Array Value} {below : List Frame} {meth : Method} {c : Code} {H : Heap} {locs : List Loc} {cells slots : Nat} {Q : State → Prop}
variable {mc ms : Nat} {free : Addr → Prop} {A0 A1 : Nat → Prop} {H0 : Heap} {a : Array Value} {ls : Array Slot} {st0 rest : List Value}
variable {Qc : Array Value → State → Outcome → State → Prop} {XC : String → State → State → Prop}
/-- what a body that may throw owes at its end -/
def vx_MQ (below : List Frame) (Qc : Array Value → State → Outcome → State → Prop) (XC : String → State → State → Prop) (a : Array Value) (s : State) (mc ms : Nat) (free : Addr → Prop) : State → Prop := fun t =>
  ∃ o, t.status = .running ∧ Ended t below o ∧ vx_Q Qc XC mc ms free a s o t
theorem vx_ret {g : JFrame} {mc ms : Nat} (k : W p l e R s m args below meth c H locs cells slots (MQ below Qc args s mc ms free) g) : W p l e R s m args below meth c H locs cells slots (vx_MQ below Qc XC args s mc ms free) g := by
  intro T hT X
  obtain ⟨t, a1, o, b1, b2, b3, b4⟩ := k T hT X
  exact ⟨t, a1, o, b1, b2, Or.inl ⟨b3, b4⟩⟩
/-- not caught here: it goes on to the caller -/
theorem vx_widen {g : JFrame} {q : Addr} {k n : Nat} (h1 : cells ≤ k) (h2 : slots ≤ n) (kk : vx_W p l e R s m args below meth c H locs k n Q g q) : vx_W p l e R s m args below meth c H locs cells slots Q g q := fun T hT X => kk T hT (stand_widen X h1 h2)
theorem vx_out {pc : Nat} {E : String} {ce : Cell} {q : Addr} {mc ms : Nat} (hout : ∀ x ∈ c.exceptionTable.toList, covers x pc = false) (hlocks : meth.locks = false) (hcell : H[q]? = some ce) (hv : ce.vm = .none) (hcl : s.vm.findClass E = some ce.cls)
    (hx : ∀ t : State, t.heap = H → s.vm.Alike t.vm → XC E s t) (hf : ∀ z ∈ locs, free z.base) (hc : cells ≤ mc) (hs : slots ≤ ms) :
    vx_W p l e R s m args below meth c H locs cells slots (vx_MQ below Qc XC args s mc ms free) (F0 m pc ls rest) q := by
  intro T hT X
  obtain ⟨st1, hrun, hend, hW, hsm⟩ := X.leaveThrown q (g := F0 m pc ls rest) rfl rfl rfl hout hlocks
  have hcell9 : (T.setFrames (.throwing q :: below)).heap[q]? = some ce := by
    show T.heap[q]? = some ce
    rw [hT]; exact hcell
  exact ⟨_, st1, .threw q, hrun, hend, Or.inr ⟨q, rfl, E, ce, locs, hx _ hT hW.alike, hcell9, hv, hcl, hW, hsm.mono hc hs, hf⟩⟩
theorem vx_frame {U : State} {k n : Nat} (h : s.sameButNew ({ U with vm := s.vm } : State) locs k n) : s.heap.size ≤ U.heap.size ∧ ∀ q : Nat, q < s.heap.size → (∀ z ∈ locs, z.base ≠ q) → U.heap[q]? = s.heap[q]? := by
  obtain ⟨-, h2, -, -, -, h6⟩ := h
  refine ⟨h2, fun q hq hz => ?_⟩
  obtain ⟨c9, e1, e2, e3, e4⟩ := h6 q _ (Array.getElem?_eq_getElem hq)
  have hs : c9.slots = (s.heap[q]).slots := Array.ext_getElem? fun i => e4 i fun hm => hz _ hm rfl
  have h9 : c9 = s.heap[q] := by
    rw [hs] at e2
    exact e2
  have e5 : U.heap[q]? = some c9 := e1
  rw [e5, h9, Array.getElem?_eq_getElem hq]
/-- the words of a throw but the four that speak of the heap -/
def vx_no (w : Cond) : Bool := decide (w ≠ .isRef (.static Bundle.tN "UNASSIGNED_STACK" Bundle.steD)) && decide (w ≠ .isRef (.static Bundle.tN "SUPPRESSED_SENTINEL" Bundle.listD)) && decide (w ≠ .laysStatic Bundle.tN "UNASSIGNED_STACK" Bundle.steD) && decide (w ≠ .laysStatic Bundle.tN "SUPPRESSED_SENTINEL" Bundle.listD)
def vx_at0 (own : String) (ic : Nat) (X : String) (names : List String) : List Cond := (Bundle.ownAtoms0 own ic X names).filter vx_no
def vx_atS (own : String) (ic : Nat) (X : String) (names : List String) : List Cond := (Bundle.ownAtoms own ic X names).filter vx_no
/-- a word that the tables alone decide, or a good one -/
def vx_ot (w : Cond) : Bool := w.onTables || goodWord w
theorem vx_ot_at {args a' : Array Value} {s U : State} {w : Cond} (hW : s.WarmedH U.vm) (hvm : s.vm = U.vm) (hg : vx_ot w = true) (h : w.before args s = true) : w.before a' U = true := by
  simp only [vx_ot, Bool.or_eq_true] at hg
  rcases hg with hg | hg
  · exact va_tabs hg hvm h
  · exact word_at hW (good_of_word hg) h
/-- a list's words: the good ones out of the method's own list, the others by premises of their own -/
theorem vx_hat {args : Array Value} {s : State} {L B : List Cond} (h1 : ∀ w ∈ L.filter goodWord, w.before args s = true) (h2 : ∀ w ∈ L.filter (fun w => !goodWord w), w ∈ B) (h3 : ∀ w ∈ B, w.before args s = true) : ∀ w ∈ L, w.before args s = true := by
  intro w hw
  by_cases g : goodWord w = true
  · exact h1 w (List.mem_filter.mpr ⟨hw, g⟩)
  · refine h3 w (h2 w (List.mem_filter.mpr ⟨hw, ?_⟩))
    show (!goodWord w) = true
    cases hgw : goodWord w
    · rfl
    · exact absurd hgw g
theorem vx_c {args : Array Value} {s : State} {w : Cond} {B : List Cond} (h : w.before args s = true) (t : ∀ w ∈ B, w.before args s = true) : ∀ w' ∈ w :: B, w'.before args s = true := fun w' h' => (List.mem_cons.mp h').elim (fun e => by rw [e]; exact h) (t w')
theorem vx_n {args : Array Value} {s : State} : ∀ w ∈ ([] : List Cond), w.before args s = true := fun _ h => nomatch h
theorem vx_own {args : Array Value} {s : State} {L : List Cond} (h1 : ∀ w ∈ L.filter vx_no, w.before args s = true)
    (hU : (Cond.isRef (.static Bundle.tN "UNASSIGNED_STACK" Bundle.steD)).before args s = true) (hN : (Cond.isRef (.static Bundle.tN "SUPPRESSED_SENTINEL" Bundle.listD)).before args s = true)
    (lU : (Cond.laysStatic Bundle.tN "UNASSIGNED_STACK" Bundle.steD).before args s = true) (lN : (Cond.laysStatic Bundle.tN "SUPPRESSED_SENTINEL" Bundle.listD).before args s = true) : ∀ w ∈ L, w.before args s = true := by
  intro w hw
  by_cases e1 : w = .isRef (.static Bundle.tN "UNASSIGNED_STACK" Bundle.steD)
  · rw [e1]; exact hU
  · by_cases e2 : w = .isRef (.static Bundle.tN "SUPPRESSED_SENTINEL" Bundle.listD)
    · rw [e2]; exact hN
    · by_cases e3 : w = .laysStatic Bundle.tN "UNASSIGNED_STACK" Bundle.steD
      · rw [e3]; exact lU
      · by_cases e4 : w = .laysStatic Bundle.tN "SUPPRESSED_SENTINEL" Bundle.listD
        · rw [e4]; exact lN
        · exact h1 w (List.mem_filter.mpr ⟨hw, by unfold vx_no; rw [decide_eq_true e1, decide_eq_true e2, decide_eq_true e3, decide_eq_true e4]; rfl⟩)
/-- where a static field lies, its class's statics cell in H -/
def vx_L (C n d : String) (A : Nat → Prop) (U : State) (H : Heap) : Prop := ∃ (c : ClassId) (k : Class) (i : Nat) (f : Field) (a : Nat) (cell : Cell), U.vm.findClass C = some c ∧ U.fieldFound? C n d = some (c, k, i, f) ∧ f.isStatic = true ∧ k.statics = some a ∧ H[a]? = some cell ∧ cell.vm.isStatics = true ∧ cell.cls = c ∧ f.slot < cell.slots.size ∧ k.staticTypes[f.slot]? = some f.type ∧ ¬ A a
theorem vx_L.moved {C n d : String} {A : Nat → Prop} {u U : State} {H : Heap} (hvm : u.vm.Alike U.vm) (h : vx_L C n d A u H) : vx_L C n d A U H := by
  obtain ⟨c, k, i, f, a, cell, h1, h2, h3, h4, h5, h6, h7, h8, h9, h10⟩ := h
  obtain ⟨k', hi', he⟩ := State.fieldFound?_setVm hvm h2
  exact ⟨c, k', i, f, a, cell, by rw [hvm.findClass]; exact h1, hi', h3, by rw [he]; exact h4, h5, h6, h7, h8, by rw [he]; exact h9, h10⟩
theorem vx_L.kept {C n d : String} {A : Nat → Prop} {U : State} {H H1 : Heap} (h : vx_L C n d A U H) (hq : ∀ a : Nat, a < H.size → ¬ A a → H1[a]? = H[a]?) : vx_L C n d A U H1 := by
  obtain ⟨c, k, i, f, a, cell, h1, h2, h3, h4, h5, h6, h7, h8, h9, h10⟩ := h
  exact ⟨c, k, i, f, a, cell, h1, h2, h3, h4, by rw [hq a (Array.getElem?_eq_some_iff.mp h5).1 h10]; exact h5, h6, h7, h8, h9, h10⟩
theorem vx_L.narrow {C n d : String} {A B : Nat → Prop} {U : State} {H : Heap} (h : vx_L C n d A U H) (hAB : ∀ q, B q → A q) : vx_L C n d B U H := by
  obtain ⟨c, k, i, f, a, cell, h1, h2, h3, h4, h5, h6, h7, h8, h9, h10⟩ := h
  exact ⟨c, k, i, f, a, cell, h1, h2, h3, h4, h5, h6, h7, h8, h9, fun z => h10 (hAB _ z)⟩
theorem vx_L.word {C n d : String} {A : Nat → Prop} {s : State} {args : Array Value} (h : vx_L C n d A s s.heap) : (Cond.laysStatic C n d).before args s = true := by
  obtain ⟨c, k, i, f, a, cell, h1, h2, h3, h4, h5, h6, h7, h8, h9, -⟩ := h
  show (Cond.laysStatic C n d).holds args s none s [] = true
  exact Cond.laysStatic_of h1 h2 h3 h4 h5 h6 h7 h8 h9
/-- .. and what it holds: null or some reference -/
def vx_Zq (C n d : String) (A : Nat → Prop) (U : State) (H : Heap) : Prop := va_Zq C n d A U H ∧ vx_L C n d A U H
theorem vx_Zq.moved {C n d : String} {A : Nat → Prop} {u U : State} {H : Heap} (hvm : u.vm.Alike U.vm) (h : vx_Zq C n d A u H) : vx_Zq C n d A U H := ⟨va_Zq.moved hvm h.1, vx_L.moved hvm h.2⟩
theorem vx_Zq.kept {C n d : String} {A : Nat → Prop} {U : State} {H H1 : Heap} (h : vx_Zq C n d A U H) (hq : ∀ a : Nat, a < H.size → ¬ A a → H1[a]? = H[a]?) : vx_Zq C n d A U H1 := ⟨va_Zq.kept h.1 hq, vx_L.kept h.2 hq⟩
theorem vx_Zq.narrow {C n d : String} {A B : Nat → Prop} {U : State} {H : Heap} (h : vx_Zq C n d A U H) (hAB : ∀ q, B q → A q) : vx_Zq C n d B U H := ⟨va_Zq.narrow h.1 hAB, vx_L.narrow h.2 hAB⟩
theorem vx_Zqof {args : Array Value} {s : State} {C n d : String} {A : Nat → Prop} (hl : (Cond.laysStatic C n d).before args s = true) (hini : (Cond.initialized C).before args s = true) (h : (Cond.isRef (.static C n d)).before args s = true) (hA : ∀ a : Nat, a < s.heap.size → ¬ A a) : vx_Zq C n d A s s.heap := by
  refine ⟨va_Zqof hl hini h hA, ?_⟩
  obtain ⟨c, k, i, f, a, cell, h1, h2, h3, h4, h5, h6, h7, h8, h9⟩ := Cond.laysStatic_spec hl
  exact ⟨c, k, i, f, a, cell, h1, h2, h3, h4, h5, h6, h7, h8, h9, hA a (Array.getElem?_eq_some_iff.mp h5).1⟩
theorem vx_isRef {C n d : String} {v : Value} {A : Nat → Prop} {s : State} {args : Array Value} (h : va_Z C n d v A s s.heap) (hv : v.isRef = true) : (Cond.isRef (.static C n d)).before args s = true := by
  obtain ⟨cf, kf, fi, f, a, cell, h1, h2, h3, h4, h5, h6, h7, -⟩ := h
  have he : (Term.static C n d).eval args s none [] s = some v := by
    simp [Term.eval, State.fieldNamed?, h1, h2, h4, h5, h6, h7]
  simp only [Cond.before, Cond.holds, Cond.value, he]
  cases v <;> simp_all [Value.isRef]
theorem vx_isRefq {C n d : String} {A : Nat → Prop} {s : State} {args : Array Value} (h : va_Zq C n d A s s.heap) : (Cond.isRef (.static C n d)).before args s = true := by
  rcases h with h | ⟨t, h⟩
  · exact vx_isRef h rfl
  · exact vx_isRef h rfl
/-- the same frame, seen from here: as if the method were called anew in this heap -/
theorem vx_rebase {T : State} (X : Stand p l e R s m args below meth c T locs cells slots) {R' : Room} (hf : R'.frames ≤ R.frames) (hl : R'.locals ≤ R.locals) (hc : cells + R'.cells ≤ R.cells) (hs : slots + R'.slots ≤ R.slots) :
    Stand p l e R' ((T.setVm s.vm).setFrames (.invoking m args :: below)) m args below meth c T [] 0 0 := by
  have htop : (T.setVm s.vm).topJava?.isSome := X.here.top
  have hF : ((T.setVm s.vm).setFrames (.invoking m args :: below)).frames = .invoking m args :: below := State.frames_setFrames _ (State.cur_lt_of_top htop)
  obtain ⟨g₀, hg0⟩ := Option.isSome_iff_exists.mp htop
  obtain ⟨r, hr⟩ := State.topJava?_eq_some.mp hg0
  have hl9 : e.platform.stackLimits (T.setVm s.vm).me = e.platform.stackLimits s.me := X.limits
  have hb9 : (T.setVm s.vm).me.stackBytes = s.me.stackBytes := X.bytes
  refine ⟨X.admits, X.cas, X.clock, hF, ?_, X.hears, X.method, X.code, X.here, X.tail, X.warmed, ?_, ?_, ?_⟩
  · have h := X.room
    have hU : ((T.setVm s.vm).setFrames (.invoking m args :: below)).localsInUse = s.localsInUse := by
      rw [State.localsInUse_invoking hF (meth := meth) (c := c) X.method X.code, State.localsInUse_invoking X.frames X.method X.code]
    simp only [State.hasRoom, Bool.and_eq_true, decide_eq_true_eq] at h ⊢
    obtain ⟨⟨⟨⟨h1, h2, h3, h4, h5, h6⟩, h7⟩, h8⟩, h9⟩ := h
    rw [X.frames, List.length_cons] at h2 h3
    have q1 := X.heapSize
    have q2 := X.used
    simp only [hF, hU, List.length_cons, State.stackLimits_setFrames, State.stackBytes_setFrames, hl9, hb9]
    refine ⟨⟨⟨⟨by omega, by omega, by omega, by omega, by omega, h6⟩, ?_⟩, ?_⟩, X.book⟩
    · show T.heap.size + R'.cells ≤ e.platform.maxCells
      omega
    · show T.slotsUsed + R'.slots ≤ e.platform.maxSlots
      omega
  · rw [State.stackLimits_setFrames]; rfl
  · rw [State.stackBytes_setFrames]; rfl
  · refine ⟨?_, Nat.le_refl _, Nat.le_refl _, ?_, ?_, fun a c9 h9 => ⟨c9, h9, rfl, rfl, fun _ _ => rfl⟩⟩
    · obtain ⟨t, ht, -⟩ := State.frames_cons hr
      show T.setVm s.vm = { ((T.setVm s.vm).setFrames (.invoking m args :: below)).setFrames (T.setVm s.vm).frames with heap := T.heap, slotsUsed := T.slotsUsed }
      rw [State.setFrames_setFrames, State.setFrames_self ht]
      rfl
    · show T.slotsUsed = T.slotsUsed + ((T.heap.toList.drop T.heap.size).map (·.slots.size)).sum
      rw [List.drop_eq_nil_of_le (Nat.le_of_eq Array.length_toList)]
      rfl
    · show ((T.heap.toList.drop T.heap.size).map (·.slots.size)).sum ≤ 0
      rw [List.drop_eq_nil_of_le (Nat.le_of_eq Array.length_toList)]
      exact Nat.le_refl _
/-- 'throw new E()': new; dup; invokespecial; athrow -/
theorem vx_throw0 {cc : ByteArray} {pc : Nat} (hexec : p.tables.exec = Jvm.exec) (hb : c.code = cc) (hl : l.stackTraces = false) {own cls : String} {names : List String} {ik ic mc ms : Nat} {A : Nat → Prop}
    (hown : s.vm.findClass own = some m.cls) (hcls : Bundle.fit cls = true) (hnames : ∀ n ∈ names, Bundle.fit n = true)
    (hk : (Cond.classLink own ik cls).before args s = true) (hini : (Cond.initialized cls).before args s = true) (hat : ∀ w ∈ vx_at0 own ic cls names, w.before args s = true)
    (hgood : ∀ w ∈ Cond.classLink own ik cls :: Cond.initialized cls :: vx_at0 own ic cls names, vx_ot w = true)
    (hU : vx_Zq Bundle.tN "UNASSIGNED_STACK" Bundle.steD A s s.heap) (hN : vx_Zq Bundle.tN "SUPPRESSED_SENTINEL" Bundle.listD A s s.heap) (hS : va_S A s.heap H locs) (hsize : ls.size = c.maxLocals)
    (d0 : decode cc pc = .ok (.new ik, 3)) (d3 : decode cc (pc + 3) = .ok (.dup, 1)) (d4 : decode cc (pc + 4) = .ok (.invokespecial ic, 3)) (d7 : decode cc (pc + 7) = .ok (.athrow, 1))
    (hout : ∀ x ∈ c.exceptionTable.toList, covers x (pc + 7) = false)
    (hRframes : names.length + 3 < R.frames) (hRlocals : (rest.map fun v => v.category).sum + (13 * (names.length + 1) + 42) ≤ R.locals) (hRcells : cells + 1 ≤ R.cells) (hRslots : slots + 6 ≤ R.slots) (hlocks : meth.locks = false)
    (hx : ∀ t : State, s.vm.Alike t.vm → H.size ≤ t.heap.size → (∀ q : Nat, q < H.size → t.heap[q]? = H[q]?) → XC cls s t)
    (hf : ∀ z ∈ locs, free z.base) (hc : cells + 1 ≤ mc) (hs : slots + 6 ≤ ms) :
    W p l e R s m args below meth c H locs cells slots (vx_MQ below Qc XC args s mc ms free) (F0 m pc ls rest) := by
  intro T hT X
  have htr : e.platform.stackTraces = false := (show e.platform.stackTraces = l.stackTraces by rw [X.admits.platform]).trans hl
  have Y := vx_rebase X (R' := { frames := R.frames, locals := R.locals, cells := 1, slots := 6 }) (Nat.le_refl _) (Nat.le_refl _) hRcells hRslots
  obtain ⟨s', hA⟩ : ∃ z, z = (T.setVm s.vm).setFrames (.invoking m args :: below) := ⟨_, rfl⟩
  rw [← hA] at Y
  have hvm : s'.vm = s.vm := by rw [hA]; rfl
  have hhp : s'.heap = H := by rw [hA]; exact hT
  have hW0 : s.WarmedH s'.vm := by rw [hvm]; exact State.WarmedH.refl s
  have hat' : ∀ w ∈ vx_at0 own ic cls names, w.before args s' = true := fun w hw => vx_ot_at hW0 hvm.symm (hgood w (List.mem_cons_of_mem _ (List.mem_cons_of_mem _ hw))) (hat w hw)
  have hk' : (Cond.classLink own ik cls).before args s' = true := vx_ot_at hW0 hvm.symm (hgood _ List.mem_cons_self) hk
  have hini' : (Cond.initialized cls).before args s' = true := vx_ot_at hW0 hvm.symm (hgood _ (List.mem_cons_of_mem _ List.mem_cons_self)) hini
  have hU' : vx_Zq Bundle.tN "UNASSIGNED_STACK" Bundle.steD A s' s'.heap := by rw [hhp]; exact vx_Zq.moved hW0.alike (hU.kept hS.2.1)
  have hN' : vx_Zq Bundle.tN "SUPPRESSED_SENTINEL" Bundle.listD A s' s'.heap := by rw [hhp]; exact vx_Zq.moved hW0.alike (hN.kept hS.2.1)
  have h : ∀ w ∈ Bundle.ownAtoms0 own ic cls names, w.before args s' = true := vx_own hat' (vx_isRefq hU'.1) (vx_isRefq hN'.1) hU'.2.word hN'.2.word
  have hown' : s'.vm.findClass own = some m.cls := by rw [hvm]; exact hown
  have hins : (Cond.instantiable cls 6).before args s' = true := h _ (by simp [Bundle.ownAtoms0])
  obtain ⟨vm₁, cX, kX, hfX, hkX, -, -, X₁, st1⟩ := Y.newCold hexec (own := own) (C := cls) (index := ik) (n := 6) hown' hk' hins hini'
    (g := F0 m pc ls rest) rfl (by rw [hb]; exact d0) (Nat.le_refl _) (Nat.le_refl _)
  generalize hT1 : (T.setVm vm₁).pushCell { cls := cX, slots := kX.instanceTypes.map defaultValue, vm := .none } = T1 at X₁ st1
  have hcat : (Value.ref T.heap.size).category = 1 := rfl
  have hcellA : T1.heap[T.heap.size]? = some (freshCell cX kX) := by rw [← hT1]; exact State.heap_pushCell_size _ _
  have d3' : decode c.code (pc + 3) = .ok (.dup, 1) := by rw [hb]; exact d3
  obtain ⟨U, hsteps, hrun, hend, hW, hsame, ce, hce, hO⟩ := X₁.ctorThrow0 hexec htr (own := own) (cls := cls) (names := names) (ic := ic) hown' hcls hnames h (fun x hx => nomatch hx) hfX hkX hcellA (by rw [hhp, hT]; exact Nat.le_refl _)
    (g := { method := m, pc := pc + 4, locals := ls, stack := .ref T.heap.size :: .ref T.heap.size :: rest, locked := none }) rfl hsize rfl rfl (rest := rest) rfl
    (by rw [hb]; exact d4) (by rw [hb]; exact d7) hout hRframes (by simp only [List.map_cons, List.sum_cons, hcat]; omega) hlocks
  obtain ⟨f1, f2⟩ := vx_frame hsame
  rw [hhp] at f1 f2
  have hWs : s.WarmedH U.vm := State.WarmedH.trans hW0 hW
  have hcl : s.vm.findClass cls = some ce.cls := by
    have h9 := hO.cls
    rw [hvm] at h9
    exact h9
  have hall : s.sameButNew ({ U with vm := s.vm } : State) locs mc ms := by
    subst hA
    obtain ⟨e1, e2⟩ := hsame
    rw [State.setFrames_setFrames] at e1
    have h2 : (T.setVm s.vm).sameButNew ({ U with vm := s.vm } : State) [] (0 + 1) (0 + 6) := ⟨e1, e2⟩
    have h3 := X.same.trans h2
    rw [List.append_nil] at h3
    exact h3.mono hc hs
  refine ⟨U, ?_, .threw T.heap.size, hrun, hend, Or.inr ⟨T.heap.size, rfl, cls, ce, locs, hx U hWs.alike f1 (fun q hq => f2 q hq (fun z hz => nomatch hz)), hce, hO.vm, hcl, hWs, hall, hf⟩⟩
  refine st1 _ ?_
  show Steps p.tables e below (T1.setTop { method := m, pc := pc + 3, locals := ls, stack := .ref T.heap.size :: rest, locked := none }) _
  jvm_step X₁.here [X₁.here.top, hexec, d3', Value.category]
  exact hsteps
/-- 'throw new E("text")': new; dup; ldc; invokespecial; athrow -/
theorem vx_throwS {cc : ByteArray} {pc : Nat} (hexec : p.tables.exec = Jvm.exec) (hb : c.code = cc) (hl : l.stackTraces = false) {own cls text : String} {names : List String} {ik is ic mc ms sa : Nat} {A : Nat → Prop}
    (hown : s.vm.findClass own = some m.cls) (hcls : Bundle.fit cls = true) (hnames : ∀ n ∈ names, Bundle.fit n = true)
    (hk : (Cond.classLink own ik cls).before args s = true) (hini : (Cond.initialized cls).before args s = true) (hstr : vk_R own is text sa s) (hat : ∀ w ∈ vx_atS own ic cls names, w.before args s = true)
    (hgood : ∀ w ∈ Cond.classLink own ik cls :: Cond.initialized cls :: vx_atS own ic cls names, vx_ot w = true)
    (hU : vx_Zq Bundle.tN "UNASSIGNED_STACK" Bundle.steD A s s.heap) (hN : vx_Zq Bundle.tN "SUPPRESSED_SENTINEL" Bundle.listD A s s.heap) (hS : va_S A s.heap H locs) (hsize : ls.size = c.maxLocals)
    (d0 : decode cc pc = .ok (.new ik, 3)) (d3 : decode cc (pc + 3) = .ok (.dup, 1)) (d4 : decode cc (pc + 4) = .ok (.ldc is, 2)) (d6 : decode cc (pc + 6) = .ok (.invokespecial ic, 3)) (d9 : decode cc (pc + 9) = .ok (.athrow, 1))
    (hout : ∀ x ∈ c.exceptionTable.toList, covers x (pc + 9) = false)
    (hRframes : names.length + 3 < R.frames) (hRlocals : (rest.map fun v => v.category).sum + (13 * (names.length + 1) + 43) ≤ R.locals) (hRcells : cells + 1 ≤ R.cells) (hRslots : slots + 6 ≤ R.slots) (hlocks : meth.locks = false)
    (hx : ∀ t : State, s.vm.Alike t.vm → H.size ≤ t.heap.size → (∀ q : Nat, q < H.size → t.heap[q]? = H[q]?) → XC cls s t)
    (hf : ∀ z ∈ locs, free z.base) (hc : cells + 1 ≤ mc) (hs : slots + 6 ≤ ms) :
    W p l e R s m args below meth c H locs cells slots (vx_MQ below Qc XC args s mc ms free) (F0 m pc ls rest) := by
  intro T hT X
  have htr : e.platform.stackTraces = false := (show e.platform.stackTraces = l.stackTraces by rw [X.admits.platform]).trans hl
  have Y := vx_rebase X (R' := { frames := R.frames, locals := R.locals, cells := 1, slots := 6 }) (Nat.le_refl _) (Nat.le_refl _) hRcells hRslots
  obtain ⟨s', hA⟩ : ∃ z, z = (T.setVm s.vm).setFrames (.invoking m args :: below) := ⟨_, rfl⟩
  rw [← hA] at Y
  have hvm : s'.vm = s.vm := by rw [hA]; rfl
  have hhp : s'.heap = H := by rw [hA]; exact hT
  have hW0 : s.WarmedH s'.vm := by rw [hvm]; exact State.WarmedH.refl s
  have hat' : ∀ w ∈ vx_atS own ic cls names, w.before args s' = true := fun w hw => vx_ot_at hW0 hvm.symm (hgood w (List.mem_cons_of_mem _ (List.mem_cons_of_mem _ hw))) (hat w hw)
  have hk' : (Cond.classLink own ik cls).before args s' = true := vx_ot_at hW0 hvm.symm (hgood _ List.mem_cons_self) hk
  have hini' : (Cond.initialized cls).before args s' = true := vx_ot_at hW0 hvm.symm (hgood _ (List.mem_cons_of_mem _ List.mem_cons_self)) hini
  have hU' : vx_Zq Bundle.tN "UNASSIGNED_STACK" Bundle.steD A s' s'.heap := by rw [hhp]; exact vx_Zq.moved hW0.alike (hU.kept hS.2.1)
  have hN' : vx_Zq Bundle.tN "SUPPRESSED_SENTINEL" Bundle.listD A s' s'.heap := by rw [hhp]; exact vx_Zq.moved hW0.alike (hN.kept hS.2.1)
  have h : ∀ w ∈ Bundle.ownAtoms own ic cls names, w.before args s' = true := vx_own hat' (vx_isRefq hU'.1) (vx_isRefq hN'.1) hU'.2.word hN'.2.word
  have hown' : s'.vm.findClass own = some m.cls := by rw [hvm]; exact hown
  have hins : (Cond.instantiable cls 6).before args s' = true := h _ (by simp [Bundle.ownAtoms])
  obtain ⟨vm₁, cX, kX, hfX, hkX, -, -, X₁, st1⟩ := Y.newCold hexec (own := own) (C := cls) (index := ik) (n := 6) hown' hk' hins hini'
    (g := F0 m pc ls rest) rfl (by rw [hb]; exact d0) (Nat.le_refl _) (Nat.le_refl _)
  generalize hT1 : (T.setVm vm₁).pushCell { cls := cX, slots := kX.instanceTypes.map defaultValue, vm := .none } = T1 at X₁ st1
  have hcat : (Value.ref T.heap.size).category = 1 := rfl
  have hcellA : T1.heap[T.heap.size]? = some (freshCell cX kX) := by rw [← hT1]; exact State.heap_pushCell_size _ _
  have d3' : decode c.code (pc + 3) = .ok (.dup, 1) := by rw [hb]; exact d3
  have d4' : decode c.code (pc + 4) = .ok (.ldc is, 2) := by rw [hb]; exact d4
  have hstr' : vk_R own is text sa s' := vk_R.warm hW0 hstr
  obtain ⟨U, hsteps, hrun, hend, hW, hsame, ce, hce, hO⟩ := X₁.ctorThrowS hexec htr (own := own) (cls := cls) (names := names) (ic := ic) hown' hcls hnames h (fun x hx => nomatch hx) hfX hkX hcellA (by rw [hhp, hT]; exact Nat.le_refl _) (msg := .ref sa) rfl
    (g := { method := m, pc := pc + 6, locals := ls, stack := .ref sa :: .ref T.heap.size :: .ref T.heap.size :: rest, locked := none }) rfl hsize rfl rfl (rest := rest) rfl
    (by rw [hb]; exact d6) (by rw [hb]; exact d9) hout hRframes (by simp only [List.map_cons, List.sum_cons, hcat]; omega) hlocks
  obtain ⟨f1, f2⟩ := vx_frame hsame
  rw [hhp] at f1 f2
  have hWs : s.WarmedH U.vm := State.WarmedH.trans hW0 hW
  have hcl : s.vm.findClass cls = some ce.cls := by
    have h9 := hO.cls
    rw [hvm] at h9
    exact h9
  have hall : s.sameButNew ({ U with vm := s.vm } : State) locs mc ms := by
    subst hA
    obtain ⟨e1, e2⟩ := hsame
    rw [State.setFrames_setFrames] at e1
    have h2 : (T.setVm s.vm).sameButNew ({ U with vm := s.vm } : State) [] (0 + 1) (0 + 6) := ⟨e1, e2⟩
    have h3 := X.same.trans h2
    rw [List.append_nil] at h3
    exact h3.mono hc hs
  refine ⟨U, ?_, .threw T.heap.size, hrun, hend, Or.inr ⟨T.heap.size, rfl, cls, ce, locs, hx U hWs.alike f1 (fun q hq => f2 q hq (fun z hz => nomatch hz)), hce, hO.vm, hcl, hWs, hall, hf⟩⟩
  refine st1 _ ?_
  show Steps p.tables e below (T1.setTop { method := m, pc := pc + 3, locals := ls, stack := .ref T.heap.size :: rest, locked := none }) _
  jvm_step X₁.here [X₁.here.top, hexec, d3', Value.category]
  exact X₁.ldcString hexec (own := own) (text := text) (index := is) (a := sa) hown' hstr'.1 hstr'.2
    (g := { method := m, pc := pc + 4, locals := ls, stack := .ref T.heap.size :: .ref T.heap.size :: rest, locked := none }) rfl d4' _ hsteps
/-- 'throw new E("text")', the text by a wide index -/
theorem vx_throwSW {cc : ByteArray} {pc : Nat} (hexec : p.tables.exec = Jvm.exec) (hb : c.code = cc) (hl : l.stackTraces = false) {own cls text : String} {names : List String} {ik is ic mc ms sa : Nat} {A : Nat → Prop}
    (hown : s.vm.findClass own = some m.cls) (hcls : Bundle.fit cls = true) (hnames : ∀ n ∈ names, Bundle.fit n = true)
    (hk : (Cond.classLink own ik cls).before args s = true) (hini : (Cond.initialized cls).before args s = true) (hstr : vk_R own is text sa s) (hat : ∀ w ∈ vx_atS own ic cls names, w.before args s = true)
    (hgood : ∀ w ∈ Cond.classLink own ik cls :: Cond.initialized cls :: vx_atS own ic cls names, vx_ot w = true)
    (hU : vx_Zq Bundle.tN "UNASSIGNED_STACK" Bundle.steD A s s.heap) (hN : vx_Zq Bundle.tN "SUPPRESSED_SENTINEL" Bundle.listD A s s.heap) (hS : va_S A s.heap H locs) (hsize : ls.size = c.maxLocals)
    (d0 : decode cc pc = .ok (.new ik, 3)) (d3 : decode cc (pc + 3) = .ok (.dup, 1)) (d4 : decode cc (pc + 4) = .ok (.ldc_w is, 3)) (d7 : decode cc (pc + 7) = .ok (.invokespecial ic, 3)) (d10 : decode cc (pc + 10) = .ok (.athrow, 1))
    (hout : ∀ x ∈ c.exceptionTable.toList, covers x (pc + 10) = false)
    (hRframes : names.length + 3 < R.frames) (hRlocals : (rest.map fun v => v.category).sum + (13 * (names.length + 1) + 43) ≤ R.locals) (hRcells : cells + 1 ≤ R.cells) (hRslots : slots + 6 ≤ R.slots) (hlocks : meth.locks = false)
    (hx : ∀ t : State, s.vm.Alike t.vm → H.size ≤ t.heap.size → (∀ q : Nat, q < H.size → t.heap[q]? = H[q]?) → XC cls s t)
    (hf : ∀ z ∈ locs, free z.base) (hc : cells + 1 ≤ mc) (hs : slots + 6 ≤ ms) :
    W p l e R s m args below meth c H locs cells slots (vx_MQ below Qc XC args s mc ms free) (F0 m pc ls rest) := by
  intro T hT X
  have htr : e.platform.stackTraces = false := (show e.platform.stackTraces = l.stackTraces by rw [X.admits.platform]).trans hl
  have Y := vx_rebase X (R' := { frames := R.frames, locals := R.locals, cells := 1, slots := 6 }) (Nat.le_refl _) (Nat.le_refl _) hRcells hRslots
  obtain ⟨s', hA⟩ : ∃ z, z = (T.setVm s.vm).setFrames (.invoking m args :: below) := ⟨_, rfl⟩
  rw [← hA] at Y
  have hvm : s'.vm = s.vm := by rw [hA]; rfl
  have hhp : s'.heap = H := by rw [hA]; exact hT
  have hW0 : s.WarmedH s'.vm := by rw [hvm]; exact State.WarmedH.refl s
  have hat' : ∀ w ∈ vx_atS own ic cls names, w.before args s' = true := fun w hw => vx_ot_at hW0 hvm.symm (hgood w (List.mem_cons_of_mem _ (List.mem_cons_of_mem _ hw))) (hat w hw)
  have hk' : (Cond.classLink own ik cls).before args s' = true := vx_ot_at hW0 hvm.symm (hgood _ List.mem_cons_self) hk
  have hini' : (Cond.initialized cls).before args s' = true := vx_ot_at hW0 hvm.symm (hgood _ (List.mem_cons_of_mem _ List.mem_cons_self)) hini
  have hU' : vx_Zq Bundle.tN "UNASSIGNED_STACK" Bundle.steD A s' s'.heap := by rw [hhp]; exact vx_Zq.moved hW0.alike (hU.kept hS.2.1)
  have hN' : vx_Zq Bundle.tN "SUPPRESSED_SENTINEL" Bundle.listD A s' s'.heap := by rw [hhp]; exact vx_Zq.moved hW0.alike (hN.kept hS.2.1)
  have h : ∀ w ∈ Bundle.ownAtoms own ic cls names, w.before args s' = true := vx_own hat' (vx_isRefq hU'.1) (vx_isRefq hN'.1) hU'.2.word hN'.2.word
  have hown' : s'.vm.findClass own = some m.cls := by rw [hvm]; exact hown
  have hins : (Cond.instantiable cls 6).before args s' = true := h _ (by simp [Bundle.ownAtoms])
  obtain ⟨vm₁, cX, kX, hfX, hkX, -, -, X₁, st1⟩ := Y.newCold hexec (own := own) (C := cls) (index := ik) (n := 6) hown' hk' hins hini'
    (g := F0 m pc ls rest) rfl (by rw [hb]; exact d0) (Nat.le_refl _) (Nat.le_refl _)
  generalize hT1 : (T.setVm vm₁).pushCell { cls := cX, slots := kX.instanceTypes.map defaultValue, vm := .none } = T1 at X₁ st1
  have hcat : (Value.ref T.heap.size).category = 1 := rfl
  have hcellA : T1.heap[T.heap.size]? = some (freshCell cX kX) := by rw [← hT1]; exact State.heap_pushCell_size _ _
  have d3' : decode c.code (pc + 3) = .ok (.dup, 1) := by rw [hb]; exact d3
  have d4' : decode c.code (pc + 4) = .ok (.ldc_w is, 3) := by rw [hb]; exact d4
  have hstr' : vk_R own is text sa s' := vk_R.warm hW0 hstr
  obtain ⟨U, hsteps, hrun, hend, hW, hsame, ce, hce, hO⟩ := X₁.ctorThrowS hexec htr (own := own) (cls := cls) (names := names) (ic := ic) hown' hcls hnames h (fun x hx => nomatch hx) hfX hkX hcellA (by rw [hhp, hT]; exact Nat.le_refl _) (msg := .ref sa) rfl
    (g := { method := m, pc := pc + 7, locals := ls, stack := .ref sa :: .ref T.heap.size :: .ref T.heap.size :: rest, locked := none }) rfl hsize rfl rfl (rest := rest) rfl
    (by rw [hb]; exact d7) (by rw [hb]; exact d10) hout hRframes (by simp only [List.map_cons, List.sum_cons, hcat]; omega) hlocks
  obtain ⟨f1, f2⟩ := vx_frame hsame
  rw [hhp] at f1 f2
  have hWs : s.WarmedH U.vm := State.WarmedH.trans hW0 hW
  have hcl : s.vm.findClass cls = some ce.cls := by
    have h9 := hO.cls
    rw [hvm] at h9
    exact h9
  have hall : s.sameButNew ({ U with vm := s.vm } : State) locs mc ms := by
    subst hA
    obtain ⟨e1, e2⟩ := hsame
    rw [State.setFrames_setFrames] at e1
    have h2 : (T.setVm s.vm).sameButNew ({ U with vm := s.vm } : State) [] (0 + 1) (0 + 6) := ⟨e1, e2⟩
    have h3 := X.same.trans h2
    rw [List.append_nil] at h3
    exact h3.mono hc hs
  refine ⟨U, ?_, .threw T.heap.size, hrun, hend, Or.inr ⟨T.heap.size, rfl, cls, ce, locs, hx U hWs.alike f1 (fun q hq => f2 q hq (fun z hz => nomatch hz)), hce, hO.vm, hcl, hWs, hall, hf⟩⟩
  refine st1 _ ?_
  show Steps p.tables e below (T1.setTop { method := m, pc := pc + 3, locals := ls, stack := .ref T.heap.size :: rest, locked := none }) _
  jvm_step X₁.here [X₁.here.top, hexec, d3', Value.category]
  exact X₁.ldcStringW hexec (own := own) (text := text) (index := is) (a := sa) hown' hstr'.1 hstr'.2
    (g := { method := m, pc := pc + 4, locals := ls, stack := .ref T.heap.size :: .ref T.heap.size :: rest, locked := none }) rfl d4' _ hsteps
end Ends
section Bodies
variable {l : Launch}
theorem vx_ofW {y : MethodName} {ws ws' : List Cond} {rm : Room} {Pc : Array Value → State → Prop} {Qc : Array Value → State → Outcome → State → Prop} {XC : String → State → State → Prop} {mc ms : Nat} {free : Addr → Prop} {cc : ByteArray} {maxL : Nat} {ret : Option FieldType}
    (hy : plainName y.cls = true) (hw : ws = Cond.code y cc maxL ret :: ws')
    (body : ∀ p e s m args below meth c s₁, BodyLoose p l y (headSpec ws rm) cc maxL ret e s m args below meth c s₁ → c.maxLocals = maxL → (∀ x ∈ c.exceptionTable.toList, False) → Pc args s →
      W p l e (headSpec ws rm).room s m args below meth c s.heap [] 0 0 (vx_MQ below Qc XC args s mc ms free) (entryFrame m args maxL)) : vx_Met l y ws rm Pc Qc XC mc ms free := by
  refine MetFree.of_bodyS (code := cc) (maxLocals := maxL) (ret := ret) hy ?_ ?_
  · intro args s m h hn
    obtain ⟨meth, c, h1, h2, h3, h4, h5, h6, -, -⟩ := Cond.code_spec hn (atoms_spec (ws := ws) h _ (by rw [hw]; exact List.mem_cons_self))
    exact ⟨meth, c, h1, h2, h3, h4, h5, h6⟩
  · intro p e s m args below meth c s₁ B hml hP _
    have hh0 : s₁.heap = s.heap := by rw [B.state]; rfl
    have ht : ∀ x ∈ c.exceptionTable.toList, False := by
      obtain ⟨meth9, c9, h1, h2, -, -, -, -, h7, -⟩ := Cond.code_spec B.named (atoms_spec (ws := ws) B.pre _ (by rw [hw]; exact List.mem_cons_self))
      cases Option.some.inj (h1.symm.trans B.method)
      cases Option.some.inj (h2.symm.trans (Stand.of_body B).code)
      intro x hx
      rw [Array.isEmpty_iff.mp h7] at hx
      cases hx
    obtain ⟨t, a1, o, b1, b2, b3⟩ := body p e s m args below meth c s₁ B hml ht hP s₁ hh0 (Stand.of_body B)
    exact ⟨t, o, a1, b1, b2, b3⟩
/-- the table of a body with handlers -/
theorem vx_table {p : Program} {x y : MethodName} {S : Spec} {cc bytes : ByteArray} {maxL maxL' : Nat} {ret ret' : Option FieldType} {e : Env} {s s₁ : State} {m : MethodId} {args : Array Value} {below : List Frame} {meth : Method} {c : Code} {hh : List (Nat × Nat × Nat × Nat)}
    (B : BodyLoose p l y S cc maxL ret e s m args below meth c s₁) (h : (Cond.codeWith y bytes maxL' ret' hh).before args s = true) : c.exceptionTable.toList = tableOf hh := by
  obtain ⟨m9, meth9, c9, hn9, h1, h2, -, -, h6, -⟩ := Cond.codeWith_spec h
  cases Option.some.inj (hn9.symm.trans B.named)
  cases Option.some.inj (h1.symm.trans B.method)
  cases Option.some.inj (h2.symm.trans (Stand.of_body B).code)
  rw [← h6, table_eq]
end Bodies
end VXA
/-! ===== END ===== -/
/-! ===== BEGIN a static call of a method with an exception table ===== -/
section VXS
variable {p : Program} {l : Launch} {e : Env} {R : Room} {s : State} {m : MethodId} {args : Array Value} {below : List Frame} {meth : Method} {c : Code} {T : State} {H : Heap} {locs : List Loc} {cells slots : Nat}
abbrev vx_CSW (R : Room) (s : State) (args : Array Value) (own : String) (index : Nat) (y : MethodName) (bytes : ByteArray) (maxL : Nat) (ret : Option FieldType) (hh : List (Nat × Nat × Nat × Nat)) (ws : List Cond) (rm : Room) (mc ms n : Nat) : Prop :=
  (rm.cells = mc ∧ rm.slots = ms ∧ rm.frames + 1 ≤ R.frames ∧ 8 + (maxL + 11) + rm.locals ≤ R.locals ∧ (∀ w ∈ ws, ∀ (a' : Array Value) (U : State), s.WarmedH U.vm → w.before a' U = true) ∧ Cond.codeWith y bytes maxL ret hh ∈ ws) ∧
  (Cond.codeWith y bytes maxL ret hh).before args s = true ∧ (Cond.initialized y.cls).before args s = true ∧ (y.cls ≠ "java/lang/invoke/MethodHandle" ∧ y.cls ≠ "java/lang/invoke/VarHandle") ∧
  (∀ sig, parseMethodDescriptor y.desc = some sig → n = sig.parameters.length) ∧ (Cond.methodLink own index y).before args s = true ∧ (Cond.static y).before args s = true
theorem vx_cwSW {own : String} {index maxL mc ms : Nat} {y : MethodName} {bytes : ByteArray} {ret : Option FieldType} {hh : List (Nat × Nat × Nat × Nat)} {Ts ws ws' : List Cond} {rm : Room} (n : Nat) (ht : ∀ w ∈ Ts, w.before args s = true) (hT : GoodIn Ts (va_wsS own index y ws)) (hw : ws = Cond.codeWith y bytes maxL ret hh :: ws') (hrc : rm.cells = mc) (hrs : rm.slots = ms)
    (hd : y.cls ≠ "java/lang/invoke/MethodHandle" ∧ y.cls ≠ "java/lang/invoke/VarHandle" ∧ (parseMethodDescriptor y.desc).map (fun d => d.parameters.length) = some n) (hR : rm.frames + 1 ≤ R.frames ∧ 8 + (maxL + 11) + rm.locals ≤ R.locals) :
    vx_CSW R s args own index y bytes maxL ret hh ws rm mc ms n := by
  have ok : ∀ w ∈ va_wsS own index y ws, w.before args s = true := fun w h => ht w (hT w h).1
  have hG : GoodIn Ts ws := fun w h => hT w (by unfold va_wsS; exact List.mem_append_right _ h)
  have hc : Cond.codeWith y bytes maxL ret hh ∈ ws := by rw [hw]; exact List.mem_cons_self
  refine ⟨⟨hrc, hrs, hR.1, hR.2, pay_in ht hG, hc⟩, ht _ (hG _ hc).1, ok _ (by simp [va_wsS]), ⟨hd.1, hd.2.1⟩, fun sig h => ?_, ok _ (by simp [va_wsS]), ok _ (by simp [va_wsS])⟩
  have h2 := hd.2.2
  rw [h] at h2
  exact (Option.some.inj h2).symm
theorem vx_callSW (X : Stand p l e R s m args below meth c T locs cells slots) (hexec : p.tables.exec = Jvm.exec) {own : String} {index : Nat} {y : MethodName} {bytes : ByteArray} {maxL : Nat} {ret : Option FieldType} {hh : List (Nat × Nat × Nat × Nat)}
    (hown : s.vm.findClass own = some m.cls) (hlink : (Cond.methodLink own index y).before args s = true) (hstat : (Cond.static y).before args s = true) (hinit : (Cond.initialized y.cls).before args s = true)
    (hcode : (Cond.codeWith y bytes maxL ret hh).before args s = true) (hy : y.cls ≠ "java/lang/invoke/MethodHandle" ∧ y.cls ≠ "java/lang/invoke/VarHandle")
    {W9 : Nat} {Pre : Pt → Array Value → Prop} {Post : Pt → Array Value → Option Value → Pt → Prop} (hK : Back l R p e below s args y 3 W9 Pre Post)
    {g : JFrame} (hg : g.method = m) (hsize : g.locals.size = c.maxLocals) {argsL rest : List Value} (hlen : ∀ sig, parseMethodDescriptor y.desc = some sig → argsL.length = sig.parameters.length)
    (hstack : g.stack = argsL.reverse ++ rest) (hW : 2 * g.monitorRoom + (rest.map fun v => v.category).sum ≤ W9) (hdg : decode c.code g.pc = .ok (.invokestatic index, 3))
    (hpre : ∀ vm₁, s.WarmedH vm₁ → Pre ⟨T.setVm vm₁, locs, cells, slots⟩ argsL.toArray) :
    ∃ (v : Option Value) (vm₁ : Vm) (B : Pt), s.WarmedH vm₁ ∧ Stand p l e R s m args below meth c B.U B.locs B.cells B.slots ∧ Post ⟨T.setVm vm₁, locs, cells, slots⟩ argsL.toArray v B ∧
      ∀ target, Steps p.tables e below (B.U.setTop { g with pc := g.pc + 3, stack := v.toList ++ rest }) target → Steps p.tables e below (T.setTop g) target := by
  obtain ⟨mk, methM, cM, hnamed, hmethM, -, -, -, -, -, -, hsigM⟩ := Cond.codeWith_spec hcode
  have hstatic : methM.isStatic = true := Cond.static_spec hnamed hmethM hstat
  obtain ⟨kP, hkP, -⟩ := className_of_methodNamed hnamed
  have hinitP : kP.init = .initialized := Cond.initialized_spec (findClass_of_methodNamed hnamed) hkP hinit
  obtain ⟨vm₁, X₁, hstep₁⟩ := X.invokestatic hexec hown hlink hnamed hmethM hstatic hkP hinitP hy (g := g) hg (argsL := argsL) (rest := rest) (hlen _ hsigM) hstack hdg
  obtain ⟨v, B, X', hpost, hsteps⟩ := hK m meth c ⟨T.setVm vm₁, locs, cells, slots⟩ { g with stack := rest } (.invokestatic index) mk argsL.toArray X₁ hg hsize hdg hW (X₁.named hnamed) (hpre vm₁ X₁.warmed)
  exact ⟨v, vm₁, B, X₁.warmed, X', hpost, fun target h => hstep₁ _ fun acts => by rw [doInvoke_state]; exact hsteps.trans h⟩
theorem vx_runSW {y : MethodName} {bytes cc : ByteArray} {maxL nL mc ms n index : Nat} {ret : Option FieldType} {hh : List (Nat × Nat × Nat × Nat)} {ws : List Cond} {rm : Room} {Pc : Array Value → State → Prop} {Qc : Array Value → State → Outcome → State → Prop} {free : Addr → Prop} {Ts : List Cond} {own : String} {As rest : List Value} {g : JFrame}
    (S : CallFix p m c cc nL s args Ts own) (hM : Met l y ws rm Pc Qc mc ms free) (cw : vx_CSW R s args own index y bytes maxL ret hh ws rm mc ms n) (hp : PreS s H Pc As)
    (hg : g.method = m) (hn : As.length = n) (hsize : g.locals.size = nL) (hstack : g.stack = As.reverse ++ rest) (hW : 2 * g.monitorRoom + (rest.map fun v => v.category).sum ≤ 8) (hdg : decode cc g.pc = .ok (.invokestatic index, 3)) (hf : cells + mc ≤ R.cells ∧ slots + ms ≤ R.slots) :
    va_Run p l e R s m args below meth c H locs cells slots mc ms g rest (Qc As.toArray) (free) := by
  obtain ⟨⟨hrc, hrs, hfr, hlo, hws, hcw⟩, hcode, hini, hy, hlen, hl, hstt⟩ := cw
  have hK : Back l R p e below s args y 3 8 (PreOf R mc ms Pc) (PostOf Qc mc ms free) := va_backW (hh := hh) (bytes := bytes) (maxL := maxL) (ret := ret) hM hp.1 hrc hrs hfr hlo hws hcw (fun a' U hW => word_at hW (Or.inl (by first | rfl | simp [Cond.onTables, Cond.keeps, Cond.steady])) hini)
  obtain ⟨hx, hb, hml, ho, -⟩ := S
  intro T hT X
  obtain ⟨v, vm₁, ⟨U', l2, c2, s2⟩, hW₁, X', ⟨g', mk, t, L, e1, e2, hq, h1, hL, h2, h3⟩, st⟩ := vx_callSW X hx (hh := hh) (bytes := bytes) (maxL := maxL) (ret := ret) ho hl hstt hini hcode hy hK hg (hsize.trans hml.symm) (argsL := As) (rest := rest) (fun sig h => hn.trans (hlen sig h)) hstack hW (by rw [hb]; exact hdg)
    (fun vm₁ hW₁ => ⟨hf.1, hf.2, hp.2 (T.setVm vm₁) hT hW₁⟩)
  dsimp only [Pt.U, Pt.locs, Pt.cells, Pt.slots] at X' e1 e2 h1 h2 h3 st
  subst h1; subst h2; subst h3
  exact ⟨v, (T.setVm vm₁).calling g' mk As.toArray, t, U', L, hT, X', hL, e1, e2, hq, st⟩
/-- not caught here, past rows that name other classes: it goes on to the caller -/
theorem vx_outP {p : Program} {l : Launch} {e : Env} {R : Room} {s : State} {m : MethodId} {args : Array Value} {below : List Frame} {meth : Method} {c : Code} {H : Heap} {locs : List Loc} {cells slots : Nat} {free : Addr → Prop} {ls : Array Slot} {rest : List Value} {Qc : Array Value → State → Outcome → State → Prop} {XC : String → State → State → Prop}
    {pc : Nat} {own E : String} {ce : Cell} {q : Addr} {mc ms : Nat} (hown : s.vm.findClass own = some m.cls) (hlocks : meth.locks = false)
    (hpass : ∀ z ∈ c.exceptionTable.toList, covers z pc = false ∨ (z.catchType ≠ 0 ∧ ∃ nm : String, (Cond.classLink own z.catchType nm).before args s = true ∧ va_Nc E nm s)) (hcell : H[q]? = some ce) (hv : ce.vm = .none) (hcl : s.vm.findClass E = some ce.cls)
    (hx : ∀ t : State, t.heap = H → s.vm.Alike t.vm → XC E s t) (hf : ∀ z ∈ locs, free z.base) (hc : cells ≤ mc) (hs : slots ≤ ms) :
    vx_W p l e R s m args below meth c H locs cells slots (vx_MQ below Qc XC args s mc ms free) (F0 m pc ls rest) q := by
  intro T hT X
  have hpl : e.platform.magicAccessors = ({} : Platform).magicAccessors := by rw [X.admits.platform]
  obtain ⟨vm', hW', X', st⟩ := X.outThrough hlocks q (g := F0 m pc ls rest) rfl rfl rfl (cell := ce) (by rw [hT]; exact hcell) (by rw [hv]; rfl)
    (by obtain ⟨k9, h9, -⟩ := Vm.findClass_spec hcl; exact ⟨k9, h9⟩) (fun z hz => by
      rcases hpass z hz with h | ⟨hz0, nm, hl1, hn1⟩
      · exact Or.inl h
      · obtain ⟨c6, hc6, hcl6⟩ := Cond.classLink_spec hown hl1 e.platform hpl
        obtain ⟨a8, b8, h1, h2, h3⟩ := hn1
        cases Option.some.inj (h1.symm.trans hcl)
        cases Option.some.inj (h2.symm.trans hc6)
        exact Or.inr ⟨hz0, _, hcl6, h3⟩)
  obtain ⟨g₀, hfr⟩ := X'.frames_eq
  have hcell9 : ((T.setVm vm').setFrames (.throwing q :: below)).heap[q]? = some ce := by
    show T.heap[q]? = some ce
    rw [hT]; exact hcell
  have hend : Ended ((T.setVm vm').setFrames (.throwing q :: below)) below (.threw q) := State.frames_setFrames _ (State.cur_lt_of_frames hfr)
  refine ⟨(T.setVm vm').setFrames (.throwing q :: below), ?_, .threw q, X'.here.running, hend, Or.inr ⟨q, rfl, E, ce, locs, hx _ hT (X'.ends _).1.alike, hcell9, hv, hcl, (X'.ends _).1, (X'.ends _).2.mono hc hs, hf⟩⟩
  rw [X.pushThrowing_eq]
  exact st
/-- a thing of a world lies in the heap -/
theorem vx_lt {D : va_G} {cl : List vw_C} {ws : va_W} {H1 : Heap} (h : va_P D cl ws H1) {k : Nat} {q : Nat × va_E} (hk : ws[k]? = some q) : q.1 < H1.size := (h k q hk).lt
end VXS
/-! ===== END ===== -/
/-! ===== BEGIN methods with a table of their own: called by a name, returning or throwing ===== -/
section VXH
/-! vx_backW, vx_callVX, vx_callSX, vx_callVW, vx_runVW, vx_runVX, vx_runSX, vx_ofWH follow the same proofs as their sisters above (Free/Laws.lean, Shelf42/LK1.lean); vx_outP calls Shelf42/NT130.lean (outThrough). -/
section
variable {l : Launch} {R : Room} {p : Program} {e : Env} {below : List Frame} {s : State} {sargs : Array Value} {y : MethodName} {len W9 : Nat}
theorem vx_backW {ws : List Cond} {rm : Room} {Pc : Array Value → State → Prop} {Qc : Array Value → State → Outcome → State → Prop} {XC : String → State → State → Prop} {mc ms : Nat} {free : Addr → Prop} {bytes : ByteArray} {maxL : Nat} {ret : Option FieldType} {hh : List (Nat × Nat × Nat × Nat)}
    (hM : vx_Met l y ws rm Pc Qc XC mc ms free) (hblind : FrameBlind Pc) (hrc : rm.cells = mc) (hrs : rm.slots = ms)
    (hframes : rm.frames + 1 ≤ R.frames) (hlocals : W9 + (maxL + 11) + rm.locals ≤ R.locals)
    (hws : ∀ w ∈ ws, ∀ a' U, s.WarmedH U.vm → w.before a' U = true) (hcode : Cond.codeWith y bytes maxL ret hh ∈ ws) (hinit : ∀ a' U, s.WarmedH U.vm → (Cond.initialized y.cls).before a' U = true) :
    vx_Back l R p e below s sargs y len W9 (PreOf R mc ms Pc) (PostOf Qc mc ms free) (vx_Post XC mc ms free) := by
  intro m meth c A g ig mk a X hg hsize hdg hW hn hp
  have h1 : (headSpec ws rm).pre.before a A.U = true := atoms_intro fun w hw => hws w hw _ _ X.warmed
  have h2 : (Cond.codeWith y bytes maxL ret hh).before a A.U = true := hws _ hcode _ _ X.warmed
  have h3 : (Cond.initialized y.cls).before a A.U = true := hinit _ _ X.warmed
  have h4 : A.cells + (headSpec ws rm).room.cells ≤ R.cells := by rw [show (headSpec ws rm).room.cells = mc from hrc]; exact hp.1
  have h5 : A.slots + (headSpec ws rm).room.slots ≤ R.slots := by rw [show (headSpec ws rm).room.slots = ms from hrs]; exact hp.2.1
  have hPc : Pc a (A.U.calling g mk a) := hblind _ _ _ _ hp.2.2
  obtain ⟨U, Ls, c0, s0⟩ := A
  dsimp only [Pt.U, Pt.locs, Pt.cells, Pt.slots] at h1 h2 h3 h4 h5 X hn hPc ⊢
  obtain ⟨m9, methY, cY, hn9, hmY, hcY, -, hlY, -⟩ := Cond.codeWith_spec h2
  cases Option.some.inj (hn9.symm.trans hn)
  obtain ⟨kY, hkY, -⟩ := className_of_methodNamed hn
  have hinitY : kY.init = .initialized := Cond.initialized_spec (findClass_of_methodNamed hn) hkY h3
  have h : At U g.method c below := by rw [hg]; exact X.here
  have hlocals9 : W9 + (maxL + 11) + (headSpec ws rm).room.locals ≤ R.locals := hlocals
  have happ : (headSpec ws rm).appliesLoose y e.platform (U.calling g mk a) = true :=
    Spec.appliesLoose_calling (g := g) h hdg hn hkY hinitY
      (X.room_calling (g := g) (R' := (headSpec ws rm).room) hsize hmY hcY hframes (by rw [hlY]; omega) h4 h5) h1
  obtain ⟨mid, hmid⟩ := h.above
  have hfr : (U.setTop g).frames = (.java g :: mid) ++ below := by rw [State.frames_setTop' g h.top, hmid]; rfl
  obtain ⟨o, s₂, hsteps, -, hend, hq⟩ := Steps.callFree hM p X.admits X.cas X.clock (acts := []) hfr happ hPc trivial
  have hq' : vx_Q Qc XC mc ms free a (U.calling g mk a) o s₂ := hq
  rw [State.frames_setTop' g h.top] at hend
  obtain ⟨g₀, hg0⟩ := Option.isSome_iff_exists.mp h.top
  obtain ⟨r, hr⟩ := State.topJava?_eq_some.mp hg0
  have hr' : (({ U with heap := s₂.heap, slotsUsed := s₂.slotsUsed } : State).setVm s₂.vm).frames = .java g₀ :: r := hr
  rcases hq' with ⟨hqc, L, hfe, hL⟩ | ⟨q, rfl, E, ce, L, hx, hce, hcv, hcl, hW₂, hsm, hL⟩
  · obtain ⟨⟨v, rfl⟩, hW₂, e2, q2, q3, q4, q5, q6⟩ := id hfe
    have e3 : s₂ = ({ (U.calling g mk a).setFrames s₂.frames with heap := s₂.heap, slotsUsed := s₂.slotsUsed } : State).setVm s₂.vm := by
      have : s₂ = ({ s₂ with vm := (U.calling g mk a).vm } : State).setVm s₂.vm := rfl
      rw [e2] at this
      exact this
    obtain ⟨c₂, i₂, len₂, hc₂, hd₂, hf₂⟩ := hend
    have hW' : U.WarmedH s₂.vm := hW₂
    have hcc : c₂ = c := by
      have h1 : s₂.code? g.method = U.code? g.method := by
        rw [State.code?_eq, State.code?_eq, hW'.alike.method?]
      exact Option.some.inj (hc₂.symm.trans (h1.trans h.code))
    subst hcc
    have hlen : len₂ = len := by rw [hdg] at hd₂; cases hd₂; rfl
    subst hlen
    have hs₂ : s₂ = (({ U with heap := s₂.heap, slotsUsed := s₂.slotsUsed } : State).setVm s₂.vm).setTop { g with pc := g.pc + len₂, stack := v.toList ++ g.stack } := by
      refine e3.trans ?_
      rw [hf₂, State.calling_eq h.top, State.setFrames_setFrames, State.setTop_of_frames _ hr', hr]
      rfl
    have hsame : U.sameButNew ({ U with heap := s₂.heap, slotsUsed := s₂.slotsUsed } : State) L mc ms := by
      refine ⟨?_, q2, q3, q4, q5, q6⟩
      obtain ⟨t, ht, -⟩ := State.frames_cons hr
      show ({ U with heap := s₂.heap, slotsUsed := s₂.slotsUsed } : State) = { U.setFrames U.frames with heap := s₂.heap, slotsUsed := s₂.slotsUsed }
      rw [State.setFrames_self ht]
    subst hg
    refine Or.inl ⟨v, ⟨(({ U with heap := s₂.heap, slotsUsed := s₂.slotsUsed } : State).setVm s₂.vm), Ls ++ L, c0 + mc, s0 + ms⟩,
      ⟨X.admits, X.cas, X.clock, X.frames, X.room, X.hears, X.method, X.code, (X.here.setHeapUsed s₂.heap s₂.slotsUsed).setVm hW'.alike, X.tail, State.WarmedH.trans X.warmed hW', X.limits, X.bytes, X.same.trans (hsame.setVm s.vm)⟩,
      ⟨g, mk, s₂, L, rfl, rfl, hqc, rfl, hL, rfl, rfl⟩, ?_⟩
    show Steps p.tables e below _ ((({ U with heap := s₂.heap, slotsUsed := s₂.slotsUsed } : State).setVm s₂.vm).setTop { g with pc := g.pc + len₂, stack := v.toList ++ g.stack })
    rw [← hs₂]
    exact hsteps
  · obtain ⟨e2, q2, q3, q4, q5, q6⟩ := id hsm
    have e3 : s₂ = ({ (U.calling g mk a).setFrames s₂.frames with heap := s₂.heap, slotsUsed := s₂.slotsUsed } : State).setVm s₂.vm := by
      have : s₂ = ({ s₂ with vm := (U.calling g mk a).vm } : State).setVm s₂.vm := rfl
      rw [e2] at this
      exact this
    have hf₂ : s₂.frames = .throwing q :: .java g :: U.frames.tail := hend
    have hW' : U.WarmedH s₂.vm := hW₂
    have hs₂ : s₂ = ((({ U with heap := s₂.heap, slotsUsed := s₂.slotsUsed } : State).setVm s₂.vm).setTop g).pushFrame (.throwing q) := by
      refine e3.trans ?_
      rw [hf₂, State.calling_eq h.top, State.setFrames_setFrames, State.pushFrame, State.frames_setTop _ hr', State.setTop_of_frames _ hr', State.setFrames_setFrames, hr]
      rfl
    have hsame : U.sameButNew ({ U with heap := s₂.heap, slotsUsed := s₂.slotsUsed } : State) L mc ms := by
      refine ⟨?_, q2, q3, q4, q5, q6⟩
      obtain ⟨t, ht, -⟩ := State.frames_cons hr
      show ({ U with heap := s₂.heap, slotsUsed := s₂.slotsUsed } : State) = { U.setFrames U.frames with heap := s₂.heap, slotsUsed := s₂.slotsUsed }
      rw [State.setFrames_self ht]
    subst hg
    refine Or.inr ⟨q, ⟨(({ U with heap := s₂.heap, slotsUsed := s₂.slotsUsed } : State).setVm s₂.vm), Ls ++ L, c0 + mc, s0 + ms⟩,
      ⟨X.admits, X.cas, X.clock, X.frames, X.room, X.hears, X.method, X.code, (X.here.setHeapUsed s₂.heap s₂.slotsUsed).setVm hW'.alike, X.tail, State.WarmedH.trans X.warmed hW', X.limits, X.bytes, X.same.trans (hsame.setVm s.vm)⟩,
      ⟨g, mk, s₂, L, E, ce, rfl, rfl, hx, hce, hcv, hcl, rfl, hL, rfl, rfl⟩, ?_⟩
    show Steps p.tables e below _ (((({ U with heap := s₂.heap, slotsUsed := s₂.slotsUsed } : State).setVm s₂.vm).setTop g).pushFrame (.throwing q))
    rw [← hs₂]
    exact hsteps
end
variable {p : Program} {l : Launch} {e : Env} {R : Room} {s : State} {m : MethodId} {args : Array Value} {below : List Frame} {meth : Method} {c : Code} {T : State} {H : Heap} {locs : List Loc} {cells slots : Nat}
theorem vx_callVX (X : Stand p l e R s m args below meth c T locs cells slots) (hexec : p.tables.exec = Jvm.exec) {own C : String} {index : Nat} {y : MethodName} {bytes : ByteArray} {maxL : Nat} {ret : Option FieldType} {hh : List (Nat × Nat × Nat × Nat)}
    (hown : s.vm.findClass own = some m.cls) (hlink : (Cond.methodLink own index y).before args s = true) (hinst : (Cond.instanceMethod y).before args s = true) (hsel : (Cond.selects C y y).before args s = true)
    (hcode : (Cond.codeWith y bytes maxL ret hh).before args s = true) (hy : y.cls ≠ "java/lang/invoke/MethodHandle" ∧ y.cls ≠ "java/lang/invoke/VarHandle")
    {W9 : Nat} {Pre : Pt → Array Value → Prop} {Post : Pt → Array Value → Option Value → Pt → Prop} {PostX : Pt → Array Value → Addr → Pt → Prop} (hK : vx_Back l R p e below s args y 3 W9 Pre Post PostX)
    {b : Addr} {cellB : Cell} (hcell : T.heap[b]? = some cellB) (hobj : cellB.vm.isStatics = false) (hcls : s.vm.findClass C = some cellB.cls)
    {g : JFrame} (hg : g.method = m) (hsize : g.locals.size = c.maxLocals) {argsL rest : List Value} (hlen : ∀ sig, parseMethodDescriptor y.desc = some sig → argsL.length = sig.parameters.length)
    (hstack : g.stack = argsL.reverse ++ .ref b :: rest) (hW : 2 * g.monitorRoom + (rest.map fun v => v.category).sum ≤ W9) (hdg : decode c.code g.pc = .ok (.invokevirtual index, 3))
    (hpre : ∀ vm₁, s.WarmedH vm₁ → Pre ⟨T.setVm vm₁, locs, cells, slots⟩ (Value.ref b :: argsL).toArray) :
    (∃ (v : Option Value) (vm₁ : Vm) (B : Pt), s.WarmedH vm₁ ∧ Stand p l e R s m args below meth c B.U B.locs B.cells B.slots ∧ Post ⟨T.setVm vm₁, locs, cells, slots⟩ (Value.ref b :: argsL).toArray v B ∧
      ∀ target, Steps p.tables e below (B.U.setTop { g with pc := g.pc + 3, stack := v.toList ++ rest }) target → Steps p.tables e below (T.setTop g) target) ∨
    (∃ (q : Addr) (vm₁ : Vm) (B : Pt), s.WarmedH vm₁ ∧ Stand p l e R s m args below meth c B.U B.locs B.cells B.slots ∧ PostX ⟨T.setVm vm₁, locs, cells, slots⟩ (Value.ref b :: argsL).toArray q B ∧
      Steps p.tables e below (T.setTop g) ((B.U.setTop { g with stack := rest }).pushFrame (.throwing q))) := by
  obtain ⟨mk, methM, hnamed, hmethM, hstM, habM⟩ := Cond.instanceMethod_spec hinst
  obtain ⟨m8, methM', cM, hn8, hmethM', -, -, -, -, -, -, hsigM⟩ := Cond.codeWith_spec hcode
  cases Option.some.inj (hn8.symm.trans hnamed)
  cases hmethM.symm.trans hmethM'
  obtain ⟨c2, r2, m2, q1, q2, q3, q4, kP, hkP, hkPi⟩ := Cond.selects_spec hsel
  cases hcls.symm.trans q1
  cases (State.methodFound?_of_named hnamed hy).symm.trans q2
  cases hnamed.symm.trans q3
  have hselP : selectMethod e.platform s.vm cellB.cls mk = .method mk := by rw [Launch.admits_selectMethod X.admits]; exact q4
  obtain ⟨vm₁, X₁, hstep₁⟩ := X.invokevirtual hexec hown hlink hnamed hmethM hstM hkP hkPi hy (a := b) (cell := cellB) hcell
    (fun z h => by rw [h] at hobj; cases hobj) hselP hmethM habM hkP hkPi (g := g) hg (argsL := argsL) (rest := rest) (hlen _ hsigM) hstack hdg
  rcases hK m meth c ⟨T.setVm vm₁, locs, cells, slots⟩ { g with stack := rest } (.invokevirtual index) mk (Value.ref b :: argsL).toArray X₁ hg hsize hdg hW (X₁.named hnamed) (hpre vm₁ X₁.warmed) with ⟨v, B, X', hpost, hsteps⟩ | ⟨q, B, X', hpost, hsteps⟩
  · exact Or.inl ⟨v, vm₁, B, X₁.warmed, X', hpost, fun target h => hstep₁ _ fun acts => by rw [doInvoke_state]; exact hsteps.trans h⟩
  · exact Or.inr ⟨q, vm₁, B, X₁.warmed, X', hpost, hstep₁ _ fun acts => by rw [doInvoke_state]; exact hsteps⟩
theorem vx_callSX (X : Stand p l e R s m args below meth c T locs cells slots) (hexec : p.tables.exec = Jvm.exec) {own : String} {index : Nat} {y : MethodName} {bytes : ByteArray} {maxL : Nat} {ret : Option FieldType} {hh : List (Nat × Nat × Nat × Nat)}
    (hown : s.vm.findClass own = some m.cls) (hlink : (Cond.methodLink own index y).before args s = true) (hstat : (Cond.static y).before args s = true) (hinit : (Cond.initialized y.cls).before args s = true)
    (hcode : (Cond.codeWith y bytes maxL ret hh).before args s = true) (hy : y.cls ≠ "java/lang/invoke/MethodHandle" ∧ y.cls ≠ "java/lang/invoke/VarHandle")
    {W9 : Nat} {Pre : Pt → Array Value → Prop} {Post : Pt → Array Value → Option Value → Pt → Prop} {PostX : Pt → Array Value → Addr → Pt → Prop} (hK : vx_Back l R p e below s args y 3 W9 Pre Post PostX)
    {g : JFrame} (hg : g.method = m) (hsize : g.locals.size = c.maxLocals) {argsL rest : List Value} (hlen : ∀ sig, parseMethodDescriptor y.desc = some sig → argsL.length = sig.parameters.length)
    (hstack : g.stack = argsL.reverse ++ rest) (hW : 2 * g.monitorRoom + (rest.map fun v => v.category).sum ≤ W9) (hdg : decode c.code g.pc = .ok (.invokestatic index, 3))
    (hpre : ∀ vm₁, s.WarmedH vm₁ → Pre ⟨T.setVm vm₁, locs, cells, slots⟩ argsL.toArray) :
    (∃ (v : Option Value) (vm₁ : Vm) (B : Pt), s.WarmedH vm₁ ∧ Stand p l e R s m args below meth c B.U B.locs B.cells B.slots ∧ Post ⟨T.setVm vm₁, locs, cells, slots⟩ argsL.toArray v B ∧
      ∀ target, Steps p.tables e below (B.U.setTop { g with pc := g.pc + 3, stack := v.toList ++ rest }) target → Steps p.tables e below (T.setTop g) target) ∨
    (∃ (q : Addr) (vm₁ : Vm) (B : Pt), s.WarmedH vm₁ ∧ Stand p l e R s m args below meth c B.U B.locs B.cells B.slots ∧ PostX ⟨T.setVm vm₁, locs, cells, slots⟩ argsL.toArray q B ∧
      Steps p.tables e below (T.setTop g) ((B.U.setTop { g with stack := rest }).pushFrame (.throwing q))) := by
  obtain ⟨mk, methM, cM, hnamed, hmethM, -, -, -, -, -, -, hsigM⟩ := Cond.codeWith_spec hcode
  have hstatic : methM.isStatic = true := Cond.static_spec hnamed hmethM hstat
  obtain ⟨kP, hkP, -⟩ := className_of_methodNamed hnamed
  have hinitP : kP.init = .initialized := Cond.initialized_spec (findClass_of_methodNamed hnamed) hkP hinit
  obtain ⟨vm₁, X₁, hstep₁⟩ := X.invokestatic hexec hown hlink hnamed hmethM hstatic hkP hinitP hy (g := g) hg (argsL := argsL) (rest := rest) (hlen _ hsigM) hstack hdg
  rcases hK m meth c ⟨T.setVm vm₁, locs, cells, slots⟩ { g with stack := rest } (.invokestatic index) mk argsL.toArray X₁ hg hsize hdg hW (X₁.named hnamed) (hpre vm₁ X₁.warmed) with ⟨v, B, X', hpost, hsteps⟩ | ⟨q, B, X', hpost, hsteps⟩
  · exact Or.inl ⟨v, vm₁, B, X₁.warmed, X', hpost, fun target h => hstep₁ _ fun acts => by rw [doInvoke_state]; exact hsteps.trans h⟩
  · exact Or.inr ⟨q, vm₁, B, X₁.warmed, X', hpost, hstep₁ _ fun acts => by rw [doInvoke_state]; exact hsteps⟩
theorem vx_callVW (X : Stand p l e R s m args below meth c T locs cells slots) (hexec : p.tables.exec = Jvm.exec) {own C : String} {index : Nat} {y : MethodName} {bytes : ByteArray} {maxL : Nat} {ret : Option FieldType} {hh : List (Nat × Nat × Nat × Nat)}
    (hown : s.vm.findClass own = some m.cls) (hlink : (Cond.methodLink own index y).before args s = true) (hinst : (Cond.instanceMethod y).before args s = true) (hsel : (Cond.selects C y y).before args s = true)
    (hcode : (Cond.codeWith y bytes maxL ret hh).before args s = true) (hy : y.cls ≠ "java/lang/invoke/MethodHandle" ∧ y.cls ≠ "java/lang/invoke/VarHandle")
    {W9 : Nat} {Pre : Pt → Array Value → Prop} {Post : Pt → Array Value → Option Value → Pt → Prop} (hK : Back l R p e below s args y 3 W9 Pre Post)
    {b : Addr} {cellB : Cell} (hcell : T.heap[b]? = some cellB) (hobj : cellB.vm.isStatics = false) (hcls : s.vm.findClass C = some cellB.cls)
    {g : JFrame} (hg : g.method = m) (hsize : g.locals.size = c.maxLocals) {argsL rest : List Value} (hlen : ∀ sig, parseMethodDescriptor y.desc = some sig → argsL.length = sig.parameters.length)
    (hstack : g.stack = argsL.reverse ++ .ref b :: rest) (hW : 2 * g.monitorRoom + (rest.map fun v => v.category).sum ≤ W9) (hdg : decode c.code g.pc = .ok (.invokevirtual index, 3))
    (hpre : ∀ vm₁, s.WarmedH vm₁ → Pre ⟨T.setVm vm₁, locs, cells, slots⟩ (Value.ref b :: argsL).toArray) :
    ∃ (v : Option Value) (vm₁ : Vm) (B : Pt), s.WarmedH vm₁ ∧ Stand p l e R s m args below meth c B.U B.locs B.cells B.slots ∧ Post ⟨T.setVm vm₁, locs, cells, slots⟩ (Value.ref b :: argsL).toArray v B ∧
      ∀ target, Steps p.tables e below (B.U.setTop { g with pc := g.pc + 3, stack := v.toList ++ rest }) target → Steps p.tables e below (T.setTop g) target := by
  obtain ⟨mk, methM, hnamed, hmethM, hstM, habM⟩ := Cond.instanceMethod_spec hinst
  obtain ⟨m8, methM', cM, hn8, hmethM', -, -, -, -, -, -, hsigM⟩ := Cond.codeWith_spec hcode
  cases Option.some.inj (hn8.symm.trans hnamed)
  cases hmethM.symm.trans hmethM'
  obtain ⟨c2, r2, m2, q1, q2, q3, q4, kP, hkP, hkPi⟩ := Cond.selects_spec hsel
  cases hcls.symm.trans q1
  cases (State.methodFound?_of_named hnamed hy).symm.trans q2
  cases hnamed.symm.trans q3
  have hselP : selectMethod e.platform s.vm cellB.cls mk = .method mk := by rw [Launch.admits_selectMethod X.admits]; exact q4
  obtain ⟨vm₁, X₁, hstep₁⟩ := X.invokevirtual hexec hown hlink hnamed hmethM hstM hkP hkPi hy (a := b) (cell := cellB) hcell
    (fun z h => by rw [h] at hobj; cases hobj) hselP hmethM habM hkP hkPi (g := g) hg (argsL := argsL) (rest := rest) (hlen _ hsigM) hstack hdg
  obtain ⟨v, B, X', hpost, hsteps⟩ := hK m meth c ⟨T.setVm vm₁, locs, cells, slots⟩ { g with stack := rest } (.invokevirtual index) mk (Value.ref b :: argsL).toArray X₁ hg hsize hdg hW (X₁.named hnamed) (hpre vm₁ X₁.warmed)
  exact ⟨v, vm₁, B, X₁.warmed, X', hpost, fun target h => hstep₁ _ fun acts => by rw [doInvoke_state]; exact hsteps.trans h⟩
abbrev vx_CVW (R : Room) (s : State) (args : Array Value) (own C : String) (index : Nat) (y : MethodName) (bytes : ByteArray) (maxL : Nat) (ret : Option FieldType) (hh : List (Nat × Nat × Nat × Nat)) (ws : List Cond) (rm : Room) (mc ms n : Nat) : Prop :=
  (rm.cells = mc ∧ rm.slots = ms ∧ rm.frames + 1 ≤ R.frames ∧ 8 + (maxL + 11) + rm.locals ≤ R.locals ∧ (∀ w ∈ ws, ∀ (a' : Array Value) (U : State), s.WarmedH U.vm → w.before a' U = true) ∧ Cond.codeWith y bytes maxL ret hh ∈ ws) ∧
  (Cond.codeWith y bytes maxL ret hh).before args s = true ∧ (Cond.initialized y.cls).before args s = true ∧ (y.cls ≠ "java/lang/invoke/MethodHandle" ∧ y.cls ≠ "java/lang/invoke/VarHandle") ∧
  (∀ sig, parseMethodDescriptor y.desc = some sig → n = sig.parameters.length) ∧ (Cond.methodLink own index y).before args s = true ∧ (Cond.instanceMethod y).before args s = true ∧ (Cond.selects C y y).before args s = true
theorem vx_cwVW {own C : String} {index maxL mc ms : Nat} {y : MethodName} {bytes : ByteArray} {ret : Option FieldType} {hh : List (Nat × Nat × Nat × Nat)} {Ts ws ws' : List Cond} {rm : Room} (n : Nat) (ht : ∀ w ∈ Ts, w.before args s = true) (hT : GoodIn Ts (wsV own index C y ws)) (hw : ws = Cond.codeWith y bytes maxL ret hh :: ws') (hrc : rm.cells = mc) (hrs : rm.slots = ms)
    (hd : y.cls = C ∧ y.cls ≠ "java/lang/invoke/MethodHandle" ∧ y.cls ≠ "java/lang/invoke/VarHandle" ∧ (parseMethodDescriptor y.desc).map (fun d => d.parameters.length) = some n) (hR : rm.frames + 1 ≤ R.frames ∧ 8 + (maxL + 11) + rm.locals ≤ R.locals) :
    vx_CVW R s args own C index y bytes maxL ret hh ws rm mc ms n := by
  obtain ⟨hC, hd⟩ := hd
  subst hC
  have ok : ∀ w ∈ wsV own index y.cls y ws, w.before args s = true := fun w h => ht w (hT w h).1
  have hG : GoodIn Ts ws := fun w h => hT w (by unfold wsV; exact List.mem_append_right _ h)
  have hc : Cond.codeWith y bytes maxL ret hh ∈ ws := by rw [hw]; exact List.mem_cons_self
  refine ⟨⟨hrc, hrs, hR.1, hR.2, pay_in ht hG, hc⟩, ht _ (hG _ hc).1, ok _ (by simp [wsV]), ⟨hd.1, hd.2.1⟩, fun sig h => ?_, ok _ (by simp [wsV]), ok _ (by simp [wsV]), ok _ (by simp [wsV])⟩
  have h2 := hd.2.2
  rw [h] at h2
  exact (Option.some.inj h2).symm
theorem vx_runVW {y : MethodName} {bytes cc : ByteArray} {maxL nL mc ms n index : Nat} {ret : Option FieldType} {hh : List (Nat × Nat × Nat × Nat)} {ws : List Cond} {rm : Room} {Pc : Array Value → State → Prop} {Qc : Array Value → State → Outcome → State → Prop} {free : Addr → Prop} {Ts : List Cond} {own C : String} {b : Addr} {As rest : List Value} {g : JFrame}
    (S : CallFix p m c cc nL s args Ts own) (hM : Met l y ws rm Pc Qc mc ms free) (cw : vx_CVW R s args own C index y bytes maxL ret hh ws rm mc ms n) (hp : PreV s H C b Pc As)
    (hg : g.method = m) (hn : As.length = n) (hsize : g.locals.size = nL) (hstack : g.stack = As.reverse ++ .ref b :: rest) (hW : 2 * g.monitorRoom + (rest.map fun v => v.category).sum ≤ 8) (hdg : decode cc g.pc = .ok (.invokevirtual index, 3)) (hf : cells + mc ≤ R.cells ∧ slots + ms ≤ R.slots) :
    va_Run p l e R s m args below meth c H locs cells slots mc ms g rest (Qc (Value.ref b :: As).toArray) free := by
  obtain ⟨⟨hrc, hrs, hfr, hlo, hws, hcw⟩, hcode, hini, hy, hlen, hl, hin, hse⟩ := cw
  have hK : Back l R p e below s args y 3 8 (PreOf R mc ms Pc) (PostOf Qc mc ms free) := va_backW (hh := hh) (bytes := bytes) (maxL := maxL) (ret := ret) hM hp.1 hrc hrs hfr hlo hws hcw (fun a' U hW => word_at hW (Or.inl (by first | rfl | simp [Cond.onTables, Cond.keeps, Cond.steady])) hini)
  obtain ⟨hx, hb, hml, ho, -⟩ := S
  obtain ⟨-, ⟨cellB, hcB, hoB, hclB⟩, hPc⟩ := hp
  intro T hT X
  obtain ⟨v, vm₁, ⟨U', l2, c2, s2⟩, hW₁, X', ⟨g', mk, t, L, e1, e2, hq, h1, hL, h2, h3⟩, st⟩ := vx_callVW X hx (C := C) (hh := hh) (bytes := bytes) (maxL := maxL) (ret := ret) ho hl hin hse hcode hy hK (by rw [hT]; exact hcB) hoB hclB hg (hsize.trans hml.symm) (argsL := As) (rest := rest) (fun sig h => hn.trans (hlen sig h)) hstack hW (by rw [hb]; exact hdg)
    (fun vm₁ hW₁ => ⟨hf.1, hf.2, hPc (T.setVm vm₁) hT hW₁⟩)
  dsimp only [Pt.U, Pt.locs, Pt.cells, Pt.slots] at X' e1 e2 h1 h2 h3 st
  subst h1; subst h2; subst h3
  exact ⟨v, (T.setVm vm₁).calling g' mk (Value.ref b :: As).toArray, t, U', L, hT, X', hL, e1, e2, hq, st⟩
section
variable {y : MethodName} {bytes cc : ByteArray} {maxL nL mc ms n index : Nat} {ret : Option FieldType} {ws : List Cond} {rm : Room} {Pc : Array Value → State → Prop} {Qc : Array Value → State → Outcome → State → Prop} {XC : String → State → State → Prop} {free : Addr → Prop} {Ts : List Cond} {own C : String} {b : Addr} {As rest : List Value} {g : JFrame}
theorem vx_runVX {hh : List (Nat × Nat × Nat × Nat)} (S : CallFix p m c cc nL s args Ts own) (hM : vx_Met l y ws rm Pc Qc XC mc ms free) (cw : vx_CVW R s args own C index y bytes maxL ret hh ws rm mc ms n) (hp : PreV s H C b Pc As)
    (hg : g.method = m) (hn : As.length = n) (hsize : g.locals.size = nL) (hstack : g.stack = As.reverse ++ .ref b :: rest) (hW : 2 * g.monitorRoom + (rest.map fun v => v.category).sum ≤ 8) (hdg : decode cc g.pc = .ok (.invokevirtual index, 3)) (hf : cells + mc ≤ R.cells ∧ slots + ms ≤ R.slots) :
    vx_Run p l e R s m args below meth c H locs cells slots mc ms g rest (Qc (Value.ref b :: As).toArray) XC free := by
  obtain ⟨⟨hrc, hrs, hfr, hlo, hws, hcw⟩, hcode, hini, hy, hlen, hl, hin, hse⟩ := cw
  have hK : vx_Back l R p e below s args y 3 8 (PreOf R mc ms Pc) (PostOf Qc mc ms free) (vx_Post XC mc ms free) := vx_backW (hh := hh) (bytes := bytes) (maxL := maxL) (ret := ret) hM hp.1 hrc hrs hfr hlo hws hcw (fun a' U hW => word_at hW (Or.inl (by first | rfl | simp [Cond.onTables, Cond.keeps, Cond.steady])) hini)
  obtain ⟨hx, hb, hml, ho, -⟩ := S
  obtain ⟨-, ⟨cellB, hcB, hoB, hclB⟩, hPc⟩ := hp
  intro T hT X
  rcases vx_callVX X hx (C := C) (hh := hh) (bytes := bytes) (maxL := maxL) (ret := ret) ho hl hin hse hcode hy hK (by rw [hT]; exact hcB) hoB hclB hg (hsize.trans hml.symm) (argsL := As) (rest := rest) (fun sig h => hn.trans (hlen sig h)) hstack hW (by rw [hb]; exact hdg)
    (fun vm₁ hW₁ => ⟨hf.1, hf.2, hPc (T.setVm vm₁) hT hW₁⟩) with ⟨v, vm₁, ⟨U', l2, c2, s2⟩, hW₁, X', ⟨g', mk, t, L, e1, e2, hq, h1, hL, h2, h3⟩, st⟩ | ⟨q, vm₁, ⟨U', l2, c2, s2⟩, hW₁, X', ⟨g', mk, t, L, E, ce, e1, e2, hq, hce, hcv, hcl, h1, hL, h2, h3⟩, st⟩
  · dsimp only [Pt.U, Pt.locs, Pt.cells, Pt.slots] at X' e1 e2 h1 h2 h3 st
    subst h1; subst h2; subst h3
    exact Or.inl ⟨v, (T.setVm vm₁).calling g' mk (Value.ref b :: As).toArray, t, U', L, hT, X', hL, e1, e2, hq, st⟩
  · dsimp only [Pt.U, Pt.locs, Pt.cells, Pt.slots] at X' e1 e2 h1 h2 h3 st hcl
    subst h1; subst h2; subst h3
    exact Or.inr ⟨q, (T.setVm vm₁).calling g' mk (Value.ref b :: As).toArray, t, U', L, E, ce, hT, X', hL, e1, e2, hq, hce, hcv, vx_cls hW₁ hcl, st⟩
theorem vx_runSX {hh : List (Nat × Nat × Nat × Nat)} (S : CallFix p m c cc nL s args Ts own) (hM : vx_Met l y ws rm Pc Qc XC mc ms free) (cw : vx_CSW R s args own index y bytes maxL ret hh ws rm mc ms n) (hp : PreS s H Pc As)
    (hg : g.method = m) (hn : As.length = n) (hsize : g.locals.size = nL) (hstack : g.stack = As.reverse ++ rest) (hW : 2 * g.monitorRoom + (rest.map fun v => v.category).sum ≤ 8) (hdg : decode cc g.pc = .ok (.invokestatic index, 3)) (hf : cells + mc ≤ R.cells ∧ slots + ms ≤ R.slots) :
    vx_Run p l e R s m args below meth c H locs cells slots mc ms g rest (Qc As.toArray) XC free := by
  obtain ⟨⟨hrc, hrs, hfr, hlo, hws, hcw⟩, hcode, hini, hy, hlen, hl, hstt⟩ := cw
  have hK : vx_Back l R p e below s args y 3 8 (PreOf R mc ms Pc) (PostOf Qc mc ms free) (vx_Post XC mc ms free) := vx_backW (hh := hh) (bytes := bytes) (maxL := maxL) (ret := ret) hM hp.1 hrc hrs hfr hlo hws hcw (fun a' U hW => word_at hW (Or.inl (by first | rfl | simp [Cond.onTables, Cond.keeps, Cond.steady])) hini)
  obtain ⟨hx, hb, hml, ho, -⟩ := S
  intro T hT X
  rcases vx_callSX X hx (hh := hh) (bytes := bytes) (maxL := maxL) (ret := ret) ho hl hstt hini hcode hy hK hg (hsize.trans hml.symm) (argsL := As) (rest := rest) (fun sig h => hn.trans (hlen sig h)) hstack hW (by rw [hb]; exact hdg)
    (fun vm₁ hW₁ => ⟨hf.1, hf.2, hp.2 (T.setVm vm₁) hT hW₁⟩) with ⟨v, vm₁, ⟨U', l2, c2, s2⟩, hW₁, X', ⟨g', mk, t, L, e1, e2, hq, h1, hL, h2, h3⟩, st⟩ | ⟨q, vm₁, ⟨U', l2, c2, s2⟩, hW₁, X', ⟨g', mk, t, L, E, ce, e1, e2, hq, hce, hcv, hcl, h1, hL, h2, h3⟩, st⟩
  · dsimp only [Pt.U, Pt.locs, Pt.cells, Pt.slots] at X' e1 e2 h1 h2 h3 st
    subst h1; subst h2; subst h3
    exact Or.inl ⟨v, (T.setVm vm₁).calling g' mk As.toArray, t, U', L, hT, X', hL, e1, e2, hq, st⟩
  · dsimp only [Pt.U, Pt.locs, Pt.cells, Pt.slots] at X' e1 e2 h1 h2 h3 st hcl
    subst h1; subst h2; subst h3
    exact Or.inr ⟨q, (T.setVm vm₁).calling g' mk As.toArray, t, U', L, E, ce, hT, X', hL, e1, e2, hq, hce, hcv, vx_cls hW₁ hcl, st⟩
end
end VXH
theorem vx_ofWH {l : Launch} {y : MethodName} {ws ws' : List Cond} {rm : Room} {Pc : Array Value → State → Prop} {Qc : Array Value → State → Outcome → State → Prop} {XC : String → State → State → Prop} {mc ms : Nat} {free : Addr → Prop} {cc : ByteArray} {maxL : Nat} {ret : Option FieldType} {hh : List (Nat × Nat × Nat × Nat)}
    (hy : plainName y.cls = true) (hw : ws = Cond.codeWith y cc maxL ret hh :: ws')
    (body : ∀ p e s m args below meth c s₁, BodyLoose p l y (headSpec ws rm) cc maxL ret e s m args below meth c s₁ → c.maxLocals = maxL → Pc args s →
      W p l e (headSpec ws rm).room s m args below meth c s.heap [] 0 0 (vx_MQ below Qc XC args s mc ms free) (entryFrame m args maxL)) : vx_Met l y ws rm Pc Qc XC mc ms free := by
  refine MetFree.of_bodyS (code := cc) (maxLocals := maxL) (ret := ret) hy ?_ ?_
  · intro args s m h hn
    obtain ⟨m9, meth, c, hn9, h1, h2, h3, h4, -, h5, h6, -⟩ := Cond.codeWith_spec (atoms_spec (ws := ws) h _ (by rw [hw]; exact List.mem_cons_self))
    cases hn.symm.trans hn9
    exact ⟨meth, c, h1, h2, h3, h4, h5, h6⟩
  · intro p e s m args below meth c s₁ B hml hP _
    have hh0 : s₁.heap = s.heap := by rw [B.state]; rfl
    obtain ⟨t, a1, o, b1, b2, b3⟩ := body p e s m args below meth c s₁ B hml hP s₁ hh0 (Stand.of_body B)
    exact ⟨t, o, a1, b1, b2, b3⟩
/-! ===== END ===== -/
end
section
/-! ===== BEGIN printed: names, fields, word lists, decode rows ===== -/
def RX0 : String := "KnobMenu$ActionReader"
def TX0 : u_T := fun k => match k with
  | 0 => ("KnobMenu$ActionReader", "verb", "C", false)
  | _ => ("KnobMenu$ActionReader", "amount", "I", false)
def tyX0 : Nat → FieldType := fun k => match k with
  | 0 => .char
  | _ => .int
abbrev wsX00 : List Cond := u_ws RX0 TX0 2
theorem nmX0 : ∀ a, a < 2 → ∀ b, b < 2 → a ≠ b → (TX0 a).2.1 ≠ (TX0 b).2.1 := by decide +kernel
theorem tyX0_ok : ∀ k, k < 2 → parseFieldDescriptor (TX0 k).2.2.1 = some (tyX0 k) := by decide +kernel
abbrev cX0_init : ByteArray := prog_2_method_1_code
def yX0_init : MethodName := ⟨RX0, "<init>", "()V"⟩
abbrev cX0_begin : ByteArray := prog_2_method_2_code
def yX0_begin : MethodName := ⟨RX0, "begin", "()V"⟩
abbrev cX0_takes : ByteArray := prog_2_method_3_code
def yX0_takes : MethodName := ⟨RX0, "takes", "(C)Z"⟩
abbrev cX0_atEnd : ByteArray := prog_2_method_4_code
def yX0_atEnd : MethodName := ⟨RX0, "atEnd", "()Z"⟩
abbrev cX0_takesVerb : ByteArray := prog_2_method_5_code
def yX0_takesVerb : MethodName := ⟨RX0, "takesVerb", "(C)Z"⟩
abbrev cX0_takesComma : ByteArray := prog_2_method_6_code
def yX0_takesComma : MethodName := ⟨RX0, "takesComma", "()Z"⟩
abbrev cX0_takesDigit : ByteArray := prog_2_method_7_code
def yX0_takesDigit : MethodName := ⟨RX0, "takesDigit", "(I)Z"⟩
abbrev cX0_mostFor : ByteArray := prog_2_method_8_code
def yX0_mostFor : MethodName := ⟨RX0, "mostFor", "(C)I"⟩
def RX1 : String := "KnobMenu$ActionText"
def TX1 : u_T := fun k => match k with
  | 0 => ("KnobMenu$ActionText", "signs", "[C", true)
  | 1 => ("KnobMenu$ActionText", "reader", "LKnobMenu$ActionReader;", true)
  | 2 => ("KnobMenu$ActionText", "length", "I", false)
  | _ => ("KnobMenu$ActionText", "next", "I", false)
def tyX1 : Nat → FieldType := fun k => match k with
  | 0 => .array .char
  | 1 => .object "KnobMenu$ActionReader"
  | 2 => .int
  | _ => .int
abbrev wsX10 : List Cond := u_ws RX1 TX1 4
theorem nmX1 : ∀ a, a < 4 → ∀ b, b < 4 → a ≠ b → (TX1 a).2.1 ≠ (TX1 b).2.1 := by decide +kernel
theorem tyX1_ok : ∀ k, k < 4 → parseFieldDescriptor (TX1 k).2.2.1 = some (tyX1 k) := by decide +kernel
abbrev cX1_init : ByteArray := prog_3_method_1_code
def yX1_init : MethodName := ⟨RX1, "<init>", "()V"⟩
abbrev cX1_keep : ByteArray := prog_3_method_2_code
def yX1_keep : MethodName := ⟨RX1, "keep", "(C)V"⟩
abbrev cX1_empty : ByteArray := prog_3_method_3_code
def yX1_empty : MethodName := ⟨RX1, "empty", "()V"⟩
abbrev cX1_signAt : ByteArray := prog_3_method_4_code
def yX1_signAt : MethodName := ⟨RX1, "signAt", "(I)C"⟩
abbrev cX1_errorIndex : ByteArray := prog_3_method_5_code
def yX1_errorIndex : MethodName := ⟨RX1, "errorIndex", "()I"⟩
abbrev cX1_complete : ByteArray := prog_3_method_6_code
def yX1_complete : MethodName := ⟨RX1, "complete", "()Z"⟩
abbrev cX1_restart : ByteArray := prog_3_method_7_code
def yX1_restart : MethodName := ⟨RX1, "restart", "()V"⟩
abbrev cX1_readAction : ByteArray := prog_3_method_8_code
def yX1_readAction : MethodName := ⟨RX1, "readAction", "()Z"⟩
abbrev cX1_verb : ByteArray := prog_3_method_9_code
def yX1_verb : MethodName := ⟨RX1, "verb", "()C"⟩
abbrev cX1_amount : ByteArray := prog_3_method_10_code
def yX1_amount : MethodName := ⟨RX1, "amount", "()I"⟩
def RX2 : String := "KnobMenu$Device"
def TX2 : u_T := fun k => match k with
  | 0 => ("KnobMenu$Device", "tree", "LKnobMenu$Tree;", true)
  | 1 => ("KnobMenu$Device", "log", "LKnobMenu$EditLog;", true)
  | 2 => ("KnobMenu$Device", "digits", "[I", true)
  | 3 => ("KnobMenu$Device", "settings", "[I", true)
  | 4 => ("KnobMenu$Device", "events", "[I", true)
  | 5 => ("KnobMenu$Device", "shown", "LKnobMenu$Item;", false)
  | 6 => ("KnobMenu$Device", "mode", "I", false)
  | 7 => ("KnobMenu$Device", "cursor", "I", false)
  | 8 => ("KnobMenu$Device", "draft", "I", false)
  | 9 => ("KnobMenu$Device", "place", "I", false)
  | 10 => ("KnobMenu$Device", "idle", "I", false)
  | 11 => ("KnobMenu$Device", "barredTicks", "I", false)
  | _ => ("KnobMenu$Device", "wrongInRow", "I", false)
def tyX2 : Nat → FieldType := fun k => match k with
  | 0 => .object "KnobMenu$Tree"
  | 1 => .object "KnobMenu$EditLog"
  | 2 => .array .int
  | 3 => .array .int
  | 4 => .array .int
  | 5 => .object "KnobMenu$Item"
  | 6 => .int
  | 7 => .int
  | 8 => .int
  | 9 => .int
  | 10 => .int
  | 11 => .int
  | _ => .int
abbrev wsX20 : List Cond := u_ws RX2 TX2 13
theorem nmX2 : ∀ a, a < 13 → ∀ b, b < 13 → a ≠ b → (TX2 a).2.1 ≠ (TX2 b).2.1 := by decide +kernel
theorem tyX2_ok : ∀ k, k < 13 → parseFieldDescriptor (TX2 k).2.2.1 = some (tyX2 k) := by decide +kernel
abbrev cX2_init : ByteArray := prog_4_method_1_code
def yX2_init : MethodName := ⟨RX2, "<init>", "(LKnobMenu$Tree;LKnobMenu$EditLog;)V"⟩
abbrev cX2_setting : ByteArray := prog_4_method_2_code
def yX2_setting : MethodName := ⟨RX2, "setting", "(I)I"⟩
abbrev cX2_changeSetting : ByteArray := prog_4_method_3_code
def yX2_changeSetting : MethodName := ⟨RX2, "changeSetting", "(II)V"⟩
abbrev cX2_counted : ByteArray := prog_4_method_4_code
def yX2_counted : MethodName := ⟨RX2, "counted", "(I)I"⟩
abbrev cX2_count : ByteArray := prog_4_method_5_code
def yX2_count : MethodName := ⟨RX2, "count", "(II)V"⟩
abbrev cX2_digit : ByteArray := prog_4_method_6_code
def yX2_digit : MethodName := ⟨RX2, "digit", "(I)I"⟩
abbrev cX2_changeDigit : ByteArray := prog_4_method_7_code
def yX2_changeDigit : MethodName := ⟨RX2, "changeDigit", "(II)V"⟩
abbrev cX2_chosenItem : ByteArray := prog_4_method_8_code
def yX2_chosenItem : MethodName := ⟨RX2, "chosenItem", "()LKnobMenu$Item;"⟩
abbrev cX2_atHome : ByteArray := prog_4_method_9_code
def yX2_atHome : MethodName := ⟨RX2, "atHome", "()Z"⟩
abbrev cX2_wouldBeHomeBrowsing : ByteArray := prog_4_method_10_code
def yX2_wouldBeHomeBrowsing : MethodName := ⟨RX2, "wouldBeHomeBrowsing", "()Z"⟩
abbrev cX2_goHome : ByteArray := prog_4_method_11_code
def yX2_goHome : MethodName := ⟨RX2, "goHome", "()V"⟩
abbrev cX2_turnBy : ByteArray := prog_4_method_12_code
def yX2_turnBy : MethodName := ⟨RX2, "turnBy", "(I)I"⟩
abbrev cX2_turned : ByteArray := prog_4_method_13_code
def yX2_turned : MethodName := ⟨RX2, "turned", "(I)I"⟩
abbrev cX2_turnedDraft : ByteArray := prog_4_method_14_code
def yX2_turnedDraft : MethodName := ⟨RX2, "turnedDraft", "(I)I"⟩
abbrev cX2_around : ByteArray := prog_4_method_15_code
def yX2_around : MethodName := ⟨RX2, "around", "(II)I"⟩
abbrev cX2_pressKnob : ByteArray := prog_4_method_16_code
def yX2_pressKnob : MethodName := ⟨RX2, "pressKnob", "()I"⟩
abbrev cX2_goBack : ByteArray := prog_4_method_17_code
def yX2_goBack : MethodName := ⟨RX2, "goBack", "()I"⟩
abbrev cX2_use : ByteArray := prog_4_method_18_code
def yX2_use : MethodName := ⟨RX2, "use", "(LKnobMenu$Item;)I"⟩
abbrev cX2_endEdit : ByteArray := prog_4_method_19_code
def yX2_endEdit : MethodName := ⟨RX2, "endEdit", "(LKnobMenu$Item;)I"⟩
abbrev cX2_beginCode : ByteArray := prog_4_method_20_code
def yX2_beginCode : MethodName := ⟨RX2, "beginCode", "()I"⟩
abbrev cX2_endDigit : ByteArray := prog_4_method_21_code
def yX2_endDigit : MethodName := ⟨RX2, "endDigit", "(LKnobMenu$Item;)I"⟩
abbrev cX2_enteredCode : ByteArray := prog_4_method_22_code
def yX2_enteredCode : MethodName := ⟨RX2, "enteredCode", "()I"⟩
abbrev cX2_countWrongCode : ByteArray := prog_4_method_23_code
def yX2_countWrongCode : MethodName := ⟨RX2, "countWrongCode", "()V"⟩
abbrev cX2_holdKnob : ByteArray := prog_4_method_24_code
def yX2_holdKnob : MethodName := ⟨RX2, "holdKnob", "()I"⟩
abbrev cX2_passTicks : ByteArray := prog_4_method_25_code
def yX2_passTicks : MethodName := ⟨RX2, "passTicks", "(I)I"⟩
abbrev cX2_passTick : ByteArray := prog_4_method_26_code
def yX2_passTick : MethodName := ⟨RX2, "passTick", "()I"⟩
abbrev cX2_ticksUntilHome : ByteArray := prog_4_method_27_code
def yX2_ticksUntilHome : MethodName := ⟨RX2, "ticksUntilHome", "()I"⟩
abbrev cX2_detentsFromHome : ByteArray := prog_4_method_28_code
def yX2_detentsFromHome : MethodName := ⟨RX2, "detentsFromHome", "(LKnobMenu$Item;)I"⟩
abbrev cX2_detentsToEntry : ByteArray := prog_4_method_29_code
def yX2_detentsToEntry : MethodName := ⟨RX2, "detentsToEntry", "(II)I"⟩
abbrev cX2_perform : ByteArray := prog_4_method_30_code
def yX2_perform : MethodName := ⟨RX2, "perform", "(CI)I"⟩
def RX3 : String := "KnobMenu$EditLog"
def TX3 : u_T := fun k => match k with
  | 0 => ("KnobMenu$EditLog", "items", "[LKnobMenu$Item;", true)
  | 1 => ("KnobMenu$EditLog", "values", "[I", true)
  | _ => ("KnobMenu$EditLog", "count", "I", false)
def tyX3 : Nat → FieldType := fun k => match k with
  | 0 => .array (.object "KnobMenu$Item")
  | 1 => .array .int
  | _ => .int
abbrev wsX30 : List Cond := u_ws RX3 TX3 3
theorem nmX3 : ∀ a, a < 3 → ∀ b, b < 3 → a ≠ b → (TX3 a).2.1 ≠ (TX3 b).2.1 := by decide +kernel
theorem tyX3_ok : ∀ k, k < 3 → parseFieldDescriptor (TX3 k).2.2.1 = some (tyX3 k) := by decide +kernel
abbrev cX3_init : ByteArray := prog_5_method_1_code
def yX3_init : MethodName := ⟨RX3, "<init>", "()V"⟩
abbrev cX3_keep : ByteArray := prog_5_method_2_code
def yX3_keep : MethodName := ⟨RX3, "keep", "(LKnobMenu$Item;I)V"⟩
abbrev cX3_removeOldest : ByteArray := prog_5_method_3_code
def yX3_removeOldest : MethodName := ⟨RX3, "removeOldest", "()V"⟩
abbrev cX3_latestItem : ByteArray := prog_5_method_4_code
def yX3_latestItem : MethodName := ⟨RX3, "latestItem", "()LKnobMenu$Item;"⟩
abbrev cX3_latestValue : ByteArray := prog_5_method_5_code
def yX3_latestValue : MethodName := ⟨RX3, "latestValue", "()I"⟩
abbrev cX3_removeLatest : ByteArray := prog_5_method_6_code
def yX3_removeLatest : MethodName := ⟨RX3, "removeLatest", "()V"⟩
abbrev cX3_removeAll : ByteArray := prog_5_method_7_code
def yX3_removeAll : MethodName := ⟨RX3, "removeAll", "()V"⟩
def RX4 : String := "KnobMenu$Item"
def TX4 : u_T := fun k => match k with
  | 0 => ("KnobMenu$Item", "number", "I", true)
  | 1 => ("KnobMenu$Item", "kind", "I", true)
  | 2 => ("KnobMenu$Item", "menu", "LKnobMenu$Item;", true)
  | 3 => ("KnobMenu$Item", "level", "I", true)
  | 4 => ("KnobMenu$Item", "entry", "I", true)
  | 5 => ("KnobMenu$Item", "low", "I", true)
  | 6 => ("KnobMenu$Item", "high", "I", true)
  | 7 => ("KnobMenu$Item", "step", "I", true)
  | 8 => ("KnobMenu$Item", "children", "[LKnobMenu$Item;", true)
  | 9 => ("KnobMenu$Item", "childCount", "I", false)
  | 10 => ("KnobMenu$Item", "value", "I", false)
  | 11 => ("KnobMenu$Item", "code", "I", false)
  | _ => ("KnobMenu$Item", "open", "Z", false)
def tyX4 : Nat → FieldType := fun k => match k with
  | 0 => .int
  | 1 => .int
  | 2 => .object "KnobMenu$Item"
  | 3 => .int
  | 4 => .int
  | 5 => .int
  | 6 => .int
  | 7 => .int
  | 8 => .array (.object "KnobMenu$Item")
  | 9 => .int
  | 10 => .int
  | 11 => .int
  | _ => .boolean
abbrev wsX40 : List Cond := u_ws RX4 TX4 13
theorem nmX4 : ∀ a, a < 13 → ∀ b, b < 13 → a ≠ b → (TX4 a).2.1 ≠ (TX4 b).2.1 := by decide +kernel
theorem tyX4_ok : ∀ k, k < 13 → parseFieldDescriptor (TX4 k).2.2.1 = some (tyX4 k) := by decide +kernel
abbrev cX4_init : ByteArray := prog_6_method_1_code
def yX4_init : MethodName := ⟨RX4, "<init>", "(IILKnobMenu$Item;III)V"⟩
abbrev cX4_locked : ByteArray := prog_6_method_2_code
def yX4_locked : MethodName := ⟨RX4, "locked", "()Z"⟩
abbrev cX4_closed : ByteArray := prog_6_method_3_code
def yX4_closed : MethodName := ⟨RX4, "closed", "()Z"⟩
abbrev cX4_entries : ByteArray := prog_6_method_4_code
def yX4_entries : MethodName := ⟨RX4, "entries", "()I"⟩
abbrev cX4_childAt : ByteArray := prog_6_method_5_code
def yX4_childAt : MethodName := ⟨RX4, "childAt", "(I)LKnobMenu$Item;"⟩
abbrev cX4_keepChild : ByteArray := prog_6_method_6_code
def yX4_keepChild : MethodName := ⟨RX4, "keepChild", "(LKnobMenu$Item;)V"⟩
def RX5 : String := "KnobMenu$Preset"
def TX5 : u_T := fun k => match k with
  | 0 => ("KnobMenu$Preset", "values", "[I", true)
  | 1 => ("KnobMenu$Preset", "count", "I", false)
  | _ => ("KnobMenu$Preset", "saved", "Z", false)
def tyX5 : Nat → FieldType := fun k => match k with
  | 0 => .array .int
  | 1 => .int
  | _ => .boolean
abbrev wsX50 : List Cond := u_ws RX5 TX5 3
theorem nmX5 : ∀ a, a < 3 → ∀ b, b < 3 → a ≠ b → (TX5 a).2.1 ≠ (TX5 b).2.1 := by decide +kernel
theorem tyX5_ok : ∀ k, k < 3 → parseFieldDescriptor (TX5 k).2.2.1 = some (tyX5 k) := by decide +kernel
abbrev cX5_init : ByteArray := prog_7_method_1_code
def yX5_init : MethodName := ⟨RX5, "<init>", "()V"⟩
abbrev cX5_save : ByteArray := prog_7_method_2_code
def yX5_save : MethodName := ⟨RX5, "save", "(LKnobMenu$Tree;)I"⟩
abbrev cX5_load : ByteArray := prog_7_method_3_code
def yX5_load : MethodName := ⟨RX5, "load", "(LKnobMenu$Tree;)I"⟩
def RX6 : String := "KnobMenu$Screen"
def TX6 : u_T := fun k => match k with
  | _ => ("KnobMenu$Screen", "signs", "[C", true)
def tyX6 : Nat → FieldType := fun k => match k with
  | _ => .array .char
abbrev wsX60 : List Cond := u_ws RX6 TX6 1
theorem nmX6 : ∀ a, a < 1 → ∀ b, b < 1 → a ≠ b → (TX6 a).2.1 ≠ (TX6 b).2.1 := by decide +kernel
theorem tyX6_ok : ∀ k, k < 1 → parseFieldDescriptor (TX6 k).2.2.1 = some (tyX6 k) := by decide +kernel
abbrev cX6_init : ByteArray := prog_8_method_1_code
def yX6_init : MethodName := ⟨RX6, "<init>", "()V"⟩
abbrev cX6_draw : ByteArray := prog_8_method_2_code
def yX6_draw : MethodName := ⟨RX6, "draw", "(LKnobMenu$Device;)V"⟩
abbrev cX6_signAt : ByteArray := prog_8_method_3_code
def yX6_signAt : MethodName := ⟨RX6, "signAt", "(II)C"⟩
abbrev cX6_clear : ByteArray := prog_8_method_4_code
def yX6_clear : MethodName := ⟨RX6, "clear", "()V"⟩
abbrev cX6_put : ByteArray := prog_8_method_5_code
def yX6_put : MethodName := ⟨RX6, "put", "(IIC)V"⟩
abbrev cX6_write : ByteArray := prog_8_method_6_code
def yX6_write : MethodName := ⟨RX6, "write", "(ILjava/lang/String;)I"⟩
abbrev cX6_writeEndingAt : ByteArray := prog_8_method_7_code
def yX6_writeEndingAt : MethodName := ⟨RX6, "writeEndingAt", "(III)V"⟩
abbrev cX6_writeAtEnd : ByteArray := prog_8_method_8_code
def yX6_writeAtEnd : MethodName := ⟨RX6, "writeAtEnd", "(II)V"⟩
abbrev cX6_writeNumbered : ByteArray := prog_8_method_9_code
def yX6_writeNumbered : MethodName := ⟨RX6, "writeNumbered", "(ILjava/lang/String;I)V"⟩
abbrev cX6_writeTitle : ByteArray := prog_8_method_10_code
def yX6_writeTitle : MethodName := ⟨RX6, "writeTitle", "(Ljava/lang/String;LKnobMenu$Item;)V"⟩
abbrev cX6_writeName : ByteArray := prog_8_method_11_code
def yX6_writeName : MethodName := ⟨RX6, "writeName", "(ILKnobMenu$Item;)V"⟩
abbrev cX6_writeChosen : ByteArray := prog_8_method_12_code
def yX6_writeChosen : MethodName := ⟨RX6, "writeChosen", "(LKnobMenu$Item;LKnobMenu$Item;)V"⟩
abbrev cX6_writeState : ByteArray := prog_8_method_13_code
def yX6_writeState : MethodName := ⟨RX6, "writeState", "(LKnobMenu$Item;)V"⟩
abbrev cX6_writeDigits : ByteArray := prog_8_method_14_code
def yX6_writeDigits : MethodName := ⟨RX6, "writeDigits", "(LKnobMenu$Device;)V"⟩
def RX7 : String := "KnobMenu$Tree"
def TX7 : u_T := fun k => match k with
  | 0 => ("KnobMenu$Tree", "root", "LKnobMenu$Item;", true)
  | 1 => ("KnobMenu$Tree", "items", "[LKnobMenu$Item;", true)
  | _ => ("KnobMenu$Tree", "count", "I", false)
def tyX7 : Nat → FieldType := fun k => match k with
  | 0 => .object "KnobMenu$Item"
  | 1 => .array (.object "KnobMenu$Item")
  | _ => .int
abbrev wsX70 : List Cond := u_ws RX7 TX7 3
theorem nmX7 : ∀ a, a < 3 → ∀ b, b < 3 → a ≠ b → (TX7 a).2.1 ≠ (TX7 b).2.1 := by decide +kernel
theorem tyX7_ok : ∀ k, k < 3 → parseFieldDescriptor (TX7 k).2.2.1 = some (tyX7 k) := by decide +kernel
abbrev cX7_init : ByteArray := prog_9_method_1_code
def yX7_init : MethodName := ⟨RX7, "<init>", "()V"⟩
abbrev cX7_keep : ByteArray := prog_9_method_2_code
def yX7_keep : MethodName := ⟨RX7, "keep", "(LKnobMenu$Item;)V"⟩
abbrev cX7_find : ByteArray := prog_9_method_3_code
def yX7_find : MethodName := ⟨RX7, "find", "(I)LKnobMenu$Item;"⟩
abbrev cX7_anyOpen : ByteArray := prog_9_method_4_code
def yX7_anyOpen : MethodName := ⟨RX7, "anyOpen", "()Z"⟩
abbrev cX7_closeAll : ByteArray := prog_9_method_5_code
def yX7_closeAll : MethodName := ⟨RX7, "closeAll", "()V"⟩
def RX8 : String := "KnobMenu"
def TX8 : u_T := fun k => match k with
  | 0 => ("KnobMenu", "tree", "LKnobMenu$Tree;", true)
  | 1 => ("KnobMenu", "log", "LKnobMenu$EditLog;", true)
  | 2 => ("KnobMenu", "firstPreset", "LKnobMenu$Preset;", true)
  | 3 => ("KnobMenu", "secondPreset", "LKnobMenu$Preset;", true)
  | 4 => ("KnobMenu", "device", "LKnobMenu$Device;", true)
  | 5 => ("KnobMenu", "screen", "LKnobMenu$Screen;", true)
  | _ => ("KnobMenu", "text", "LKnobMenu$ActionText;", true)
def tyX8 : Nat → FieldType := fun k => match k with
  | 0 => .object "KnobMenu$Tree"
  | 1 => .object "KnobMenu$EditLog"
  | 2 => .object "KnobMenu$Preset"
  | 3 => .object "KnobMenu$Preset"
  | 4 => .object "KnobMenu$Device"
  | 5 => .object "KnobMenu$Screen"
  | _ => .object "KnobMenu$ActionText"
abbrev wsX80 : List Cond := u_ws RX8 TX8 7
theorem nmX8 : ∀ a, a < 7 → ∀ b, b < 7 → a ≠ b → (TX8 a).2.1 ≠ (TX8 b).2.1 := by decide +kernel
theorem tyX8_ok : ∀ k, k < 7 → parseFieldDescriptor (TX8 k).2.2.1 = some (tyX8 k) := by decide +kernel
abbrev cX8_init : ByteArray := prog_1_method_1_code
def yX8_init : MethodName := ⟨RX8, "<init>", "()V"⟩
abbrev cX8_addMenu : ByteArray := prog_1_method_2_code
def yX8_addMenu : MethodName := ⟨RX8, "addMenu", "(I)I"⟩
abbrev cX8_addNumber : ByteArray := prog_1_method_3_code
def yX8_addNumber : MethodName := ⟨RX8, "addNumber", "(IIII)I"⟩
abbrev cX8_addChoice : ByteArray := prog_1_method_4_code
def yX8_addChoice : MethodName := ⟨RX8, "addChoice", "(II)I"⟩
abbrev cX8_lock : ByteArray := prog_1_method_5_code
def yX8_lock : MethodName := ⟨RX8, "lock", "(II)I"⟩
abbrev cX8_items : ByteArray := prog_1_method_6_code
def yX8_items : MethodName := ⟨RX8, "items", "()I"⟩
abbrev cX8_kind : ByteArray := prog_1_method_7_code
def yX8_kind : MethodName := ⟨RX8, "kind", "(I)I"⟩
abbrev cX8_menuOf : ByteArray := prog_1_method_8_code
def yX8_menuOf : MethodName := ⟨RX8, "menuOf", "(I)I"⟩
abbrev cX8_value : ByteArray := prog_1_method_9_code
def yX8_value : MethodName := ⟨RX8, "value", "(I)I"⟩
abbrev cX8_isClosed : ByteArray := prog_1_method_10_code
def yX8_isClosed : MethodName := ⟨RX8, "isClosed", "(I)Z"⟩
abbrev cX8_turn : ByteArray := prog_1_method_11_code
def yX8_turn : MethodName := ⟨RX8, "turn", "(I)I"⟩
abbrev cX8_press : ByteArray := prog_1_method_12_code
def yX8_press : MethodName := ⟨RX8, "press", "()I"⟩
abbrev cX8_hold : ByteArray := prog_1_method_13_code
def yX8_hold : MethodName := ⟨RX8, "hold", "()I"⟩
abbrev cX8_tick : ByteArray := prog_1_method_14_code
def yX8_tick : MethodName := ⟨RX8, "tick", "(I)I"⟩
abbrev cX8_set : ByteArray := prog_1_method_15_code
def yX8_set : MethodName := ⟨RX8, "set", "(II)I"⟩
abbrev cX8_takeBack : ByteArray := prog_1_method_16_code
def yX8_takeBack : MethodName := ⟨RX8, "takeBack", "()I"⟩
abbrev cX8_savePreset : ByteArray := prog_1_method_17_code
def yX8_savePreset : MethodName := ⟨RX8, "savePreset", "(I)I"⟩
abbrev cX8_loadPreset : ByteArray := prog_1_method_18_code
def yX8_loadPreset : MethodName := ⟨RX8, "loadPreset", "(I)I"⟩
abbrev cX8_mode : ByteArray := prog_1_method_19_code
def yX8_mode : MethodName := ⟨RX8, "mode", "()I"⟩
abbrev cX8_shown : ByteArray := prog_1_method_20_code
def yX8_shown : MethodName := ⟨RX8, "shown", "()I"⟩
abbrev cX8_cursor : ByteArray := prog_1_method_21_code
def yX8_cursor : MethodName := ⟨RX8, "cursor", "()I"⟩
abbrev cX8_chosen : ByteArray := prog_1_method_22_code
def yX8_chosen : MethodName := ⟨RX8, "chosen", "()I"⟩
abbrev cX8_draft : ByteArray := prog_1_method_23_code
def yX8_draft : MethodName := ⟨RX8, "draft", "()I"⟩
abbrev cX8_idle : ByteArray := prog_1_method_24_code
def yX8_idle : MethodName := ⟨RX8, "idle", "()I"⟩
abbrev cX8_barred : ByteArray := prog_1_method_25_code
def yX8_barred : MethodName := ⟨RX8, "barred", "()I"⟩
abbrev cX8_logged : ByteArray := prog_1_method_26_code
def yX8_logged : MethodName := ⟨RX8, "logged", "()I"⟩
abbrev cX8_isHome : ByteArray := prog_1_method_27_code
def yX8_isHome : MethodName := ⟨RX8, "isHome", "()Z"⟩
abbrev cX8_display : ByteArray := prog_1_method_28_code
def yX8_display : MethodName := ⟨RX8, "display", "(II)I"⟩
abbrev cX8_events : ByteArray := prog_1_method_29_code
def yX8_events : MethodName := ⟨RX8, "events", "(I)I"⟩
abbrev cX8_ifTurned : ByteArray := prog_1_method_30_code
def yX8_ifTurned : MethodName := ⟨RX8, "ifTurned", "(I)I"⟩
abbrev cX8_pressesTo : ByteArray := prog_1_method_31_code
def yX8_pressesTo : MethodName := ⟨RX8, "pressesTo", "(I)I"⟩
abbrev cX8_detentsTo : ByteArray := prog_1_method_32_code
def yX8_detentsTo : MethodName := ⟨RX8, "detentsTo", "(I)I"⟩
abbrev cX8_codesTo : ByteArray := prog_1_method_33_code
def yX8_codesTo : MethodName := ⟨RX8, "codesTo", "(I)I"⟩
abbrev cX8_ticksToHome : ByteArray := prog_1_method_34_code
def yX8_ticksToHome : MethodName := ⟨RX8, "ticksToHome", "()I"⟩
abbrev cX8_fraction : ByteArray := prog_1_method_35_code
def yX8_fraction : MethodName := ⟨RX8, "fraction", "()D"⟩
abbrev cX8_append : ByteArray := prog_1_method_36_code
def yX8_append : MethodName := ⟨RX8, "append", "(I)I"⟩
abbrev cX8_clearText : ByteArray := prog_1_method_37_code
def yX8_clearText : MethodName := ⟨RX8, "clearText", "()I"⟩
abbrev cX8_firstError : ByteArray := prog_1_method_38_code
def yX8_firstError : MethodName := ⟨RX8, "firstError", "()I"⟩
abbrev cX8_run : ByteArray := prog_1_method_39_code
def yX8_run : MethodName := ⟨RX8, "run", "()I"⟩
abbrev cX8_digest : ByteArray := prog_1_method_40_code
def yX8_digest : MethodName := ⟨RX8, "digest", "()J"⟩
abbrev cX8_itemNumbered : ByteArray := prog_1_method_41_code
def yX8_itemNumbered : MethodName := ⟨RX8, "itemNumbered", "(I)LKnobMenu$Item;"⟩
abbrev cX8_menuNumbered : ByteArray := prog_1_method_42_code
def yX8_menuNumbered : MethodName := ⟨RX8, "menuNumbered", "(I)LKnobMenu$Item;"⟩
abbrev cX8_presetNumbered : ByteArray := prog_1_method_43_code
def yX8_presetNumbered : MethodName := ⟨RX8, "presetNumbered", "(I)LKnobMenu$Preset;"⟩
abbrev cX8_numberOf : ByteArray := prog_1_method_44_code
def yX8_numberOf : MethodName := ⟨RX8, "numberOf", "(LKnobMenu$Item;)I"⟩
abbrev cX8_leastOf : ByteArray := prog_1_method_45_code
def yX8_leastOf : MethodName := ⟨RX8, "leastOf", "(I)I"⟩
abbrev cX8_mostOf : ByteArray := prog_1_method_46_code
def yX8_mostOf : MethodName := ⟨RX8, "mostOf", "(I)I"⟩
abbrev cX8_requireHome : ByteArray := prog_1_method_47_code
def yX8_requireHome : MethodName := ⟨RX8, "requireHome", "()V"⟩
abbrev cX8_requireDetents : ByteArray := prog_1_method_48_code
def yX8_requireDetents : MethodName := ⟨RX8, "requireDetents", "(I)V"⟩
abbrev cX8_added : ByteArray := prog_1_method_49_code
def yX8_added : MethodName := ⟨RX8, "added", "(LKnobMenu$Item;IIII)I"⟩
abbrev cX8_mix : ByteArray := prog_1_method_50_code
def yX8_mix : MethodName := ⟨RX8, "mix", "(JJ)J"⟩
abbrev cX8_mixPosition : ByteArray := prog_1_method_51_code
def yX8_mixPosition : MethodName := ⟨RX8, "mixPosition", "(J)J"⟩
abbrev cX8_mixItems : ByteArray := prog_1_method_52_code
def yX8_mixItems : MethodName := ⟨RX8, "mixItems", "(J)J"⟩
abbrev cX8_mixScreen : ByteArray := prog_1_method_53_code
def yX8_mixScreen : MethodName := ⟨RX8, "mixScreen", "(J)J"⟩
abbrev cX8_floatBits : ByteArray := prog_1_method_54_code
def yX8_floatBits : MethodName := ⟨RX8, "floatBits", "(F)I"⟩
def RX9 : String := "KnobMenuModel"
def TX9 : u_T := fun k => match k with
  | 0 => ("KnobMenuModel", "thrown", "I", false)
  | 1 => ("KnobMenuModel", "items", "I", false)
  | 2 => ("KnobMenuModel", "kinds", "[I", true)
  | 3 => ("KnobMenuModel", "menus", "[I", true)
  | 4 => ("KnobMenuModel", "low", "[I", true)
  | 5 => ("KnobMenuModel", "high", "[I", true)
  | 6 => ("KnobMenuModel", "steps", "[I", true)
  | 7 => ("KnobMenuModel", "values", "[I", true)
  | 8 => ("KnobMenuModel", "codes", "[I", true)
  | 9 => ("KnobMenuModel", "isOpen", "[Z", true)
  | 10 => ("KnobMenuModel", "mode", "I", false)
  | 11 => ("KnobMenuModel", "shown", "I", false)
  | 12 => ("KnobMenuModel", "cursor", "I", false)
  | 13 => ("KnobMenuModel", "draft", "I", false)
  | 14 => ("KnobMenuModel", "digits", "[I", true)
  | 15 => ("KnobMenuModel", "place", "I", false)
  | 16 => ("KnobMenuModel", "idle", "I", false)
  | 17 => ("KnobMenuModel", "barred", "I", false)
  | 18 => ("KnobMenuModel", "wrong", "I", false)
  | 19 => ("KnobMenuModel", "settings", "[I", true)
  | 20 => ("KnobMenuModel", "events", "[I", true)
  | 21 => ("KnobMenuModel", "logItems", "[I", true)
  | 22 => ("KnobMenuModel", "logValues", "[I", true)
  | 23 => ("KnobMenuModel", "logged", "I", false)
  | 24 => ("KnobMenuModel", "presets", "[I", true)
  | 25 => ("KnobMenuModel", "presetItems", "[I", true)
  | 26 => ("KnobMenuModel", "text", "[I", true)
  | 27 => ("KnobMenuModel", "length", "I", false)
  | 28 => ("KnobMenuModel", "at", "I", false)
  | 29 => ("KnobMenuModel", "letter", "I", false)
  | 30 => ("KnobMenuModel", "number", "I", false)
  | 31 => ("KnobMenuModel", "row", "[I", true)
  | _ => ("KnobMenuModel", "hash", "J", false)
def tyX9 : Nat → FieldType := fun k => match k with
  | 0 => .int
  | 1 => .int
  | 2 => .array .int
  | 3 => .array .int
  | 4 => .array .int
  | 5 => .array .int
  | 6 => .array .int
  | 7 => .array .int
  | 8 => .array .int
  | 9 => .array .boolean
  | 10 => .int
  | 11 => .int
  | 12 => .int
  | 13 => .int
  | 14 => .array .int
  | 15 => .int
  | 16 => .int
  | 17 => .int
  | 18 => .int
  | 19 => .array .int
  | 20 => .array .int
  | 21 => .array .int
  | 22 => .array .int
  | 23 => .int
  | 24 => .array .int
  | 25 => .array .int
  | 26 => .array .int
  | 27 => .int
  | 28 => .int
  | 29 => .int
  | 30 => .int
  | 31 => .array .int
  | _ => .long
abbrev wsX90 : List Cond := u_ws RX9 TX9 33
theorem nmX9 : ∀ a, a < 33 → ∀ b, b < 33 → a ≠ b → (TX9 a).2.1 ≠ (TX9 b).2.1 := by decide +kernel
theorem tyX9_ok : ∀ k, k < 33 → parseFieldDescriptor (TX9 k).2.2.1 = some (tyX9 k) := by decide +kernel
abbrev cX9_init : ByteArray := prog_11_method_1_code
def yX9_init : MethodName := ⟨RX9, "<init>", "()V"⟩
abbrev cX9_thrown : ByteArray := prog_11_method_2_code
def yX9_thrown : MethodName := ⟨RX9, "thrown", "()I"⟩
abbrev cX9_in : ByteArray := prog_11_method_3_code
def yX9_in : MethodName := ⟨RX9, "in", "(III)Z"⟩
abbrev cX9_holds : ByteArray := prog_11_method_4_code
def yX9_holds : MethodName := ⟨RX9, "holds", "(I)Z"⟩
abbrev cX9_isItem : ByteArray := prog_11_method_5_code
def yX9_isItem : MethodName := ⟨RX9, "isItem", "(I)Z"⟩
abbrev cX9_isShut : ByteArray := prog_11_method_6_code
def yX9_isShut : MethodName := ⟨RX9, "isShut", "(I)Z"⟩
abbrev cX9_levelOf : ByteArray := prog_11_method_7_code
def yX9_levelOf : MethodName := ⟨RX9, "levelOf", "(I)I"⟩
abbrev cX9_itemsOf : ByteArray := prog_11_method_8_code
def yX9_itemsOf : MethodName := ⟨RX9, "itemsOf", "(I)I"⟩
abbrev cX9_entries : ByteArray := prog_11_method_9_code
def yX9_entries : MethodName := ⟨RX9, "entries", "(I)I"⟩
abbrev cX9_indexOf : ByteArray := prog_11_method_10_code
def yX9_indexOf : MethodName := ⟨RX9, "indexOf", "(I)I"⟩
abbrev cX9_itemAt : ByteArray := prog_11_method_11_code
def yX9_itemAt : MethodName := ⟨RX9, "itemAt", "(I)I"⟩
abbrev cX9_anyOpen : ByteArray := prog_11_method_12_code
def yX9_anyOpen : MethodName := ⟨RX9, "anyOpen", "()Z"⟩
abbrev cX9_home : ByteArray := prog_11_method_13_code
def yX9_home : MethodName := ⟨RX9, "home", "()Z"⟩
abbrev cX9_goHome : ByteArray := prog_11_method_14_code
def yX9_goHome : MethodName := ⟨RX9, "goHome", "()V"⟩
abbrev cX9_adds : ByteArray := prog_11_method_15_code
def yX9_adds : MethodName := ⟨RX9, "adds", "(II)I"⟩
abbrev cX9_isMenu : ByteArray := prog_11_method_16_code
def yX9_isMenu : MethodName := ⟨RX9, "isMenu", "(I)Z"⟩
abbrev cX9_canAdd : ByteArray := prog_11_method_17_code
def yX9_canAdd : MethodName := ⟨RX9, "canAdd", "(I)Z"⟩
abbrev cX9_addMenu : ByteArray := prog_11_method_18_code
def yX9_addMenu : MethodName := ⟨RX9, "addMenu", "(I)I"⟩
abbrev cX9_addNumber : ByteArray := prog_11_method_19_code
def yX9_addNumber : MethodName := ⟨RX9, "addNumber", "(IIII)I"⟩
abbrev cX9_addChoice : ByteArray := prog_11_method_20_code
def yX9_addChoice : MethodName := ⟨RX9, "addChoice", "(II)I"⟩
abbrev cX9_lock : ByteArray := prog_11_method_21_code
def yX9_lock : MethodName := ⟨RX9, "lock", "(II)I"⟩
abbrev cX9_items : ByteArray := prog_11_method_22_code
def yX9_items : MethodName := ⟨RX9, "items", "()I"⟩
abbrev cX9_kind : ByteArray := prog_11_method_23_code
def yX9_kind : MethodName := ⟨RX9, "kind", "(I)I"⟩
abbrev cX9_menuOf : ByteArray := prog_11_method_24_code
def yX9_menuOf : MethodName := ⟨RX9, "menuOf", "(I)I"⟩
abbrev cX9_value : ByteArray := prog_11_method_25_code
def yX9_value : MethodName := ⟨RX9, "value", "(I)I"⟩
abbrev cX9_isClosed : ByteArray := prog_11_method_26_code
def yX9_isClosed : MethodName := ⟨RX9, "isClosed", "(I)Z"⟩
abbrev cX9_inRing : ByteArray := prog_11_method_27_code
def yX9_inRing : MethodName := ⟨RX9, "inRing", "(II)I"⟩
abbrev cX9_within : ByteArray := prog_11_method_28_code
def yX9_within : MethodName := ⟨RX9, "within", "(III)I"⟩
abbrev cX9_turned : ByteArray := prog_11_method_29_code
def yX9_turned : MethodName := ⟨RX9, "turned", "(I)I"⟩
abbrev cX9_turns : ByteArray := prog_11_method_30_code
def yX9_turns : MethodName := ⟨RX9, "turns", "(I)I"⟩
abbrev cX9_turn : ByteArray := prog_11_method_31_code
def yX9_turn : MethodName := ⟨RX9, "turn", "(I)I"⟩
abbrev cX9_logs : ByteArray := prog_11_method_32_code
def yX9_logs : MethodName := ⟨RX9, "logs", "(II)V"⟩
abbrev cX9_goesOn : ByteArray := prog_11_method_33_code
def yX9_goesOn : MethodName := ⟨RX9, "goesOn", "()I"⟩
abbrev cX9_codeDone : ByteArray := prog_11_method_34_code
def yX9_codeDone : MethodName := ⟨RX9, "codeDone", "()I"⟩
abbrev cX9_presses : ByteArray := prog_11_method_35_code
def yX9_presses : MethodName := ⟨RX9, "presses", "()I"⟩
abbrev cX9_press : ByteArray := prog_11_method_36_code
def yX9_press : MethodName := ⟨RX9, "press", "()I"⟩
abbrev cX9_held : ByteArray := prog_11_method_37_code
def yX9_held : MethodName := ⟨RX9, "held", "()I"⟩
abbrev cX9_hold : ByteArray := prog_11_method_38_code
def yX9_hold : MethodName := ⟨RX9, "hold", "()I"⟩
abbrev cX9_ticksPass : ByteArray := prog_11_method_39_code
def yX9_ticksPass : MethodName := ⟨RX9, "ticksPass", "(I)I"⟩
abbrev cX9_tick : ByteArray := prog_11_method_40_code
def yX9_tick : MethodName := ⟨RX9, "tick", "(I)I"⟩
abbrev cX9_set : ByteArray := prog_11_method_41_code
def yX9_set : MethodName := ⟨RX9, "set", "(II)I"⟩
abbrev cX9_takeBack : ByteArray := prog_11_method_42_code
def yX9_takeBack : MethodName := ⟨RX9, "takeBack", "()I"⟩
abbrev cX9_savePreset : ByteArray := prog_11_method_43_code
def yX9_savePreset : MethodName := ⟨RX9, "savePreset", "(I)I"⟩
abbrev cX9_loadPreset : ByteArray := prog_11_method_44_code
def yX9_loadPreset : MethodName := ⟨RX9, "loadPreset", "(I)I"⟩
abbrev cX9_mode : ByteArray := prog_11_method_45_code
def yX9_mode : MethodName := ⟨RX9, "mode", "()I"⟩
abbrev cX9_shown : ByteArray := prog_11_method_46_code
def yX9_shown : MethodName := ⟨RX9, "shown", "()I"⟩
abbrev cX9_cursor : ByteArray := prog_11_method_47_code
def yX9_cursor : MethodName := ⟨RX9, "cursor", "()I"⟩
abbrev cX9_chosen : ByteArray := prog_11_method_48_code
def yX9_chosen : MethodName := ⟨RX9, "chosen", "()I"⟩
abbrev cX9_draftNow : ByteArray := prog_11_method_49_code
def yX9_draftNow : MethodName := ⟨RX9, "draftNow", "()I"⟩
abbrev cX9_draft : ByteArray := prog_11_method_50_code
def yX9_draft : MethodName := ⟨RX9, "draft", "()I"⟩
abbrev cX9_idle : ByteArray := prog_11_method_51_code
def yX9_idle : MethodName := ⟨RX9, "idle", "()I"⟩
abbrev cX9_barred : ByteArray := prog_11_method_52_code
def yX9_barred : MethodName := ⟨RX9, "barred", "()I"⟩
abbrev cX9_logged : ByteArray := prog_11_method_53_code
def yX9_logged : MethodName := ⟨RX9, "logged", "()I"⟩
abbrev cX9_isHome : ByteArray := prog_11_method_54_code
def yX9_isHome : MethodName := ⟨RX9, "isHome", "()Z"⟩
abbrev cX9_writes : ByteArray := prog_11_method_55_code
def yX9_writes : MethodName := ⟨RX9, "writes", "(II)V"⟩
abbrev cX9_ends : ByteArray := prog_11_method_56_code
def yX9_ends : MethodName := ⟨RX9, "ends", "(I)V"⟩
abbrev cX9_signOf : ByteArray := prog_11_method_57_code
def yX9_signOf : MethodName := ⟨RX9, "signOf", "(II)I"⟩
abbrev cX9_names : ByteArray := prog_11_method_58_code
def yX9_names : MethodName := ⟨RX9, "names", "(I)V"⟩
abbrev cX9_begins : ByteArray := prog_11_method_59_code
def yX9_begins : MethodName := ⟨RX9, "begins", "(IIII)V"⟩
abbrev cX9_firstLine : ByteArray := prog_11_method_60_code
def yX9_firstLine : MethodName := ⟨RX9, "firstLine", "()V"⟩
abbrev cX9_secondLine : ByteArray := prog_11_method_61_code
def yX9_secondLine : MethodName := ⟨RX9, "secondLine", "()V"⟩
abbrev cX9_lays : ByteArray := prog_11_method_62_code
def yX9_lays : MethodName := ⟨RX9, "lays", "(I)V"⟩
abbrev cX9_display : ByteArray := prog_11_method_63_code
def yX9_display : MethodName := ⟨RX9, "display", "(II)I"⟩
abbrev cX9_events : ByteArray := prog_11_method_64_code
def yX9_events : MethodName := ⟨RX9, "events", "(I)I"⟩
abbrev cX9_ifTurned : ByteArray := prog_11_method_65_code
def yX9_ifTurned : MethodName := ⟨RX9, "ifTurned", "(I)I"⟩
abbrev cX9_pressesTo : ByteArray := prog_11_method_66_code
def yX9_pressesTo : MethodName := ⟨RX9, "pressesTo", "(I)I"⟩
abbrev cX9_detentsTo : ByteArray := prog_11_method_67_code
def yX9_detentsTo : MethodName := ⟨RX9, "detentsTo", "(I)I"⟩
abbrev cX9_codesTo : ByteArray := prog_11_method_68_code
def yX9_codesTo : MethodName := ⟨RX9, "codesTo", "(I)I"⟩
abbrev cX9_ticksLeft : ByteArray := prog_11_method_69_code
def yX9_ticksLeft : MethodName := ⟨RX9, "ticksLeft", "()I"⟩
abbrev cX9_ticksToHome : ByteArray := prog_11_method_70_code
def yX9_ticksToHome : MethodName := ⟨RX9, "ticksToHome", "()I"⟩
abbrev cX9_share : ByteArray := prog_11_method_71_code
def yX9_share : MethodName := ⟨RX9, "share", "()D"⟩
abbrev cX9_fraction : ByteArray := prog_11_method_72_code
def yX9_fraction : MethodName := ⟨RX9, "fraction", "()D"⟩
abbrev cX9_append : ByteArray := prog_11_method_73_code
def yX9_append : MethodName := ⟨RX9, "append", "(I)I"⟩
abbrev cX9_clearText : ByteArray := prog_11_method_74_code
def yX9_clearText : MethodName := ⟨RX9, "clearText", "()I"⟩
abbrev cX9_sign : ByteArray := prog_11_method_75_code
def yX9_sign : MethodName := ⟨RX9, "sign", "()I"⟩
abbrev cX9_readsNumber : ByteArray := prog_11_method_76_code
def yX9_readsNumber : MethodName := ⟨RX9, "readsNumber", "(I)Z"⟩
abbrev cX9_readsAction : ByteArray := prog_11_method_77_code
def yX9_readsAction : MethodName := ⟨RX9, "readsAction", "()Z"⟩
abbrev cX9_isComplete : ByteArray := prog_11_method_78_code
def yX9_isComplete : MethodName := ⟨RX9, "isComplete", "()Z"⟩
abbrev cX9_firstError : ByteArray := prog_11_method_79_code
def yX9_firstError : MethodName := ⟨RX9, "firstError", "()I"⟩
abbrev cX9_does : ByteArray := prog_11_method_80_code
def yX9_does : MethodName := ⟨RX9, "does", "()I"⟩
abbrev cX9_run : ByteArray := prog_11_method_81_code
def yX9_run : MethodName := ⟨RX9, "run", "()I"⟩
abbrev cX9_mix : ByteArray := prog_11_method_82_code
def yX9_mix : MethodName := ⟨RX9, "mix", "(J)V"⟩
abbrev cX9_bits : ByteArray := prog_11_method_83_code
def yX9_bits : MethodName := ⟨RX9, "bits", "(F)I"⟩
abbrev cX9_digest : ByteArray := prog_11_method_84_code
def yX9_digest : MethodName := ⟨RX9, "digest", "()J"⟩
def RJ9 : String := "java/lang/Math"
def TJ9 : u_T := fun k => match k with
  | _ => ("", "", "", false)
def tyJ9 : Nat → FieldType := fun k => match k with
  | _ => .int
abbrev wsJ90 : List Cond := u_ws RJ9 TJ9 0
theorem nmJ9 : ∀ a, a < 0 → ∀ b, b < 0 → a ≠ b → (TJ9 a).2.1 ≠ (TJ9 b).2.1 := by decide +kernel
theorem tyJ9_ok : ∀ k, k < 0 → parseFieldDescriptor (TJ9 k).2.2.1 = some (tyJ9 k) := by decide +kernel
abbrev cJ9_floorMod_7cf53 : ByteArray := prog_16_method_50_code
def yJ9_floorMod_7cf53 : MethodName := ⟨RJ9, "floorMod", "(II)I"⟩
abbrev cJ9_abs_0f7a4 : ByteArray := prog_16_method_59_code
def yJ9_abs_0f7a4 : MethodName := ⟨RJ9, "abs", "(I)I"⟩
abbrev cJ9_max_7cf53 : ByteArray := prog_16_method_65_code
def yJ9_max_7cf53 : MethodName := ⟨RJ9, "max", "(II)I"⟩
abbrev cJ9_min_7cf53 : ByteArray := prog_16_method_69_code
def yJ9_min_7cf53 : MethodName := ⟨RJ9, "min", "(II)I"⟩
def RJ0 : String := "java/lang/String"
def TJ0 : u_T := fun k => match k with
  | _ => ("", "", "", false)
def tyJ0 : Nat → FieldType := fun k => match k with
  | _ => .int
abbrev wsJ00 : List Cond := u_ws RJ0 TJ0 0
theorem nmJ0 : ∀ a, a < 0 → ∀ b, b < 0 → a ≠ b → (TJ0 a).2.1 ≠ (TJ0 b).2.1 := by decide +kernel
theorem tyJ0_ok : ∀ k, k < 0 → parseFieldDescriptor (TJ0 k).2.2.1 = some (tyJ0 k) := by decide +kernel
abbrev cJ0_length_8abf5 : ByteArray := prog_18_method_54_code
def yJ0_length_8abf5 : MethodName := ⟨RJ0, "length", "()I"⟩
abbrev cJ0_charAt_5068e : ByteArray := prog_18_method_56_code
def yJ0_charAt_5068e : MethodName := ⟨RJ0, "charAt", "(I)C"⟩
abbrev cJ0_coder_7d493 : ByteArray := prog_18_method_152_code
def yJ0_coder_7d493 : MethodName := ⟨RJ0, "coder", "()B"⟩
abbrev cJ0_isLatin1_aae02 : ByteArray := prog_18_method_154_code
def yJ0_isLatin1_aae02 : MethodName := ⟨RJ0, "isLatin1", "()Z"⟩
abbrev cJ0_checkIndex_df160 : ByteArray := prog_18_method_155_code
def yJ0_checkIndex_df160 : MethodName := ⟨RJ0, "checkIndex", "(II)V"⟩
def RJ1 : String := "java/lang/StringLatin1"
def TJ1 : u_T := fun k => match k with
  | _ => ("", "", "", false)
def tyJ1 : Nat → FieldType := fun k => match k with
  | _ => .int
abbrev wsJ10 : List Cond := u_ws RJ1 TJ1 0
theorem nmJ1 : ∀ a, a < 0 → ∀ b, b < 0 → a ≠ b → (TJ1 a).2.1 ≠ (TJ1 b).2.1 := by decide +kernel
theorem tyJ1_ok : ∀ k, k < 0 → parseFieldDescriptor (TJ1 k).2.2.1 = some (tyJ1 k) := by decide +kernel
abbrev cJ1_charAt_3b067 : ByteArray := prog_19_method_2_code
def yJ1_charAt_3b067 : MethodName := ⟨RJ1, "charAt", "([BI)C"⟩
def RJ2 : String := "java/lang/StringUTF16"
def TJ2 : u_T := fun k => match k with
  | _ => ("", "", "", false)
def tyJ2 : Nat → FieldType := fun k => match k with
  | _ => .int
abbrev wsJ20 : List Cond := u_ws RJ2 TJ2 0
theorem nmJ2 : ∀ a, a < 0 → ∀ b, b < 0 → a ≠ b → (TJ2 a).2.1 ≠ (TJ2 b).2.1 := by decide +kernel
theorem tyJ2_ok : ∀ k, k < 0 → parseFieldDescriptor (TJ2 k).2.2.1 = some (tyJ2 k) := by decide +kernel
abbrev cJ2_getChar_3b067 : ByteArray := prog_20_method_5_code
def yJ2_getChar_3b067 : MethodName := ⟨RJ2, "getChar", "([BI)C"⟩
abbrev cJ2_length_9d52b : ByteArray := prog_20_method_6_code
def yJ2_length_9d52b : MethodName := ⟨RJ2, "length", "([B)I"⟩
abbrev cJ2_charAt_3b067 : ByteArray := prog_20_method_83_code
def yJ2_charAt_3b067 : MethodName := ⟨RJ2, "charAt", "([BI)C"⟩
abbrev cJ2_checkIndex_2214a : ByteArray := prog_20_method_91_code
def yJ2_checkIndex_2214a : MethodName := ⟨RJ2, "checkIndex", "(I[B)V"⟩
def RJ3 : String := "jdk/internal/util/Preconditions"
def TJ3 : u_T := fun k => match k with
  | _ => ("", "", "", false)
def tyJ3 : Nat → FieldType := fun k => match k with
  | _ => .int
abbrev wsJ30 : List Cond := u_ws RJ3 TJ3 0
theorem nmJ3 : ∀ a, a < 0 → ∀ b, b < 0 → a ≠ b → (TJ3 a).2.1 ≠ (TJ3 b).2.1 := by decide +kernel
theorem tyJ3_ok : ∀ k, k < 0 → parseFieldDescriptor (TJ3 k).2.2.1 = some (tyJ3 k) := by decide +kernel
abbrev cJ3_checkIndex_8e157 : ByteArray := prog_22_method_11_code
def yJ3_checkIndex_8e157 : MethodName := ⟨RJ3, "checkIndex", "(IILjava/util/function/BiFunction;)I"⟩
def RL : String := "KnobMenuLaw"
abbrev cL_addMenu : ByteArray := method_3_code
def yL_addMenu : MethodName := ⟨RL, "addMenu", "(LKnobMenu;I[J)I"⟩
abbrev cL_addNumber : ByteArray := method_4_code
def yL_addNumber : MethodName := ⟨RL, "addNumber", "(LKnobMenu;IIII[J)I"⟩
abbrev cL_addChoice : ByteArray := method_5_code
def yL_addChoice : MethodName := ⟨RL, "addChoice", "(LKnobMenu;II[J)I"⟩
abbrev cL_lock : ByteArray := method_6_code
def yL_lock : MethodName := ⟨RL, "lock", "(LKnobMenu;II[J)I"⟩
abbrev cL_kind : ByteArray := method_7_code
def yL_kind : MethodName := ⟨RL, "kind", "(LKnobMenu;I[J)I"⟩
abbrev cL_menuOf : ByteArray := method_8_code
def yL_menuOf : MethodName := ⟨RL, "menuOf", "(LKnobMenu;I[J)I"⟩
abbrev cL_value : ByteArray := method_9_code
def yL_value : MethodName := ⟨RL, "value", "(LKnobMenu;I[J)I"⟩
abbrev cL_isClosed : ByteArray := method_10_code
def yL_isClosed : MethodName := ⟨RL, "isClosed", "(LKnobMenu;I[J)I"⟩
abbrev cL_turn : ByteArray := method_11_code
def yL_turn : MethodName := ⟨RL, "turn", "(LKnobMenu;I[J)I"⟩
abbrev cL_tick : ByteArray := method_12_code
def yL_tick : MethodName := ⟨RL, "tick", "(LKnobMenu;I[J)I"⟩
abbrev cL_set : ByteArray := method_13_code
def yL_set : MethodName := ⟨RL, "set", "(LKnobMenu;II[J)I"⟩
abbrev cL_takeBack : ByteArray := method_14_code
def yL_takeBack : MethodName := ⟨RL, "takeBack", "(LKnobMenu;[J)I"⟩
abbrev cL_savePreset : ByteArray := method_15_code
def yL_savePreset : MethodName := ⟨RL, "savePreset", "(LKnobMenu;I[J)I"⟩
abbrev cL_loadPreset : ByteArray := method_16_code
def yL_loadPreset : MethodName := ⟨RL, "loadPreset", "(LKnobMenu;I[J)I"⟩
abbrev cL_display : ByteArray := method_17_code
def yL_display : MethodName := ⟨RL, "display", "(LKnobMenu;II[J)I"⟩
abbrev cL_events : ByteArray := method_18_code
def yL_events : MethodName := ⟨RL, "events", "(LKnobMenu;I[J)I"⟩
abbrev cL_ifTurned : ByteArray := method_19_code
def yL_ifTurned : MethodName := ⟨RL, "ifTurned", "(LKnobMenu;I[J)I"⟩
abbrev cL_pressesTo : ByteArray := method_20_code
def yL_pressesTo : MethodName := ⟨RL, "pressesTo", "(LKnobMenu;I[J)I"⟩
abbrev cL_detentsTo : ByteArray := method_21_code
def yL_detentsTo : MethodName := ⟨RL, "detentsTo", "(LKnobMenu;I[J)I"⟩
abbrev cL_codesTo : ByteArray := method_22_code
def yL_codesTo : MethodName := ⟨RL, "codesTo", "(LKnobMenu;I[J)I"⟩
abbrev cL_append : ByteArray := method_23_code
def yL_append : MethodName := ⟨RL, "append", "(LKnobMenu;I[J)I"⟩
abbrev cL_run : ByteArray := method_24_code
def yL_run : MethodName := ⟨RL, "run", "(LKnobMenu;[J)I"⟩
abbrev cL_law : ByteArray := code
def yL_law : MethodName := ⟨RL, "law", "([I)Z"⟩
abbrev vwCl : List vw_C := [(RX0, TX0, 2), (RX1, TX1, 4), (RX2, TX2, 13), (RX3, TX3, 3), (RX4, TX4, 13), (RX5, TX5, 3), (RX6, TX6, 1), (RX7, TX7, 3), (RX8, TX8, 7), (RX9, TX9, 33)]
end
section
theorem dX9_init_0 : decode cX9_init 0 = .ok (.aload_n 0, 1) := by decide +kernel
theorem dX9_init_1 : decode cX9_init 1 = .ok (.invokespecial 1, 3) := by decide +kernel
theorem dX9_init_4 : decode cX9_init 4 = .ok (.aload_n 0, 1) := by decide +kernel
theorem dX9_init_5 : decode cX9_init 5 = .ok (.bipush 24, 2) := by decide +kernel
theorem dX9_init_7 : decode cX9_init 7 = .ok (.newarray .int, 2) := by decide +kernel
theorem dX9_init_9 : decode cX9_init 9 = .ok (.putfield 7, 3) := by decide +kernel
theorem dX9_init_12 : decode cX9_init 12 = .ok (.aload_n 0, 1) := by decide +kernel
theorem dX9_init_13 : decode cX9_init 13 = .ok (.bipush 24, 2) := by decide +kernel
theorem dX9_init_15 : decode cX9_init 15 = .ok (.newarray .int, 2) := by decide +kernel
theorem dX9_init_17 : decode cX9_init 17 = .ok (.putfield 13, 3) := by decide +kernel
theorem dX9_init_20 : decode cX9_init 20 = .ok (.aload_n 0, 1) := by decide +kernel
theorem dX9_init_21 : decode cX9_init 21 = .ok (.bipush 24, 2) := by decide +kernel
theorem dX9_init_23 : decode cX9_init 23 = .ok (.newarray .int, 2) := by decide +kernel
theorem dX9_init_25 : decode cX9_init 25 = .ok (.putfield 16, 3) := by decide +kernel
theorem dX9_init_28 : decode cX9_init 28 = .ok (.aload_n 0, 1) := by decide +kernel
theorem dX9_init_29 : decode cX9_init 29 = .ok (.bipush 24, 2) := by decide +kernel
theorem dX9_init_31 : decode cX9_init 31 = .ok (.newarray .int, 2) := by decide +kernel
theorem dX9_init_33 : decode cX9_init 33 = .ok (.putfield 19, 3) := by decide +kernel
theorem dX9_init_36 : decode cX9_init 36 = .ok (.aload_n 0, 1) := by decide +kernel
theorem dX9_init_37 : decode cX9_init 37 = .ok (.bipush 24, 2) := by decide +kernel
theorem dX9_init_39 : decode cX9_init 39 = .ok (.newarray .int, 2) := by decide +kernel
theorem dX9_init_41 : decode cX9_init 41 = .ok (.putfield 22, 3) := by decide +kernel
theorem dX9_init_44 : decode cX9_init 44 = .ok (.aload_n 0, 1) := by decide +kernel
theorem dX9_init_45 : decode cX9_init 45 = .ok (.bipush 24, 2) := by decide +kernel
theorem dX9_init_47 : decode cX9_init 47 = .ok (.newarray .int, 2) := by decide +kernel
theorem dX9_init_49 : decode cX9_init 49 = .ok (.putfield 25, 3) := by decide +kernel
theorem dX9_init_52 : decode cX9_init 52 = .ok (.aload_n 0, 1) := by decide +kernel
theorem dX9_init_53 : decode cX9_init 53 = .ok (.bipush 24, 2) := by decide +kernel
theorem dX9_init_55 : decode cX9_init 55 = .ok (.newarray .int, 2) := by decide +kernel
theorem dX9_init_57 : decode cX9_init 57 = .ok (.putfield 28, 3) := by decide +kernel
theorem dX9_init_60 : decode cX9_init 60 = .ok (.aload_n 0, 1) := by decide +kernel
theorem dX9_init_61 : decode cX9_init 61 = .ok (.bipush 24, 2) := by decide +kernel
theorem dX9_init_63 : decode cX9_init 63 = .ok (.newarray .boolean, 2) := by decide +kernel
theorem dX9_init_65 : decode cX9_init 65 = .ok (.putfield 31, 3) := by decide +kernel
theorem dX9_init_68 : decode cX9_init 68 = .ok (.aload_n 0, 1) := by decide +kernel
theorem dX9_init_69 : decode cX9_init 69 = .ok (.iconst 4, 1) := by decide +kernel
theorem dX9_init_70 : decode cX9_init 70 = .ok (.newarray .int, 2) := by decide +kernel
theorem dX9_init_72 : decode cX9_init 72 = .ok (.putfield 35, 3) := by decide +kernel
theorem dX9_init_75 : decode cX9_init 75 = .ok (.aload_n 0, 1) := by decide +kernel
theorem dX9_init_76 : decode cX9_init 76 = .ok (.iconst 3, 1) := by decide +kernel
theorem dX9_init_77 : decode cX9_init 77 = .ok (.newarray .int, 2) := by decide +kernel
theorem dX9_init_79 : decode cX9_init 79 = .ok (.putfield 38, 3) := by decide +kernel
theorem dX9_init_82 : decode cX9_init 82 = .ok (.aload_n 0, 1) := by decide +kernel
theorem dX9_init_83 : decode cX9_init 83 = .ok (.bipush 8, 2) := by decide +kernel
theorem dX9_init_85 : decode cX9_init 85 = .ok (.newarray .int, 2) := by decide +kernel
theorem dX9_init_87 : decode cX9_init 87 = .ok (.putfield 41, 3) := by decide +kernel
theorem dX9_init_90 : decode cX9_init 90 = .ok (.aload_n 0, 1) := by decide +kernel
theorem dX9_init_91 : decode cX9_init 91 = .ok (.bipush 8, 2) := by decide +kernel
theorem dX9_init_93 : decode cX9_init 93 = .ok (.newarray .int, 2) := by decide +kernel
theorem dX9_init_95 : decode cX9_init 95 = .ok (.putfield 44, 3) := by decide +kernel
theorem dX9_init_98 : decode cX9_init 98 = .ok (.aload_n 0, 1) := by decide +kernel
theorem dX9_init_99 : decode cX9_init 99 = .ok (.bipush 8, 2) := by decide +kernel
theorem dX9_init_101 : decode cX9_init 101 = .ok (.newarray .int, 2) := by decide +kernel
theorem dX9_init_103 : decode cX9_init 103 = .ok (.putfield 47, 3) := by decide +kernel
theorem dX9_init_106 : decode cX9_init 106 = .ok (.aload_n 0, 1) := by decide +kernel
theorem dX9_init_107 : decode cX9_init 107 = .ok (.bipush 48, 2) := by decide +kernel
theorem dX9_init_109 : decode cX9_init 109 = .ok (.newarray .int, 2) := by decide +kernel
theorem dX9_init_111 : decode cX9_init 111 = .ok (.putfield 50, 3) := by decide +kernel
theorem dX9_init_114 : decode cX9_init 114 = .ok (.aload_n 0, 1) := by decide +kernel
theorem dX9_init_115 : decode cX9_init 115 = .ok (.iconst 2, 1) := by decide +kernel
theorem dX9_init_116 : decode cX9_init 116 = .ok (.newarray .int, 2) := by decide +kernel
theorem dX9_init_118 : decode cX9_init 118 = .ok (.putfield 53, 3) := by decide +kernel
theorem dX9_init_121 : decode cX9_init 121 = .ok (.aload_n 0, 1) := by decide +kernel
theorem dX9_init_122 : decode cX9_init 122 = .ok (.bipush 60, 2) := by decide +kernel
theorem dX9_init_124 : decode cX9_init 124 = .ok (.newarray .int, 2) := by decide +kernel
theorem dX9_init_126 : decode cX9_init 126 = .ok (.putfield 56, 3) := by decide +kernel
theorem dX9_init_129 : decode cX9_init 129 = .ok (.aload_n 0, 1) := by decide +kernel
theorem dX9_init_130 : decode cX9_init 130 = .ok (.bipush 16, 2) := by decide +kernel
theorem dX9_init_132 : decode cX9_init 132 = .ok (.newarray .int, 2) := by decide +kernel
theorem dX9_init_134 : decode cX9_init 134 = .ok (.putfield 59, 3) := by decide +kernel
theorem dX9_init_137 : decode cX9_init 137 = .ok (.aload_n 0, 1) := by decide +kernel
theorem dX9_init_138 : decode cX9_init 138 = .ok (.iconst 1, 1) := by decide +kernel
theorem dX9_init_139 : decode cX9_init 139 = .ok (.putfield 62, 3) := by decide +kernel
theorem dX9_init_142 : decode cX9_init 142 = .ok (.aload_n 0, 1) := by decide +kernel
theorem dX9_init_143 : decode cX9_init 143 = .ok (.getfield 13, 3) := by decide +kernel
theorem dX9_init_146 : decode cX9_init 146 = .ok (.iconst 0, 1) := by decide +kernel
theorem dX9_init_147 : decode cX9_init 147 = .ok (.iconst (-1), 1) := by decide +kernel
theorem dX9_init_148 : decode cX9_init 148 = .ok (.iastore, 1) := by decide +kernel
theorem dX9_init_149 : decode cX9_init 149 = .ok (.aload_n 0, 1) := by decide +kernel
theorem dX9_init_150 : decode cX9_init 150 = .ok (.getfield 28, 3) := by decide +kernel
theorem dX9_init_153 : decode cX9_init 153 = .ok (.iconst 0, 1) := by decide +kernel
theorem dX9_init_154 : decode cX9_init 154 = .ok (.iconst (-1), 1) := by decide +kernel
theorem dX9_init_155 : decode cX9_init 155 = .ok (.iastore, 1) := by decide +kernel
theorem dX9_init_156 : decode cX9_init 156 = .ok (.aload_n 0, 1) := by decide +kernel
theorem dX9_init_157 : decode cX9_init 157 = .ok (.getfield 38, 3) := by decide +kernel
theorem dX9_init_160 : decode cX9_init 160 = .ok (.iconst 0, 1) := by decide +kernel
theorem dX9_init_161 : decode cX9_init 161 = .ok (.bipush 10, 2) := by decide +kernel
theorem dX9_init_163 : decode cX9_init 163 = .ok (.iastore, 1) := by decide +kernel
theorem dX9_init_164 : decode cX9_init 164 = .ok (.aload_n 0, 1) := by decide +kernel
theorem dX9_init_165 : decode cX9_init 165 = .ok (.getfield 38, 3) := by decide +kernel
theorem dX9_init_168 : decode cX9_init 168 = .ok (.iconst 1, 1) := by decide +kernel
theorem dX9_init_169 : decode cX9_init 169 = .ok (.bipush 30, 2) := by decide +kernel
theorem dX9_init_171 : decode cX9_init 171 = .ok (.iastore, 1) := by decide +kernel
theorem dX9_init_172 : decode cX9_init 172 = .ok (.return_, 1) := by decide +kernel
theorem dX9_thrown_0 : decode cX9_thrown 0 = .ok (.aload_n 0, 1) := by decide +kernel
theorem dX9_thrown_1 : decode cX9_thrown 1 = .ok (.getfield 66, 3) := by decide +kernel
theorem dX9_thrown_4 : decode cX9_thrown 4 = .ok (.ireturn, 1) := by decide +kernel
theorem dX9_in_0 : decode cX9_in 0 = .ok (.iload_n 0, 1) := by decide +kernel
theorem dX9_in_1 : decode cX9_in 1 = .ok (.iload_n 1, 1) := by decide +kernel
theorem dX9_in_2 : decode cX9_in 2 = .ok (.if_icmp .lt 12, 3) := by decide +kernel
theorem dX9_in_5 : decode cX9_in 5 = .ok (.iload_n 0, 1) := by decide +kernel
theorem dX9_in_6 : decode cX9_in 6 = .ok (.iload_n 2, 1) := by decide +kernel
theorem dX9_in_7 : decode cX9_in 7 = .ok (.if_icmp .gt 7, 3) := by decide +kernel
theorem dX9_in_10 : decode cX9_in 10 = .ok (.iconst 1, 1) := by decide +kernel
theorem dX9_in_11 : decode cX9_in 11 = .ok (.goto 4, 3) := by decide +kernel
theorem dX9_in_14 : decode cX9_in 14 = .ok (.iconst 0, 1) := by decide +kernel
theorem dX9_in_15 : decode cX9_in 15 = .ok (.ireturn, 1) := by decide +kernel
theorem dX9_holds_0 : decode cX9_holds 0 = .ok (.aload_n 0, 1) := by decide +kernel
theorem dX9_holds_1 : decode cX9_holds 1 = .ok (.iload_n 1, 1) := by decide +kernel
theorem dX9_holds_2 : decode cX9_holds 2 = .ok (.putfield 66, 3) := by decide +kernel
theorem dX9_holds_5 : decode cX9_holds 5 = .ok (.iload_n 1, 1) := by decide +kernel
theorem dX9_holds_6 : decode cX9_holds 6 = .ok (.ifCond .ne 7, 3) := by decide +kernel
theorem dX9_holds_9 : decode cX9_holds 9 = .ok (.iconst 1, 1) := by decide +kernel
theorem dX9_holds_10 : decode cX9_holds 10 = .ok (.goto 4, 3) := by decide +kernel
theorem dX9_holds_13 : decode cX9_holds 13 = .ok (.iconst 0, 1) := by decide +kernel
theorem dX9_holds_14 : decode cX9_holds 14 = .ok (.ireturn, 1) := by decide +kernel
theorem dX9_isItem_0 : decode cX9_isItem 0 = .ok (.iload_n 1, 1) := by decide +kernel
theorem dX9_isItem_1 : decode cX9_isItem 1 = .ok (.iconst 0, 1) := by decide +kernel
theorem dX9_isItem_2 : decode cX9_isItem 2 = .ok (.aload_n 0, 1) := by decide +kernel
theorem dX9_isItem_3 : decode cX9_isItem 3 = .ok (.getfield 62, 3) := by decide +kernel
theorem dX9_isItem_6 : decode cX9_isItem 6 = .ok (.iconst 1, 1) := by decide +kernel
theorem dX9_isItem_7 : decode cX9_isItem 7 = .ok (.isub, 1) := by decide +kernel
theorem dX9_isItem_8 : decode cX9_isItem 8 = .ok (.invokestatic 69, 3) := by decide +kernel
theorem dX9_isItem_11 : decode cX9_isItem 11 = .ok (.ireturn, 1) := by decide +kernel
theorem dX9_isShut_0 : decode cX9_isShut 0 = .ok (.aload_n 0, 1) := by decide +kernel
theorem dX9_isShut_1 : decode cX9_isShut 1 = .ok (.getfield 28, 3) := by decide +kernel
theorem dX9_isShut_4 : decode cX9_isShut 4 = .ok (.iload_n 1, 1) := by decide +kernel
theorem dX9_isShut_5 : decode cX9_isShut 5 = .ok (.iaload, 1) := by decide +kernel
theorem dX9_isShut_6 : decode cX9_isShut 6 = .ok (.iconst (-1), 1) := by decide +kernel
theorem dX9_isShut_7 : decode cX9_isShut 7 = .ok (.if_icmp .eq 16, 3) := by decide +kernel
theorem dX9_isShut_10 : decode cX9_isShut 10 = .ok (.aload_n 0, 1) := by decide +kernel
theorem dX9_isShut_11 : decode cX9_isShut 11 = .ok (.getfield 31, 3) := by decide +kernel
theorem dX9_isShut_14 : decode cX9_isShut 14 = .ok (.iload_n 1, 1) := by decide +kernel
theorem dX9_isShut_15 : decode cX9_isShut 15 = .ok (.baload, 1) := by decide +kernel
theorem dX9_isShut_16 : decode cX9_isShut 16 = .ok (.ifCond .ne 7, 3) := by decide +kernel
theorem dX9_isShut_19 : decode cX9_isShut 19 = .ok (.iconst 1, 1) := by decide +kernel
theorem dX9_isShut_20 : decode cX9_isShut 20 = .ok (.goto 4, 3) := by decide +kernel
theorem dX9_isShut_23 : decode cX9_isShut 23 = .ok (.iconst 0, 1) := by decide +kernel
theorem dX9_isShut_24 : decode cX9_isShut 24 = .ok (.ireturn, 1) := by decide +kernel
theorem dX9_levelOf_0 : decode cX9_levelOf 0 = .ok (.iconst 0, 1) := by decide +kernel
theorem dX9_levelOf_1 : decode cX9_levelOf 1 = .ok (.istore_n 2, 1) := by decide +kernel
theorem dX9_levelOf_2 : decode cX9_levelOf 2 = .ok (.iload_n 1, 1) := by decide +kernel
theorem dX9_levelOf_3 : decode cX9_levelOf 3 = .ok (.istore_n 3, 1) := by decide +kernel
theorem dX9_levelOf_4 : decode cX9_levelOf 4 = .ok (.aload_n 0, 1) := by decide +kernel
theorem dX9_levelOf_5 : decode cX9_levelOf 5 = .ok (.getfield 13, 3) := by decide +kernel
theorem dX9_levelOf_8 : decode cX9_levelOf 8 = .ok (.iload_n 3, 1) := by decide +kernel
theorem dX9_levelOf_9 : decode cX9_levelOf 9 = .ok (.iaload, 1) := by decide +kernel
theorem dX9_levelOf_10 : decode cX9_levelOf 10 = .ok (.iconst (-1), 1) := by decide +kernel
theorem dX9_levelOf_11 : decode cX9_levelOf 11 = .ok (.if_icmp .eq 16, 3) := by decide +kernel
theorem dX9_levelOf_14 : decode cX9_levelOf 14 = .ok (.iinc 2 1, 3) := by decide +kernel
theorem dX9_levelOf_17 : decode cX9_levelOf 17 = .ok (.aload_n 0, 1) := by decide +kernel
theorem dX9_levelOf_18 : decode cX9_levelOf 18 = .ok (.getfield 13, 3) := by decide +kernel
theorem dX9_levelOf_21 : decode cX9_levelOf 21 = .ok (.iload_n 3, 1) := by decide +kernel
theorem dX9_levelOf_22 : decode cX9_levelOf 22 = .ok (.iaload, 1) := by decide +kernel
theorem dX9_levelOf_23 : decode cX9_levelOf 23 = .ok (.istore_n 3, 1) := by decide +kernel
theorem dX9_levelOf_24 : decode cX9_levelOf 24 = .ok (.goto (-20), 3) := by decide +kernel
theorem dX9_levelOf_27 : decode cX9_levelOf 27 = .ok (.iload_n 2, 1) := by decide +kernel
theorem dX9_levelOf_28 : decode cX9_levelOf 28 = .ok (.ireturn, 1) := by decide +kernel
theorem dX9_itemsOf_0 : decode cX9_itemsOf 0 = .ok (.iconst 0, 1) := by decide +kernel
theorem dX9_itemsOf_1 : decode cX9_itemsOf 1 = .ok (.istore_n 2, 1) := by decide +kernel
theorem dX9_itemsOf_2 : decode cX9_itemsOf 2 = .ok (.iconst 1, 1) := by decide +kernel
theorem dX9_itemsOf_3 : decode cX9_itemsOf 3 = .ok (.istore_n 3, 1) := by decide +kernel
theorem dX9_itemsOf_4 : decode cX9_itemsOf 4 = .ok (.iload_n 3, 1) := by decide +kernel
theorem dX9_itemsOf_5 : decode cX9_itemsOf 5 = .ok (.aload_n 0, 1) := by decide +kernel
theorem dX9_itemsOf_6 : decode cX9_itemsOf 6 = .ok (.getfield 62, 3) := by decide +kernel
theorem dX9_itemsOf_9 : decode cX9_itemsOf 9 = .ok (.if_icmp .ge 27, 3) := by decide +kernel
theorem dX9_itemsOf_12 : decode cX9_itemsOf 12 = .ok (.iload_n 2, 1) := by decide +kernel
theorem dX9_itemsOf_13 : decode cX9_itemsOf 13 = .ok (.aload_n 0, 1) := by decide +kernel
theorem dX9_itemsOf_14 : decode cX9_itemsOf 14 = .ok (.getfield 13, 3) := by decide +kernel
theorem dX9_itemsOf_17 : decode cX9_itemsOf 17 = .ok (.iload_n 3, 1) := by decide +kernel
theorem dX9_itemsOf_18 : decode cX9_itemsOf 18 = .ok (.iaload, 1) := by decide +kernel
theorem dX9_itemsOf_19 : decode cX9_itemsOf 19 = .ok (.iload_n 1, 1) := by decide +kernel
theorem dX9_itemsOf_20 : decode cX9_itemsOf 20 = .ok (.if_icmp .ne 7, 3) := by decide +kernel
theorem dX9_itemsOf_23 : decode cX9_itemsOf 23 = .ok (.iconst 1, 1) := by decide +kernel
theorem dX9_itemsOf_24 : decode cX9_itemsOf 24 = .ok (.goto 4, 3) := by decide +kernel
theorem dX9_itemsOf_27 : decode cX9_itemsOf 27 = .ok (.iconst 0, 1) := by decide +kernel
theorem dX9_itemsOf_28 : decode cX9_itemsOf 28 = .ok (.iadd, 1) := by decide +kernel
theorem dX9_itemsOf_29 : decode cX9_itemsOf 29 = .ok (.istore_n 2, 1) := by decide +kernel
theorem dX9_itemsOf_30 : decode cX9_itemsOf 30 = .ok (.iinc 3 1, 3) := by decide +kernel
theorem dX9_itemsOf_33 : decode cX9_itemsOf 33 = .ok (.goto (-29), 3) := by decide +kernel
theorem dX9_itemsOf_36 : decode cX9_itemsOf 36 = .ok (.iload_n 2, 1) := by decide +kernel
theorem dX9_itemsOf_37 : decode cX9_itemsOf 37 = .ok (.ireturn, 1) := by decide +kernel
theorem dX9_entries_0 : decode cX9_entries 0 = .ok (.aload_n 0, 1) := by decide +kernel
theorem dX9_entries_1 : decode cX9_entries 1 = .ok (.iload_n 1, 1) := by decide +kernel
theorem dX9_entries_2 : decode cX9_entries 2 = .ok (.invokevirtual 73, 3) := by decide +kernel
theorem dX9_entries_5 : decode cX9_entries 5 = .ok (.iload_n 1, 1) := by decide +kernel
theorem dX9_entries_6 : decode cX9_entries 6 = .ok (.ifCond .ne 7, 3) := by decide +kernel
theorem dX9_entries_9 : decode cX9_entries 9 = .ok (.iconst 0, 1) := by decide +kernel
theorem dX9_entries_10 : decode cX9_entries 10 = .ok (.goto 4, 3) := by decide +kernel
theorem dX9_entries_13 : decode cX9_entries 13 = .ok (.iconst 1, 1) := by decide +kernel
theorem dX9_entries_14 : decode cX9_entries 14 = .ok (.iadd, 1) := by decide +kernel
theorem dX9_entries_15 : decode cX9_entries 15 = .ok (.ireturn, 1) := by decide +kernel
theorem dX9_indexOf_0 : decode cX9_indexOf 0 = .ok (.iconst 0, 1) := by decide +kernel
theorem dX9_indexOf_1 : decode cX9_indexOf 1 = .ok (.istore_n 2, 1) := by decide +kernel
theorem dX9_indexOf_2 : decode cX9_indexOf 2 = .ok (.iconst 1, 1) := by decide +kernel
theorem dX9_indexOf_3 : decode cX9_indexOf 3 = .ok (.istore_n 3, 1) := by decide +kernel
theorem dX9_indexOf_4 : decode cX9_indexOf 4 = .ok (.iload_n 3, 1) := by decide +kernel
theorem dX9_indexOf_5 : decode cX9_indexOf 5 = .ok (.iload_n 1, 1) := by decide +kernel
theorem dX9_indexOf_6 : decode cX9_indexOf 6 = .ok (.if_icmp .ge 32, 3) := by decide +kernel
theorem dX9_indexOf_9 : decode cX9_indexOf 9 = .ok (.iload_n 2, 1) := by decide +kernel
theorem dX9_indexOf_10 : decode cX9_indexOf 10 = .ok (.aload_n 0, 1) := by decide +kernel
theorem dX9_indexOf_11 : decode cX9_indexOf 11 = .ok (.getfield 13, 3) := by decide +kernel
theorem dX9_indexOf_14 : decode cX9_indexOf 14 = .ok (.iload_n 3, 1) := by decide +kernel
theorem dX9_indexOf_15 : decode cX9_indexOf 15 = .ok (.iaload, 1) := by decide +kernel
theorem dX9_indexOf_16 : decode cX9_indexOf 16 = .ok (.aload_n 0, 1) := by decide +kernel
theorem dX9_indexOf_17 : decode cX9_indexOf 17 = .ok (.getfield 13, 3) := by decide +kernel
theorem dX9_indexOf_20 : decode cX9_indexOf 20 = .ok (.iload_n 1, 1) := by decide +kernel
theorem dX9_indexOf_21 : decode cX9_indexOf 21 = .ok (.iaload, 1) := by decide +kernel
theorem dX9_indexOf_22 : decode cX9_indexOf 22 = .ok (.if_icmp .ne 7, 3) := by decide +kernel
theorem dX9_indexOf_25 : decode cX9_indexOf 25 = .ok (.iconst 1, 1) := by decide +kernel
theorem dX9_indexOf_26 : decode cX9_indexOf 26 = .ok (.goto 4, 3) := by decide +kernel
theorem dX9_indexOf_29 : decode cX9_indexOf 29 = .ok (.iconst 0, 1) := by decide +kernel
theorem dX9_indexOf_30 : decode cX9_indexOf 30 = .ok (.iadd, 1) := by decide +kernel
theorem dX9_indexOf_31 : decode cX9_indexOf 31 = .ok (.istore_n 2, 1) := by decide +kernel
theorem dX9_indexOf_32 : decode cX9_indexOf 32 = .ok (.iinc 3 1, 3) := by decide +kernel
theorem dX9_indexOf_35 : decode cX9_indexOf 35 = .ok (.goto (-31), 3) := by decide +kernel
theorem dX9_indexOf_38 : decode cX9_indexOf 38 = .ok (.iload_n 2, 1) := by decide +kernel
theorem dX9_indexOf_39 : decode cX9_indexOf 39 = .ok (.ireturn, 1) := by decide +kernel
theorem dX9_itemAt_0 : decode cX9_itemAt 0 = .ok (.iconst 1, 1) := by decide +kernel
theorem dX9_itemAt_1 : decode cX9_itemAt 1 = .ok (.istore_n 2, 1) := by decide +kernel
theorem dX9_itemAt_2 : decode cX9_itemAt 2 = .ok (.iload_n 2, 1) := by decide +kernel
theorem dX9_itemAt_3 : decode cX9_itemAt 3 = .ok (.aload_n 0, 1) := by decide +kernel
theorem dX9_itemAt_4 : decode cX9_itemAt 4 = .ok (.getfield 62, 3) := by decide +kernel
theorem dX9_itemAt_7 : decode cX9_itemAt 7 = .ok (.if_icmp .ge 33, 3) := by decide +kernel
theorem dX9_itemAt_10 : decode cX9_itemAt 10 = .ok (.aload_n 0, 1) := by decide +kernel
theorem dX9_itemAt_11 : decode cX9_itemAt 11 = .ok (.getfield 13, 3) := by decide +kernel
theorem dX9_itemAt_14 : decode cX9_itemAt 14 = .ok (.iload_n 2, 1) := by decide +kernel
theorem dX9_itemAt_15 : decode cX9_itemAt 15 = .ok (.iaload, 1) := by decide +kernel
theorem dX9_itemAt_16 : decode cX9_itemAt 16 = .ok (.aload_n 0, 1) := by decide +kernel
theorem dX9_itemAt_17 : decode cX9_itemAt 17 = .ok (.getfield 77, 3) := by decide +kernel
theorem dX9_itemAt_20 : decode cX9_itemAt 20 = .ok (.if_icmp .ne 14, 3) := by decide +kernel
theorem dX9_itemAt_23 : decode cX9_itemAt 23 = .ok (.aload_n 0, 1) := by decide +kernel
theorem dX9_itemAt_24 : decode cX9_itemAt 24 = .ok (.iload_n 2, 1) := by decide +kernel
theorem dX9_itemAt_25 : decode cX9_itemAt 25 = .ok (.invokevirtual 80, 3) := by decide +kernel
theorem dX9_itemAt_28 : decode cX9_itemAt 28 = .ok (.iload_n 1, 1) := by decide +kernel
theorem dX9_itemAt_29 : decode cX9_itemAt 29 = .ok (.if_icmp .ne 5, 3) := by decide +kernel
theorem dX9_itemAt_32 : decode cX9_itemAt 32 = .ok (.iload_n 2, 1) := by decide +kernel
theorem dX9_itemAt_33 : decode cX9_itemAt 33 = .ok (.ireturn, 1) := by decide +kernel
theorem dX9_itemAt_34 : decode cX9_itemAt 34 = .ok (.iinc 2 1, 3) := by decide +kernel
theorem dX9_itemAt_37 : decode cX9_itemAt 37 = .ok (.goto (-35), 3) := by decide +kernel
theorem dX9_itemAt_40 : decode cX9_itemAt 40 = .ok (.iconst (-1), 1) := by decide +kernel
theorem dX9_itemAt_41 : decode cX9_itemAt 41 = .ok (.ireturn, 1) := by decide +kernel
theorem dX9_anyOpen_0 : decode cX9_anyOpen 0 = .ok (.iconst 0, 1) := by decide +kernel
theorem dX9_anyOpen_1 : decode cX9_anyOpen 1 = .ok (.istore_n 1, 1) := by decide +kernel
theorem dX9_anyOpen_2 : decode cX9_anyOpen 2 = .ok (.iconst 0, 1) := by decide +kernel
theorem dX9_anyOpen_3 : decode cX9_anyOpen 3 = .ok (.istore_n 2, 1) := by decide +kernel
theorem dX9_anyOpen_4 : decode cX9_anyOpen 4 = .ok (.iload_n 2, 1) := by decide +kernel
theorem dX9_anyOpen_5 : decode cX9_anyOpen 5 = .ok (.aload_n 0, 1) := by decide +kernel
theorem dX9_anyOpen_6 : decode cX9_anyOpen 6 = .ok (.getfield 62, 3) := by decide +kernel
theorem dX9_anyOpen_9 : decode cX9_anyOpen 9 = .ok (.if_icmp .ge 38, 3) := by decide +kernel
theorem dX9_anyOpen_12 : decode cX9_anyOpen 12 = .ok (.iload_n 1, 1) := by decide +kernel
theorem dX9_anyOpen_13 : decode cX9_anyOpen 13 = .ok (.ifCond .ne 22, 3) := by decide +kernel
theorem dX9_anyOpen_16 : decode cX9_anyOpen 16 = .ok (.aload_n 0, 1) := by decide +kernel
theorem dX9_anyOpen_17 : decode cX9_anyOpen 17 = .ok (.getfield 28, 3) := by decide +kernel
theorem dX9_anyOpen_20 : decode cX9_anyOpen 20 = .ok (.iload_n 2, 1) := by decide +kernel
theorem dX9_anyOpen_21 : decode cX9_anyOpen 21 = .ok (.iaload, 1) := by decide +kernel
theorem dX9_anyOpen_22 : decode cX9_anyOpen 22 = .ok (.iconst (-1), 1) := by decide +kernel
theorem dX9_anyOpen_23 : decode cX9_anyOpen 23 = .ok (.if_icmp .eq 16, 3) := by decide +kernel
theorem dX9_anyOpen_26 : decode cX9_anyOpen 26 = .ok (.aload_n 0, 1) := by decide +kernel
theorem dX9_anyOpen_27 : decode cX9_anyOpen 27 = .ok (.getfield 31, 3) := by decide +kernel
theorem dX9_anyOpen_30 : decode cX9_anyOpen 30 = .ok (.iload_n 2, 1) := by decide +kernel
theorem dX9_anyOpen_31 : decode cX9_anyOpen 31 = .ok (.baload, 1) := by decide +kernel
theorem dX9_anyOpen_32 : decode cX9_anyOpen 32 = .ok (.ifCond .eq 7, 3) := by decide +kernel
theorem dX9_anyOpen_35 : decode cX9_anyOpen 35 = .ok (.iconst 1, 1) := by decide +kernel
theorem dX9_anyOpen_36 : decode cX9_anyOpen 36 = .ok (.goto 4, 3) := by decide +kernel
theorem dX9_anyOpen_39 : decode cX9_anyOpen 39 = .ok (.iconst 0, 1) := by decide +kernel
theorem dX9_anyOpen_40 : decode cX9_anyOpen 40 = .ok (.istore_n 1, 1) := by decide +kernel
theorem dX9_anyOpen_41 : decode cX9_anyOpen 41 = .ok (.iinc 2 1, 3) := by decide +kernel
theorem dX9_anyOpen_44 : decode cX9_anyOpen 44 = .ok (.goto (-40), 3) := by decide +kernel
theorem dX9_anyOpen_47 : decode cX9_anyOpen 47 = .ok (.iload_n 1, 1) := by decide +kernel
theorem dX9_anyOpen_48 : decode cX9_anyOpen 48 = .ok (.ireturn, 1) := by decide +kernel
theorem dX9_home_0 : decode cX9_home 0 = .ok (.aload_n 0, 1) := by decide +kernel
theorem dX9_home_1 : decode cX9_home 1 = .ok (.getfield 83, 3) := by decide +kernel
theorem dX9_home_4 : decode cX9_home 4 = .ok (.ifCond .ne 28, 3) := by decide +kernel
theorem dX9_home_7 : decode cX9_home 7 = .ok (.aload_n 0, 1) := by decide +kernel
theorem dX9_home_8 : decode cX9_home 8 = .ok (.getfield 77, 3) := by decide +kernel
theorem dX9_home_11 : decode cX9_home 11 = .ok (.ifCond .ne 21, 3) := by decide +kernel
theorem dX9_home_14 : decode cX9_home 14 = .ok (.aload_n 0, 1) := by decide +kernel
theorem dX9_home_15 : decode cX9_home 15 = .ok (.getfield 86, 3) := by decide +kernel
theorem dX9_home_18 : decode cX9_home 18 = .ok (.ifCond .ne 14, 3) := by decide +kernel
theorem dX9_home_21 : decode cX9_home 21 = .ok (.aload_n 0, 1) := by decide +kernel
theorem dX9_home_22 : decode cX9_home 22 = .ok (.invokevirtual 89, 3) := by decide +kernel
theorem dX9_home_25 : decode cX9_home 25 = .ok (.ifCond .ne 7, 3) := by decide +kernel
theorem dX9_home_28 : decode cX9_home 28 = .ok (.iconst 1, 1) := by decide +kernel
theorem dX9_home_29 : decode cX9_home 29 = .ok (.goto 4, 3) := by decide +kernel
theorem dX9_home_32 : decode cX9_home 32 = .ok (.iconst 0, 1) := by decide +kernel
theorem dX9_home_33 : decode cX9_home 33 = .ok (.ireturn, 1) := by decide +kernel
theorem dX9_goHome_0 : decode cX9_goHome 0 = .ok (.aload_n 0, 1) := by decide +kernel
theorem dX9_goHome_1 : decode cX9_goHome 1 = .ok (.iconst 0, 1) := by decide +kernel
theorem dX9_goHome_2 : decode cX9_goHome 2 = .ok (.putfield 83, 3) := by decide +kernel
theorem dX9_goHome_5 : decode cX9_goHome 5 = .ok (.aload_n 0, 1) := by decide +kernel
theorem dX9_goHome_6 : decode cX9_goHome 6 = .ok (.iconst 0, 1) := by decide +kernel
theorem dX9_goHome_7 : decode cX9_goHome 7 = .ok (.putfield 77, 3) := by decide +kernel
theorem dX9_goHome_10 : decode cX9_goHome 10 = .ok (.aload_n 0, 1) := by decide +kernel
theorem dX9_goHome_11 : decode cX9_goHome 11 = .ok (.iconst 0, 1) := by decide +kernel
theorem dX9_goHome_12 : decode cX9_goHome 12 = .ok (.putfield 86, 3) := by decide +kernel
theorem dX9_goHome_15 : decode cX9_goHome 15 = .ok (.iconst 0, 1) := by decide +kernel
theorem dX9_goHome_16 : decode cX9_goHome 16 = .ok (.istore_n 1, 1) := by decide +kernel
theorem dX9_goHome_17 : decode cX9_goHome 17 = .ok (.iload_n 1, 1) := by decide +kernel
theorem dX9_goHome_18 : decode cX9_goHome 18 = .ok (.aload_n 0, 1) := by decide +kernel
theorem dX9_goHome_19 : decode cX9_goHome 19 = .ok (.getfield 62, 3) := by decide +kernel
theorem dX9_goHome_22 : decode cX9_goHome 22 = .ok (.if_icmp .ge 16, 3) := by decide +kernel
theorem dX9_goHome_25 : decode cX9_goHome 25 = .ok (.aload_n 0, 1) := by decide +kernel
theorem dX9_goHome_26 : decode cX9_goHome 26 = .ok (.getfield 31, 3) := by decide +kernel
theorem dX9_goHome_29 : decode cX9_goHome 29 = .ok (.iload_n 1, 1) := by decide +kernel
theorem dX9_goHome_30 : decode cX9_goHome 30 = .ok (.iconst 0, 1) := by decide +kernel
theorem dX9_goHome_31 : decode cX9_goHome 31 = .ok (.bastore, 1) := by decide +kernel
theorem dX9_goHome_32 : decode cX9_goHome 32 = .ok (.iinc 1 1, 3) := by decide +kernel
theorem dX9_goHome_35 : decode cX9_goHome 35 = .ok (.goto (-18), 3) := by decide +kernel
theorem dX9_goHome_38 : decode cX9_goHome 38 = .ok (.return_, 1) := by decide +kernel
theorem dX9_adds_0 : decode cX9_adds 0 = .ok (.aload_n 0, 1) := by decide +kernel
theorem dX9_adds_1 : decode cX9_adds 1 = .ok (.getfield 7, 3) := by decide +kernel
theorem dX9_adds_4 : decode cX9_adds 4 = .ok (.aload_n 0, 1) := by decide +kernel
theorem dX9_adds_5 : decode cX9_adds 5 = .ok (.getfield 62, 3) := by decide +kernel
theorem dX9_adds_8 : decode cX9_adds 8 = .ok (.iload_n 1, 1) := by decide +kernel
theorem dX9_adds_9 : decode cX9_adds 9 = .ok (.iastore, 1) := by decide +kernel
theorem dX9_adds_10 : decode cX9_adds 10 = .ok (.aload_n 0, 1) := by decide +kernel
theorem dX9_adds_11 : decode cX9_adds 11 = .ok (.getfield 13, 3) := by decide +kernel
theorem dX9_adds_14 : decode cX9_adds 14 = .ok (.aload_n 0, 1) := by decide +kernel
theorem dX9_adds_15 : decode cX9_adds 15 = .ok (.getfield 62, 3) := by decide +kernel
theorem dX9_adds_18 : decode cX9_adds 18 = .ok (.iload_n 2, 1) := by decide +kernel
theorem dX9_adds_19 : decode cX9_adds 19 = .ok (.iastore, 1) := by decide +kernel
theorem dX9_adds_20 : decode cX9_adds 20 = .ok (.aload_n 0, 1) := by decide +kernel
theorem dX9_adds_21 : decode cX9_adds 21 = .ok (.getfield 28, 3) := by decide +kernel
theorem dX9_adds_24 : decode cX9_adds 24 = .ok (.aload_n 0, 1) := by decide +kernel
theorem dX9_adds_25 : decode cX9_adds 25 = .ok (.getfield 62, 3) := by decide +kernel
theorem dX9_adds_28 : decode cX9_adds 28 = .ok (.iconst (-1), 1) := by decide +kernel
theorem dX9_adds_29 : decode cX9_adds 29 = .ok (.iastore, 1) := by decide +kernel
theorem dX9_adds_30 : decode cX9_adds 30 = .ok (.aload_n 0, 1) := by decide +kernel
theorem dX9_adds_31 : decode cX9_adds 31 = .ok (.dup, 1) := by decide +kernel
theorem dX9_adds_32 : decode cX9_adds 32 = .ok (.getfield 62, 3) := by decide +kernel
theorem dX9_adds_35 : decode cX9_adds 35 = .ok (.iconst 1, 1) := by decide +kernel
theorem dX9_adds_36 : decode cX9_adds 36 = .ok (.iadd, 1) := by decide +kernel
theorem dX9_adds_37 : decode cX9_adds 37 = .ok (.putfield 62, 3) := by decide +kernel
theorem dX9_adds_40 : decode cX9_adds 40 = .ok (.aload_n 0, 1) := by decide +kernel
theorem dX9_adds_41 : decode cX9_adds 41 = .ok (.getfield 62, 3) := by decide +kernel
theorem dX9_adds_44 : decode cX9_adds 44 = .ok (.iconst 1, 1) := by decide +kernel
theorem dX9_adds_45 : decode cX9_adds 45 = .ok (.isub, 1) := by decide +kernel
theorem dX9_adds_46 : decode cX9_adds 46 = .ok (.ireturn, 1) := by decide +kernel
theorem dX9_isMenu_0 : decode cX9_isMenu 0 = .ok (.aload_n 0, 1) := by decide +kernel
theorem dX9_isMenu_1 : decode cX9_isMenu 1 = .ok (.getfield 7, 3) := by decide +kernel
theorem dX9_isMenu_4 : decode cX9_isMenu 4 = .ok (.iload_n 1, 1) := by decide +kernel
theorem dX9_isMenu_5 : decode cX9_isMenu 5 = .ok (.iaload, 1) := by decide +kernel
theorem dX9_isMenu_6 : decode cX9_isMenu 6 = .ok (.ifCond .ne 7, 3) := by decide +kernel
theorem dX9_isMenu_9 : decode cX9_isMenu 9 = .ok (.iconst 1, 1) := by decide +kernel
theorem dX9_isMenu_10 : decode cX9_isMenu 10 = .ok (.goto 4, 3) := by decide +kernel
theorem dX9_isMenu_13 : decode cX9_isMenu 13 = .ok (.iconst 0, 1) := by decide +kernel
theorem dX9_isMenu_14 : decode cX9_isMenu 14 = .ok (.ireturn, 1) := by decide +kernel
theorem dX9_canAdd_0 : decode cX9_canAdd 0 = .ok (.aload_n 0, 1) := by decide +kernel
theorem dX9_canAdd_1 : decode cX9_canAdd 1 = .ok (.invokevirtual 93, 3) := by decide +kernel
theorem dX9_canAdd_4 : decode cX9_canAdd 4 = .ok (.ifCond .eq 26, 3) := by decide +kernel
theorem dX9_canAdd_7 : decode cX9_canAdd 7 = .ok (.aload_n 0, 1) := by decide +kernel
theorem dX9_canAdd_8 : decode cX9_canAdd 8 = .ok (.getfield 62, 3) := by decide +kernel
theorem dX9_canAdd_11 : decode cX9_canAdd 11 = .ok (.bipush 24, 2) := by decide +kernel
theorem dX9_canAdd_13 : decode cX9_canAdd 13 = .ok (.if_icmp .ge 17, 3) := by decide +kernel
theorem dX9_canAdd_16 : decode cX9_canAdd 16 = .ok (.aload_n 0, 1) := by decide +kernel
theorem dX9_canAdd_17 : decode cX9_canAdd 17 = .ok (.iload_n 1, 1) := by decide +kernel
theorem dX9_canAdd_18 : decode cX9_canAdd 18 = .ok (.invokevirtual 73, 3) := by decide +kernel
theorem dX9_canAdd_21 : decode cX9_canAdd 21 = .ok (.bipush 8, 2) := by decide +kernel
theorem dX9_canAdd_23 : decode cX9_canAdd 23 = .ok (.if_icmp .ge 7, 3) := by decide +kernel
theorem dX9_canAdd_26 : decode cX9_canAdd 26 = .ok (.iconst 1, 1) := by decide +kernel
theorem dX9_canAdd_27 : decode cX9_canAdd 27 = .ok (.goto 4, 3) := by decide +kernel
theorem dX9_canAdd_30 : decode cX9_canAdd 30 = .ok (.iconst 0, 1) := by decide +kernel
theorem dX9_canAdd_31 : decode cX9_canAdd 31 = .ok (.ireturn, 1) := by decide +kernel
theorem dX9_addMenu_0 : decode cX9_addMenu 0 = .ok (.aload_n 0, 1) := by decide +kernel
theorem dX9_addMenu_1 : decode cX9_addMenu 1 = .ok (.aload_n 0, 1) := by decide +kernel
theorem dX9_addMenu_2 : decode cX9_addMenu 2 = .ok (.iload_n 1, 1) := by decide +kernel
theorem dX9_addMenu_3 : decode cX9_addMenu 3 = .ok (.invokevirtual 96, 3) := by decide +kernel
theorem dX9_addMenu_6 : decode cX9_addMenu 6 = .ok (.ifCond .ne 7, 3) := by decide +kernel
theorem dX9_addMenu_9 : decode cX9_addMenu 9 = .ok (.iconst 1, 1) := by decide +kernel
theorem dX9_addMenu_10 : decode cX9_addMenu 10 = .ok (.goto 37, 3) := by decide +kernel
theorem dX9_addMenu_13 : decode cX9_addMenu 13 = .ok (.aload_n 0, 1) := by decide +kernel
theorem dX9_addMenu_14 : decode cX9_addMenu 14 = .ok (.iload_n 1, 1) := by decide +kernel
theorem dX9_addMenu_15 : decode cX9_addMenu 15 = .ok (.invokevirtual 100, 3) := by decide +kernel
theorem dX9_addMenu_18 : decode cX9_addMenu 18 = .ok (.ifCond .ne 7, 3) := by decide +kernel
theorem dX9_addMenu_21 : decode cX9_addMenu 21 = .ok (.iconst 2, 1) := by decide +kernel
theorem dX9_addMenu_22 : decode cX9_addMenu 22 = .ok (.goto 25, 3) := by decide +kernel
theorem dX9_addMenu_25 : decode cX9_addMenu 25 = .ok (.aload_n 0, 1) := by decide +kernel
theorem dX9_addMenu_26 : decode cX9_addMenu 26 = .ok (.iload_n 1, 1) := by decide +kernel
theorem dX9_addMenu_27 : decode cX9_addMenu 27 = .ok (.invokevirtual 103, 3) := by decide +kernel
theorem dX9_addMenu_30 : decode cX9_addMenu 30 = .ok (.ifCond .eq 12, 3) := by decide +kernel
theorem dX9_addMenu_33 : decode cX9_addMenu 33 = .ok (.aload_n 0, 1) := by decide +kernel
theorem dX9_addMenu_34 : decode cX9_addMenu 34 = .ok (.iload_n 1, 1) := by decide +kernel
theorem dX9_addMenu_35 : decode cX9_addMenu 35 = .ok (.invokevirtual 106, 3) := by decide +kernel
theorem dX9_addMenu_38 : decode cX9_addMenu 38 = .ok (.iconst 3, 1) := by decide +kernel
theorem dX9_addMenu_39 : decode cX9_addMenu 39 = .ok (.if_icmp .ne 7, 3) := by decide +kernel
theorem dX9_addMenu_42 : decode cX9_addMenu 42 = .ok (.iconst 3, 1) := by decide +kernel
theorem dX9_addMenu_43 : decode cX9_addMenu 43 = .ok (.goto 4, 3) := by decide +kernel
theorem dX9_addMenu_46 : decode cX9_addMenu 46 = .ok (.iconst 0, 1) := by decide +kernel
theorem dX9_addMenu_47 : decode cX9_addMenu 47 = .ok (.invokevirtual 109, 3) := by decide +kernel
theorem dX9_addMenu_50 : decode cX9_addMenu 50 = .ok (.ifCond .ne 5, 3) := by decide +kernel
theorem dX9_addMenu_53 : decode cX9_addMenu 53 = .ok (.iconst 0, 1) := by decide +kernel
theorem dX9_addMenu_54 : decode cX9_addMenu 54 = .ok (.ireturn, 1) := by decide +kernel
theorem dX9_addMenu_55 : decode cX9_addMenu 55 = .ok (.aload_n 0, 1) := by decide +kernel
theorem dX9_addMenu_56 : decode cX9_addMenu 56 = .ok (.iconst 0, 1) := by decide +kernel
theorem dX9_addMenu_57 : decode cX9_addMenu 57 = .ok (.iload_n 1, 1) := by decide +kernel
theorem dX9_addMenu_58 : decode cX9_addMenu 58 = .ok (.invokevirtual 112, 3) := by decide +kernel
theorem dX9_addMenu_61 : decode cX9_addMenu 61 = .ok (.ireturn, 1) := by decide +kernel
theorem dX9_addNumber_0 : decode cX9_addNumber 0 = .ok (.iload_n 2, 1) := by decide +kernel
theorem dX9_addNumber_1 : decode cX9_addNumber 1 = .ok (.sipush (-999), 3) := by decide +kernel
theorem dX9_addNumber_4 : decode cX9_addNumber 4 = .ok (.sipush 998, 3) := by decide +kernel
theorem dX9_addNumber_7 : decode cX9_addNumber 7 = .ok (.invokestatic 69, 3) := by decide +kernel
theorem dX9_addNumber_10 : decode cX9_addNumber 10 = .ok (.ifCond .eq 30, 3) := by decide +kernel
theorem dX9_addNumber_13 : decode cX9_addNumber 13 = .ok (.iload_n 3, 1) := by decide +kernel
theorem dX9_addNumber_14 : decode cX9_addNumber 14 = .ok (.iload_n 2, 1) := by decide +kernel
theorem dX9_addNumber_15 : decode cX9_addNumber 15 = .ok (.if_icmp .le 25, 3) := by decide +kernel
theorem dX9_addNumber_18 : decode cX9_addNumber 18 = .ok (.iload_n 3, 1) := by decide +kernel
theorem dX9_addNumber_19 : decode cX9_addNumber 19 = .ok (.sipush 999, 3) := by decide +kernel
theorem dX9_addNumber_22 : decode cX9_addNumber 22 = .ok (.if_icmp .gt 18, 3) := by decide +kernel
theorem dX9_addNumber_25 : decode cX9_addNumber 25 = .ok (.iload 4, 2) := by decide +kernel
theorem dX9_addNumber_27 : decode cX9_addNumber 27 = .ok (.iconst 1, 1) := by decide +kernel
theorem dX9_addNumber_28 : decode cX9_addNumber 28 = .ok (.bipush 100, 2) := by decide +kernel
theorem dX9_addNumber_30 : decode cX9_addNumber 30 = .ok (.invokestatic 69, 3) := by decide +kernel
theorem dX9_addNumber_33 : decode cX9_addNumber 33 = .ok (.ifCond .eq 7, 3) := by decide +kernel
theorem dX9_addNumber_36 : decode cX9_addNumber 36 = .ok (.iconst 1, 1) := by decide +kernel
theorem dX9_addNumber_37 : decode cX9_addNumber 37 = .ok (.goto 4, 3) := by decide +kernel
theorem dX9_addNumber_40 : decode cX9_addNumber 40 = .ok (.iconst 0, 1) := by decide +kernel
theorem dX9_addNumber_41 : decode cX9_addNumber 41 = .ok (.istore 5, 2) := by decide +kernel
theorem dX9_addNumber_43 : decode cX9_addNumber 43 = .ok (.aload_n 0, 1) := by decide +kernel
theorem dX9_addNumber_44 : decode cX9_addNumber 44 = .ok (.aload_n 0, 1) := by decide +kernel
theorem dX9_addNumber_45 : decode cX9_addNumber 45 = .ok (.iload_n 1, 1) := by decide +kernel
theorem dX9_addNumber_46 : decode cX9_addNumber 46 = .ok (.invokevirtual 96, 3) := by decide +kernel
theorem dX9_addNumber_49 : decode cX9_addNumber 49 = .ok (.ifCond .ne 7, 3) := by decide +kernel
theorem dX9_addNumber_52 : decode cX9_addNumber 52 = .ok (.iconst 1, 1) := by decide +kernel
theorem dX9_addNumber_53 : decode cX9_addNumber 53 = .ok (.goto 33, 3) := by decide +kernel
theorem dX9_addNumber_56 : decode cX9_addNumber 56 = .ok (.aload_n 0, 1) := by decide +kernel
theorem dX9_addNumber_57 : decode cX9_addNumber 57 = .ok (.iload_n 1, 1) := by decide +kernel
theorem dX9_addNumber_58 : decode cX9_addNumber 58 = .ok (.invokevirtual 100, 3) := by decide +kernel
theorem dX9_addNumber_61 : decode cX9_addNumber 61 = .ok (.ifCond .eq 8, 3) := by decide +kernel
theorem dX9_addNumber_64 : decode cX9_addNumber 64 = .ok (.iload 5, 2) := by decide +kernel
theorem dX9_addNumber_66 : decode cX9_addNumber 66 = .ok (.ifCond .ne 7, 3) := by decide +kernel
theorem dX9_addNumber_69 : decode cX9_addNumber 69 = .ok (.iconst 2, 1) := by decide +kernel
theorem dX9_addNumber_70 : decode cX9_addNumber 70 = .ok (.goto 16, 3) := by decide +kernel
theorem dX9_addNumber_73 : decode cX9_addNumber 73 = .ok (.aload_n 0, 1) := by decide +kernel
theorem dX9_addNumber_74 : decode cX9_addNumber 74 = .ok (.iload_n 1, 1) := by decide +kernel
theorem dX9_addNumber_75 : decode cX9_addNumber 75 = .ok (.invokevirtual 103, 3) := by decide +kernel
theorem dX9_addNumber_78 : decode cX9_addNumber 78 = .ok (.ifCond .ne 7, 3) := by decide +kernel
theorem dX9_addNumber_81 : decode cX9_addNumber 81 = .ok (.iconst 3, 1) := by decide +kernel
theorem dX9_addNumber_82 : decode cX9_addNumber 82 = .ok (.goto 4, 3) := by decide +kernel
theorem dX9_addNumber_85 : decode cX9_addNumber 85 = .ok (.iconst 0, 1) := by decide +kernel
theorem dX9_addNumber_86 : decode cX9_addNumber 86 = .ok (.invokevirtual 109, 3) := by decide +kernel
theorem dX9_addNumber_89 : decode cX9_addNumber 89 = .ok (.ifCond .ne 5, 3) := by decide +kernel
theorem dX9_addNumber_92 : decode cX9_addNumber 92 = .ok (.iconst 0, 1) := by decide +kernel
theorem dX9_addNumber_93 : decode cX9_addNumber 93 = .ok (.ireturn, 1) := by decide +kernel
theorem dX9_addNumber_94 : decode cX9_addNumber 94 = .ok (.aload_n 0, 1) := by decide +kernel
theorem dX9_addNumber_95 : decode cX9_addNumber 95 = .ok (.getfield 16, 3) := by decide +kernel
theorem dX9_addNumber_98 : decode cX9_addNumber 98 = .ok (.aload_n 0, 1) := by decide +kernel
theorem dX9_addNumber_99 : decode cX9_addNumber 99 = .ok (.getfield 62, 3) := by decide +kernel
theorem dX9_addNumber_102 : decode cX9_addNumber 102 = .ok (.iload_n 2, 1) := by decide +kernel
theorem dX9_addNumber_103 : decode cX9_addNumber 103 = .ok (.iastore, 1) := by decide +kernel
theorem dX9_addNumber_104 : decode cX9_addNumber 104 = .ok (.aload_n 0, 1) := by decide +kernel
theorem dX9_addNumber_105 : decode cX9_addNumber 105 = .ok (.getfield 19, 3) := by decide +kernel
theorem dX9_addNumber_108 : decode cX9_addNumber 108 = .ok (.aload_n 0, 1) := by decide +kernel
theorem dX9_addNumber_109 : decode cX9_addNumber 109 = .ok (.getfield 62, 3) := by decide +kernel
theorem dX9_addNumber_112 : decode cX9_addNumber 112 = .ok (.iload_n 3, 1) := by decide +kernel
theorem dX9_addNumber_113 : decode cX9_addNumber 113 = .ok (.iastore, 1) := by decide +kernel
theorem dX9_addNumber_114 : decode cX9_addNumber 114 = .ok (.aload_n 0, 1) := by decide +kernel
theorem dX9_addNumber_115 : decode cX9_addNumber 115 = .ok (.getfield 22, 3) := by decide +kernel
theorem dX9_addNumber_118 : decode cX9_addNumber 118 = .ok (.aload_n 0, 1) := by decide +kernel
theorem dX9_addNumber_119 : decode cX9_addNumber 119 = .ok (.getfield 62, 3) := by decide +kernel
theorem dX9_addNumber_122 : decode cX9_addNumber 122 = .ok (.iload 4, 2) := by decide +kernel
theorem dX9_addNumber_124 : decode cX9_addNumber 124 = .ok (.iastore, 1) := by decide +kernel
theorem dX9_addNumber_125 : decode cX9_addNumber 125 = .ok (.aload_n 0, 1) := by decide +kernel
theorem dX9_addNumber_126 : decode cX9_addNumber 126 = .ok (.getfield 25, 3) := by decide +kernel
theorem dX9_addNumber_129 : decode cX9_addNumber 129 = .ok (.aload_n 0, 1) := by decide +kernel
theorem dX9_addNumber_130 : decode cX9_addNumber 130 = .ok (.getfield 62, 3) := by decide +kernel
theorem dX9_addNumber_133 : decode cX9_addNumber 133 = .ok (.iload_n 2, 1) := by decide +kernel
theorem dX9_addNumber_134 : decode cX9_addNumber 134 = .ok (.iastore, 1) := by decide +kernel
theorem dX9_addNumber_135 : decode cX9_addNumber 135 = .ok (.aload_n 0, 1) := by decide +kernel
theorem dX9_addNumber_136 : decode cX9_addNumber 136 = .ok (.iconst 1, 1) := by decide +kernel
theorem dX9_addNumber_137 : decode cX9_addNumber 137 = .ok (.iload_n 1, 1) := by decide +kernel
theorem dX9_addNumber_138 : decode cX9_addNumber 138 = .ok (.invokevirtual 112, 3) := by decide +kernel
theorem dX9_addNumber_141 : decode cX9_addNumber 141 = .ok (.ireturn, 1) := by decide +kernel
theorem dX9_addChoice_0 : decode cX9_addChoice 0 = .ok (.aload_n 0, 1) := by decide +kernel
theorem dX9_addChoice_1 : decode cX9_addChoice 1 = .ok (.aload_n 0, 1) := by decide +kernel
theorem dX9_addChoice_2 : decode cX9_addChoice 2 = .ok (.iload_n 1, 1) := by decide +kernel
theorem dX9_addChoice_3 : decode cX9_addChoice 3 = .ok (.invokevirtual 96, 3) := by decide +kernel
theorem dX9_addChoice_6 : decode cX9_addChoice 6 = .ok (.ifCond .ne 7, 3) := by decide +kernel
theorem dX9_addChoice_9 : decode cX9_addChoice 9 = .ok (.iconst 1, 1) := by decide +kernel
theorem dX9_addChoice_10 : decode cX9_addChoice 10 = .ok (.goto 38, 3) := by decide +kernel
theorem dX9_addChoice_13 : decode cX9_addChoice 13 = .ok (.aload_n 0, 1) := by decide +kernel
theorem dX9_addChoice_14 : decode cX9_addChoice 14 = .ok (.iload_n 1, 1) := by decide +kernel
theorem dX9_addChoice_15 : decode cX9_addChoice 15 = .ok (.invokevirtual 100, 3) := by decide +kernel
theorem dX9_addChoice_18 : decode cX9_addChoice 18 = .ok (.ifCond .eq 13, 3) := by decide +kernel
theorem dX9_addChoice_21 : decode cX9_addChoice 21 = .ok (.iload_n 2, 1) := by decide +kernel
theorem dX9_addChoice_22 : decode cX9_addChoice 22 = .ok (.iconst 2, 1) := by decide +kernel
theorem dX9_addChoice_23 : decode cX9_addChoice 23 = .ok (.bipush 9, 2) := by decide +kernel
theorem dX9_addChoice_25 : decode cX9_addChoice 25 = .ok (.invokestatic 69, 3) := by decide +kernel
theorem dX9_addChoice_28 : decode cX9_addChoice 28 = .ok (.ifCond .ne 7, 3) := by decide +kernel
theorem dX9_addChoice_31 : decode cX9_addChoice 31 = .ok (.iconst 2, 1) := by decide +kernel
theorem dX9_addChoice_32 : decode cX9_addChoice 32 = .ok (.goto 16, 3) := by decide +kernel
theorem dX9_addChoice_35 : decode cX9_addChoice 35 = .ok (.aload_n 0, 1) := by decide +kernel
theorem dX9_addChoice_36 : decode cX9_addChoice 36 = .ok (.iload_n 1, 1) := by decide +kernel
theorem dX9_addChoice_37 : decode cX9_addChoice 37 = .ok (.invokevirtual 103, 3) := by decide +kernel
theorem dX9_addChoice_40 : decode cX9_addChoice 40 = .ok (.ifCond .ne 7, 3) := by decide +kernel
theorem dX9_addChoice_43 : decode cX9_addChoice 43 = .ok (.iconst 3, 1) := by decide +kernel
theorem dX9_addChoice_44 : decode cX9_addChoice 44 = .ok (.goto 4, 3) := by decide +kernel
theorem dX9_addChoice_47 : decode cX9_addChoice 47 = .ok (.iconst 0, 1) := by decide +kernel
theorem dX9_addChoice_48 : decode cX9_addChoice 48 = .ok (.invokevirtual 109, 3) := by decide +kernel
theorem dX9_addChoice_51 : decode cX9_addChoice 51 = .ok (.ifCond .ne 5, 3) := by decide +kernel
theorem dX9_addChoice_54 : decode cX9_addChoice 54 = .ok (.iconst 0, 1) := by decide +kernel
theorem dX9_addChoice_55 : decode cX9_addChoice 55 = .ok (.ireturn, 1) := by decide +kernel
theorem dX9_addChoice_56 : decode cX9_addChoice 56 = .ok (.aload_n 0, 1) := by decide +kernel
theorem dX9_addChoice_57 : decode cX9_addChoice 57 = .ok (.getfield 19, 3) := by decide +kernel
theorem dX9_addChoice_60 : decode cX9_addChoice 60 = .ok (.aload_n 0, 1) := by decide +kernel
theorem dX9_addChoice_61 : decode cX9_addChoice 61 = .ok (.getfield 62, 3) := by decide +kernel
theorem dX9_addChoice_64 : decode cX9_addChoice 64 = .ok (.iload_n 2, 1) := by decide +kernel
theorem dX9_addChoice_65 : decode cX9_addChoice 65 = .ok (.iconst 1, 1) := by decide +kernel
theorem dX9_addChoice_66 : decode cX9_addChoice 66 = .ok (.isub, 1) := by decide +kernel
theorem dX9_addChoice_67 : decode cX9_addChoice 67 = .ok (.iastore, 1) := by decide +kernel
theorem dX9_addChoice_68 : decode cX9_addChoice 68 = .ok (.aload_n 0, 1) := by decide +kernel
theorem dX9_addChoice_69 : decode cX9_addChoice 69 = .ok (.getfield 22, 3) := by decide +kernel
theorem dX9_addChoice_72 : decode cX9_addChoice 72 = .ok (.aload_n 0, 1) := by decide +kernel
theorem dX9_addChoice_73 : decode cX9_addChoice 73 = .ok (.getfield 62, 3) := by decide +kernel
theorem dX9_addChoice_76 : decode cX9_addChoice 76 = .ok (.iconst 1, 1) := by decide +kernel
theorem dX9_addChoice_77 : decode cX9_addChoice 77 = .ok (.iastore, 1) := by decide +kernel
theorem dX9_addChoice_78 : decode cX9_addChoice 78 = .ok (.aload_n 0, 1) := by decide +kernel
theorem dX9_addChoice_79 : decode cX9_addChoice 79 = .ok (.iconst 2, 1) := by decide +kernel
theorem dX9_addChoice_80 : decode cX9_addChoice 80 = .ok (.iload_n 1, 1) := by decide +kernel
theorem dX9_addChoice_81 : decode cX9_addChoice 81 = .ok (.invokevirtual 112, 3) := by decide +kernel
theorem dX9_addChoice_84 : decode cX9_addChoice 84 = .ok (.ireturn, 1) := by decide +kernel
theorem dX9_lock_0 : decode cX9_lock 0 = .ok (.aload_n 0, 1) := by decide +kernel
theorem dX9_lock_1 : decode cX9_lock 1 = .ok (.aload_n 0, 1) := by decide +kernel
theorem dX9_lock_2 : decode cX9_lock 2 = .ok (.iload_n 1, 1) := by decide +kernel
theorem dX9_lock_3 : decode cX9_lock 3 = .ok (.invokevirtual 96, 3) := by decide +kernel
theorem dX9_lock_6 : decode cX9_lock 6 = .ok (.ifCond .ne 7, 3) := by decide +kernel
theorem dX9_lock_9 : decode cX9_lock 9 = .ok (.iconst 1, 1) := by decide +kernel
theorem dX9_lock_10 : decode cX9_lock 10 = .ok (.goto 34, 3) := by decide +kernel
theorem dX9_lock_13 : decode cX9_lock 13 = .ok (.iload_n 1, 1) := by decide +kernel
theorem dX9_lock_14 : decode cX9_lock 14 = .ok (.ifCond .eq 14, 3) := by decide +kernel
theorem dX9_lock_17 : decode cX9_lock 17 = .ok (.iload_n 2, 1) := by decide +kernel
theorem dX9_lock_18 : decode cX9_lock 18 = .ok (.iconst (-1), 1) := by decide +kernel
theorem dX9_lock_19 : decode cX9_lock 19 = .ok (.sipush 9999, 3) := by decide +kernel
theorem dX9_lock_22 : decode cX9_lock 22 = .ok (.invokestatic 69, 3) := by decide +kernel
theorem dX9_lock_25 : decode cX9_lock 25 = .ok (.ifCond .ne 7, 3) := by decide +kernel
theorem dX9_lock_28 : decode cX9_lock 28 = .ok (.iconst 2, 1) := by decide +kernel
theorem dX9_lock_29 : decode cX9_lock 29 = .ok (.goto 15, 3) := by decide +kernel
theorem dX9_lock_32 : decode cX9_lock 32 = .ok (.aload_n 0, 1) := by decide +kernel
theorem dX9_lock_33 : decode cX9_lock 33 = .ok (.invokevirtual 93, 3) := by decide +kernel
theorem dX9_lock_36 : decode cX9_lock 36 = .ok (.ifCond .ne 7, 3) := by decide +kernel
theorem dX9_lock_39 : decode cX9_lock 39 = .ok (.iconst 3, 1) := by decide +kernel
theorem dX9_lock_40 : decode cX9_lock 40 = .ok (.goto 4, 3) := by decide +kernel
theorem dX9_lock_43 : decode cX9_lock 43 = .ok (.iconst 0, 1) := by decide +kernel
theorem dX9_lock_44 : decode cX9_lock 44 = .ok (.invokevirtual 109, 3) := by decide +kernel
theorem dX9_lock_47 : decode cX9_lock 47 = .ok (.ifCond .ne 5, 3) := by decide +kernel
theorem dX9_lock_50 : decode cX9_lock 50 = .ok (.iconst 0, 1) := by decide +kernel
theorem dX9_lock_51 : decode cX9_lock 51 = .ok (.ireturn, 1) := by decide +kernel
theorem dX9_lock_52 : decode cX9_lock 52 = .ok (.aload_n 0, 1) := by decide +kernel
theorem dX9_lock_53 : decode cX9_lock 53 = .ok (.getfield 28, 3) := by decide +kernel
theorem dX9_lock_56 : decode cX9_lock 56 = .ok (.iload_n 1, 1) := by decide +kernel
theorem dX9_lock_57 : decode cX9_lock 57 = .ok (.iaload, 1) := by decide +kernel
theorem dX9_lock_58 : decode cX9_lock 58 = .ok (.istore_n 3, 1) := by decide +kernel
theorem dX9_lock_59 : decode cX9_lock 59 = .ok (.aload_n 0, 1) := by decide +kernel
theorem dX9_lock_60 : decode cX9_lock 60 = .ok (.getfield 28, 3) := by decide +kernel
theorem dX9_lock_63 : decode cX9_lock 63 = .ok (.iload_n 1, 1) := by decide +kernel
theorem dX9_lock_64 : decode cX9_lock 64 = .ok (.iload_n 2, 1) := by decide +kernel
theorem dX9_lock_65 : decode cX9_lock 65 = .ok (.iastore, 1) := by decide +kernel
theorem dX9_lock_66 : decode cX9_lock 66 = .ok (.aload_n 0, 1) := by decide +kernel
theorem dX9_lock_67 : decode cX9_lock 67 = .ok (.getfield 31, 3) := by decide +kernel
theorem dX9_lock_70 : decode cX9_lock 70 = .ok (.iload_n 1, 1) := by decide +kernel
theorem dX9_lock_71 : decode cX9_lock 71 = .ok (.iconst 0, 1) := by decide +kernel
theorem dX9_lock_72 : decode cX9_lock 72 = .ok (.bastore, 1) := by decide +kernel
theorem dX9_lock_73 : decode cX9_lock 73 = .ok (.iload_n 3, 1) := by decide +kernel
theorem dX9_lock_74 : decode cX9_lock 74 = .ok (.ireturn, 1) := by decide +kernel
theorem dX9_items_0 : decode cX9_items 0 = .ok (.aload_n 0, 1) := by decide +kernel
theorem dX9_items_1 : decode cX9_items 1 = .ok (.iconst 0, 1) := by decide +kernel
theorem dX9_items_2 : decode cX9_items 2 = .ok (.putfield 66, 3) := by decide +kernel
theorem dX9_items_5 : decode cX9_items 5 = .ok (.aload_n 0, 1) := by decide +kernel
theorem dX9_items_6 : decode cX9_items 6 = .ok (.getfield 62, 3) := by decide +kernel
theorem dX9_items_9 : decode cX9_items 9 = .ok (.ireturn, 1) := by decide +kernel
theorem dX9_kind_0 : decode cX9_kind 0 = .ok (.aload_n 0, 1) := by decide +kernel
theorem dX9_kind_1 : decode cX9_kind 1 = .ok (.aload_n 0, 1) := by decide +kernel
theorem dX9_kind_2 : decode cX9_kind 2 = .ok (.iload_n 1, 1) := by decide +kernel
theorem dX9_kind_3 : decode cX9_kind 3 = .ok (.invokevirtual 96, 3) := by decide +kernel
theorem dX9_kind_6 : decode cX9_kind 6 = .ok (.ifCond .eq 7, 3) := by decide +kernel
theorem dX9_kind_9 : decode cX9_kind 9 = .ok (.iconst 0, 1) := by decide +kernel
theorem dX9_kind_10 : decode cX9_kind 10 = .ok (.goto 4, 3) := by decide +kernel
theorem dX9_kind_13 : decode cX9_kind 13 = .ok (.iconst 1, 1) := by decide +kernel
theorem dX9_kind_14 : decode cX9_kind 14 = .ok (.invokevirtual 109, 3) := by decide +kernel
theorem dX9_kind_17 : decode cX9_kind 17 = .ok (.ifCond .eq 12, 3) := by decide +kernel
theorem dX9_kind_20 : decode cX9_kind 20 = .ok (.aload_n 0, 1) := by decide +kernel
theorem dX9_kind_21 : decode cX9_kind 21 = .ok (.getfield 7, 3) := by decide +kernel
theorem dX9_kind_24 : decode cX9_kind 24 = .ok (.iload_n 1, 1) := by decide +kernel
theorem dX9_kind_25 : decode cX9_kind 25 = .ok (.iaload, 1) := by decide +kernel
theorem dX9_kind_26 : decode cX9_kind 26 = .ok (.goto 4, 3) := by decide +kernel
theorem dX9_kind_29 : decode cX9_kind 29 = .ok (.iconst 0, 1) := by decide +kernel
theorem dX9_kind_30 : decode cX9_kind 30 = .ok (.ireturn, 1) := by decide +kernel
theorem dX9_menuOf_0 : decode cX9_menuOf 0 = .ok (.aload_n 0, 1) := by decide +kernel
theorem dX9_menuOf_1 : decode cX9_menuOf 1 = .ok (.aload_n 0, 1) := by decide +kernel
theorem dX9_menuOf_2 : decode cX9_menuOf 2 = .ok (.iload_n 1, 1) := by decide +kernel
theorem dX9_menuOf_3 : decode cX9_menuOf 3 = .ok (.invokevirtual 96, 3) := by decide +kernel
theorem dX9_menuOf_6 : decode cX9_menuOf 6 = .ok (.ifCond .eq 7, 3) := by decide +kernel
theorem dX9_menuOf_9 : decode cX9_menuOf 9 = .ok (.iconst 0, 1) := by decide +kernel
theorem dX9_menuOf_10 : decode cX9_menuOf 10 = .ok (.goto 4, 3) := by decide +kernel
theorem dX9_menuOf_13 : decode cX9_menuOf 13 = .ok (.iconst 1, 1) := by decide +kernel
theorem dX9_menuOf_14 : decode cX9_menuOf 14 = .ok (.invokevirtual 109, 3) := by decide +kernel
theorem dX9_menuOf_17 : decode cX9_menuOf 17 = .ok (.ifCond .eq 12, 3) := by decide +kernel
theorem dX9_menuOf_20 : decode cX9_menuOf 20 = .ok (.aload_n 0, 1) := by decide +kernel
theorem dX9_menuOf_21 : decode cX9_menuOf 21 = .ok (.getfield 13, 3) := by decide +kernel
theorem dX9_menuOf_24 : decode cX9_menuOf 24 = .ok (.iload_n 1, 1) := by decide +kernel
theorem dX9_menuOf_25 : decode cX9_menuOf 25 = .ok (.iaload, 1) := by decide +kernel
theorem dX9_menuOf_26 : decode cX9_menuOf 26 = .ok (.goto 4, 3) := by decide +kernel
theorem dX9_menuOf_29 : decode cX9_menuOf 29 = .ok (.iconst 0, 1) := by decide +kernel
theorem dX9_menuOf_30 : decode cX9_menuOf 30 = .ok (.ireturn, 1) := by decide +kernel
theorem dX9_value_0 : decode cX9_value 0 = .ok (.aload_n 0, 1) := by decide +kernel
theorem dX9_value_1 : decode cX9_value 1 = .ok (.aload_n 0, 1) := by decide +kernel
theorem dX9_value_2 : decode cX9_value 2 = .ok (.iload_n 1, 1) := by decide +kernel
theorem dX9_value_3 : decode cX9_value 3 = .ok (.invokevirtual 96, 3) := by decide +kernel
theorem dX9_value_6 : decode cX9_value 6 = .ok (.ifCond .ne 7, 3) := by decide +kernel
theorem dX9_value_9 : decode cX9_value 9 = .ok (.iconst 1, 1) := by decide +kernel
theorem dX9_value_10 : decode cX9_value 10 = .ok (.goto 16, 3) := by decide +kernel
theorem dX9_value_13 : decode cX9_value 13 = .ok (.aload_n 0, 1) := by decide +kernel
theorem dX9_value_14 : decode cX9_value 14 = .ok (.iload_n 1, 1) := by decide +kernel
theorem dX9_value_15 : decode cX9_value 15 = .ok (.invokevirtual 100, 3) := by decide +kernel
theorem dX9_value_18 : decode cX9_value 18 = .ok (.ifCond .eq 7, 3) := by decide +kernel
theorem dX9_value_21 : decode cX9_value 21 = .ok (.iconst 2, 1) := by decide +kernel
theorem dX9_value_22 : decode cX9_value 22 = .ok (.goto 4, 3) := by decide +kernel
theorem dX9_value_25 : decode cX9_value 25 = .ok (.iconst 0, 1) := by decide +kernel
theorem dX9_value_26 : decode cX9_value 26 = .ok (.invokevirtual 109, 3) := by decide +kernel
theorem dX9_value_29 : decode cX9_value 29 = .ok (.ifCond .eq 12, 3) := by decide +kernel
theorem dX9_value_32 : decode cX9_value 32 = .ok (.aload_n 0, 1) := by decide +kernel
theorem dX9_value_33 : decode cX9_value 33 = .ok (.getfield 25, 3) := by decide +kernel
theorem dX9_value_36 : decode cX9_value 36 = .ok (.iload_n 1, 1) := by decide +kernel
theorem dX9_value_37 : decode cX9_value 37 = .ok (.iaload, 1) := by decide +kernel
theorem dX9_value_38 : decode cX9_value 38 = .ok (.goto 4, 3) := by decide +kernel
theorem dX9_value_41 : decode cX9_value 41 = .ok (.iconst 0, 1) := by decide +kernel
theorem dX9_value_42 : decode cX9_value 42 = .ok (.ireturn, 1) := by decide +kernel
theorem dX9_isClosed_0 : decode cX9_isClosed 0 = .ok (.aload_n 0, 1) := by decide +kernel
theorem dX9_isClosed_1 : decode cX9_isClosed 1 = .ok (.aload_n 0, 1) := by decide +kernel
theorem dX9_isClosed_2 : decode cX9_isClosed 2 = .ok (.iload_n 1, 1) := by decide +kernel
theorem dX9_isClosed_3 : decode cX9_isClosed 3 = .ok (.invokevirtual 96, 3) := by decide +kernel
theorem dX9_isClosed_6 : decode cX9_isClosed 6 = .ok (.ifCond .eq 7, 3) := by decide +kernel
theorem dX9_isClosed_9 : decode cX9_isClosed 9 = .ok (.iconst 0, 1) := by decide +kernel
theorem dX9_isClosed_10 : decode cX9_isClosed 10 = .ok (.goto 4, 3) := by decide +kernel
theorem dX9_isClosed_13 : decode cX9_isClosed 13 = .ok (.iconst 1, 1) := by decide +kernel
theorem dX9_isClosed_14 : decode cX9_isClosed 14 = .ok (.invokevirtual 109, 3) := by decide +kernel
theorem dX9_isClosed_17 : decode cX9_isClosed 17 = .ok (.ifCond .eq 15, 3) := by decide +kernel
theorem dX9_isClosed_20 : decode cX9_isClosed 20 = .ok (.aload_n 0, 1) := by decide +kernel
theorem dX9_isClosed_21 : decode cX9_isClosed 21 = .ok (.iload_n 1, 1) := by decide +kernel
theorem dX9_isClosed_22 : decode cX9_isClosed 22 = .ok (.invokevirtual 116, 3) := by decide +kernel
theorem dX9_isClosed_25 : decode cX9_isClosed 25 = .ok (.ifCond .eq 7, 3) := by decide +kernel
theorem dX9_isClosed_28 : decode cX9_isClosed 28 = .ok (.iconst 1, 1) := by decide +kernel
theorem dX9_isClosed_29 : decode cX9_isClosed 29 = .ok (.goto 4, 3) := by decide +kernel
theorem dX9_isClosed_32 : decode cX9_isClosed 32 = .ok (.iconst 0, 1) := by decide +kernel
theorem dX9_isClosed_33 : decode cX9_isClosed 33 = .ok (.ireturn, 1) := by decide +kernel
theorem dX9_inRing_0 : decode cX9_inRing 0 = .ok (.iload_n 0, 1) := by decide +kernel
theorem dX9_inRing_1 : decode cX9_inRing 1 = .ok (.iload_n 1, 1) := by decide +kernel
theorem dX9_inRing_2 : decode cX9_inRing 2 = .ok (.irem, 1) := by decide +kernel
theorem dX9_inRing_3 : decode cX9_inRing 3 = .ok (.istore_n 2, 1) := by decide +kernel
theorem dX9_inRing_4 : decode cX9_inRing 4 = .ok (.iload_n 2, 1) := by decide +kernel
theorem dX9_inRing_5 : decode cX9_inRing 5 = .ok (.ifCond .ge 9, 3) := by decide +kernel
theorem dX9_inRing_8 : decode cX9_inRing 8 = .ok (.iload_n 2, 1) := by decide +kernel
theorem dX9_inRing_9 : decode cX9_inRing 9 = .ok (.iload_n 1, 1) := by decide +kernel
theorem dX9_inRing_10 : decode cX9_inRing 10 = .ok (.iadd, 1) := by decide +kernel
theorem dX9_inRing_11 : decode cX9_inRing 11 = .ok (.goto 4, 3) := by decide +kernel
theorem dX9_inRing_14 : decode cX9_inRing 14 = .ok (.iload_n 2, 1) := by decide +kernel
theorem dX9_inRing_15 : decode cX9_inRing 15 = .ok (.ireturn, 1) := by decide +kernel
theorem dX9_within_0 : decode cX9_within 0 = .ok (.iload_n 0, 1) := by decide +kernel
theorem dX9_within_1 : decode cX9_within 1 = .ok (.iload_n 1, 1) := by decide +kernel
theorem dX9_within_2 : decode cX9_within 2 = .ok (.if_icmp .ge 7, 3) := by decide +kernel
theorem dX9_within_5 : decode cX9_within 5 = .ok (.iload_n 1, 1) := by decide +kernel
theorem dX9_within_6 : decode cX9_within 6 = .ok (.goto 13, 3) := by decide +kernel
theorem dX9_within_9 : decode cX9_within 9 = .ok (.iload_n 0, 1) := by decide +kernel
theorem dX9_within_10 : decode cX9_within 10 = .ok (.iload_n 2, 1) := by decide +kernel
theorem dX9_within_11 : decode cX9_within 11 = .ok (.if_icmp .le 7, 3) := by decide +kernel
theorem dX9_within_14 : decode cX9_within 14 = .ok (.iload_n 2, 1) := by decide +kernel
theorem dX9_within_15 : decode cX9_within 15 = .ok (.goto 4, 3) := by decide +kernel
theorem dX9_within_18 : decode cX9_within 18 = .ok (.iload_n 0, 1) := by decide +kernel
theorem dX9_within_19 : decode cX9_within 19 = .ok (.ireturn, 1) := by decide +kernel
theorem dX9_turned_0 : decode cX9_turned 0 = .ok (.aload_n 0, 1) := by decide +kernel
theorem dX9_turned_1 : decode cX9_turned 1 = .ok (.getfield 83, 3) := by decide +kernel
theorem dX9_turned_4 : decode cX9_turned 4 = .ok (.iconst 2, 1) := by decide +kernel
theorem dX9_turned_5 : decode cX9_turned 5 = .ok (.if_icmp .ne 20, 3) := by decide +kernel
theorem dX9_turned_8 : decode cX9_turned 8 = .ok (.aload_n 0, 1) := by decide +kernel
theorem dX9_turned_9 : decode cX9_turned 9 = .ok (.getfield 35, 3) := by decide +kernel
theorem dX9_turned_12 : decode cX9_turned 12 = .ok (.aload_n 0, 1) := by decide +kernel
theorem dX9_turned_13 : decode cX9_turned 13 = .ok (.getfield 119, 3) := by decide +kernel
theorem dX9_turned_16 : decode cX9_turned 16 = .ok (.iaload, 1) := by decide +kernel
theorem dX9_turned_17 : decode cX9_turned 17 = .ok (.iload_n 1, 1) := by decide +kernel
theorem dX9_turned_18 : decode cX9_turned 18 = .ok (.iadd, 1) := by decide +kernel
theorem dX9_turned_19 : decode cX9_turned 19 = .ok (.bipush 10, 2) := by decide +kernel
theorem dX9_turned_21 : decode cX9_turned 21 = .ok (.invokestatic 122, 3) := by decide +kernel
theorem dX9_turned_24 : decode cX9_turned 24 = .ok (.ireturn, 1) := by decide +kernel
theorem dX9_turned_25 : decode cX9_turned 25 = .ok (.aload_n 0, 1) := by decide +kernel
theorem dX9_turned_26 : decode cX9_turned 26 = .ok (.aload_n 0, 1) := by decide +kernel
theorem dX9_turned_27 : decode cX9_turned 27 = .ok (.getfield 86, 3) := by decide +kernel
theorem dX9_turned_30 : decode cX9_turned 30 = .ok (.invokevirtual 125, 3) := by decide +kernel
theorem dX9_turned_33 : decode cX9_turned 33 = .ok (.istore_n 2, 1) := by decide +kernel
theorem dX9_turned_34 : decode cX9_turned 34 = .ok (.aload_n 0, 1) := by decide +kernel
theorem dX9_turned_35 : decode cX9_turned 35 = .ok (.getfield 83, 3) := by decide +kernel
theorem dX9_turned_38 : decode cX9_turned 38 = .ok (.iconst 1, 1) := by decide +kernel
theorem dX9_turned_39 : decode cX9_turned 39 = .ok (.if_icmp .ne 90, 3) := by decide +kernel
theorem dX9_turned_42 : decode cX9_turned 42 = .ok (.aload_n 0, 1) := by decide +kernel
theorem dX9_turned_43 : decode cX9_turned 43 = .ok (.getfield 7, 3) := by decide +kernel
theorem dX9_turned_46 : decode cX9_turned 46 = .ok (.iload_n 2, 1) := by decide +kernel
theorem dX9_turned_47 : decode cX9_turned 47 = .ok (.iaload, 1) := by decide +kernel
theorem dX9_turned_48 : decode cX9_turned 48 = .ok (.iconst 1, 1) := by decide +kernel
theorem dX9_turned_49 : decode cX9_turned 49 = .ok (.if_icmp .ne 19, 3) := by decide +kernel
theorem dX9_turned_52 : decode cX9_turned 52 = .ok (.iload_n 1, 1) := by decide +kernel
theorem dX9_turned_53 : decode cX9_turned 53 = .ok (.bipush (-4), 2) := by decide +kernel
theorem dX9_turned_55 : decode cX9_turned 55 = .ok (.iconst 4, 1) := by decide +kernel
theorem dX9_turned_56 : decode cX9_turned 56 = .ok (.invokestatic 69, 3) := by decide +kernel
theorem dX9_turned_59 : decode cX9_turned 59 = .ok (.ifCond .ne 9, 3) := by decide +kernel
theorem dX9_turned_62 : decode cX9_turned 62 = .ok (.iconst 2, 1) := by decide +kernel
theorem dX9_turned_63 : decode cX9_turned 63 = .ok (.iload_n 1, 1) := by decide +kernel
theorem dX9_turned_64 : decode cX9_turned 64 = .ok (.imul, 1) := by decide +kernel
theorem dX9_turned_65 : decode cX9_turned 65 = .ok (.goto 4, 3) := by decide +kernel
theorem dX9_turned_68 : decode cX9_turned 68 = .ok (.iload_n 1, 1) := by decide +kernel
theorem dX9_turned_69 : decode cX9_turned 69 = .ok (.istore_n 3, 1) := by decide +kernel
theorem dX9_turned_70 : decode cX9_turned 70 = .ok (.aload_n 0, 1) := by decide +kernel
theorem dX9_turned_71 : decode cX9_turned 71 = .ok (.getfield 7, 3) := by decide +kernel
theorem dX9_turned_74 : decode cX9_turned 74 = .ok (.iload_n 2, 1) := by decide +kernel
theorem dX9_turned_75 : decode cX9_turned 75 = .ok (.iaload, 1) := by decide +kernel
theorem dX9_turned_76 : decode cX9_turned 76 = .ok (.iconst 1, 1) := by decide +kernel
theorem dX9_turned_77 : decode cX9_turned 77 = .ok (.if_icmp .ne 34, 3) := by decide +kernel
theorem dX9_turned_80 : decode cX9_turned 80 = .ok (.aload_n 0, 1) := by decide +kernel
theorem dX9_turned_81 : decode cX9_turned 81 = .ok (.getfield 128, 3) := by decide +kernel
theorem dX9_turned_84 : decode cX9_turned 84 = .ok (.iload_n 3, 1) := by decide +kernel
theorem dX9_turned_85 : decode cX9_turned 85 = .ok (.aload_n 0, 1) := by decide +kernel
theorem dX9_turned_86 : decode cX9_turned 86 = .ok (.getfield 22, 3) := by decide +kernel
theorem dX9_turned_89 : decode cX9_turned 89 = .ok (.iload_n 2, 1) := by decide +kernel
theorem dX9_turned_90 : decode cX9_turned 90 = .ok (.iaload, 1) := by decide +kernel
theorem dX9_turned_91 : decode cX9_turned 91 = .ok (.imul, 1) := by decide +kernel
theorem dX9_turned_92 : decode cX9_turned 92 = .ok (.iadd, 1) := by decide +kernel
theorem dX9_turned_93 : decode cX9_turned 93 = .ok (.aload_n 0, 1) := by decide +kernel
theorem dX9_turned_94 : decode cX9_turned 94 = .ok (.getfield 16, 3) := by decide +kernel
theorem dX9_turned_97 : decode cX9_turned 97 = .ok (.iload_n 2, 1) := by decide +kernel
theorem dX9_turned_98 : decode cX9_turned 98 = .ok (.iaload, 1) := by decide +kernel
theorem dX9_turned_99 : decode cX9_turned 99 = .ok (.aload_n 0, 1) := by decide +kernel
theorem dX9_turned_100 : decode cX9_turned 100 = .ok (.getfield 19, 3) := by decide +kernel
theorem dX9_turned_103 : decode cX9_turned 103 = .ok (.iload_n 2, 1) := by decide +kernel
theorem dX9_turned_104 : decode cX9_turned 104 = .ok (.iaload, 1) := by decide +kernel
theorem dX9_turned_105 : decode cX9_turned 105 = .ok (.invokestatic 131, 3) := by decide +kernel
theorem dX9_turned_108 : decode cX9_turned 108 = .ok (.goto 20, 3) := by decide +kernel
theorem dX9_turned_111 : decode cX9_turned 111 = .ok (.aload_n 0, 1) := by decide +kernel
theorem dX9_turned_112 : decode cX9_turned 112 = .ok (.getfield 128, 3) := by decide +kernel
theorem dX9_turned_115 : decode cX9_turned 115 = .ok (.iload_n 1, 1) := by decide +kernel
theorem dX9_turned_116 : decode cX9_turned 116 = .ok (.iadd, 1) := by decide +kernel
theorem dX9_turned_117 : decode cX9_turned 117 = .ok (.aload_n 0, 1) := by decide +kernel
theorem dX9_turned_118 : decode cX9_turned 118 = .ok (.getfield 19, 3) := by decide +kernel
theorem dX9_turned_121 : decode cX9_turned 121 = .ok (.iload_n 2, 1) := by decide +kernel
theorem dX9_turned_122 : decode cX9_turned 122 = .ok (.iaload, 1) := by decide +kernel
theorem dX9_turned_123 : decode cX9_turned 123 = .ok (.iconst 1, 1) := by decide +kernel
theorem dX9_turned_124 : decode cX9_turned 124 = .ok (.iadd, 1) := by decide +kernel
theorem dX9_turned_125 : decode cX9_turned 125 = .ok (.invokestatic 122, 3) := by decide +kernel
theorem dX9_turned_128 : decode cX9_turned 128 = .ok (.ireturn, 1) := by decide +kernel
theorem dX9_turned_129 : decode cX9_turned 129 = .ok (.aload_n 0, 1) := by decide +kernel
theorem dX9_turned_130 : decode cX9_turned 130 = .ok (.aload_n 0, 1) := by decide +kernel
theorem dX9_turned_131 : decode cX9_turned 131 = .ok (.getfield 77, 3) := by decide +kernel
theorem dX9_turned_134 : decode cX9_turned 134 = .ok (.invokevirtual 135, 3) := by decide +kernel
theorem dX9_turned_137 : decode cX9_turned 137 = .ok (.istore_n 3, 1) := by decide +kernel
theorem dX9_turned_138 : decode cX9_turned 138 = .ok (.iload_n 3, 1) := by decide +kernel
theorem dX9_turned_139 : decode cX9_turned 139 = .ok (.ifCond .ne 5, 3) := by decide +kernel
theorem dX9_turned_142 : decode cX9_turned 142 = .ok (.iconst 0, 1) := by decide +kernel
theorem dX9_turned_143 : decode cX9_turned 143 = .ok (.ireturn, 1) := by decide +kernel
theorem dX9_turned_144 : decode cX9_turned 144 = .ok (.aload_n 0, 1) := by decide +kernel
theorem dX9_turned_145 : decode cX9_turned 145 = .ok (.getfield 38, 3) := by decide +kernel
theorem dX9_turned_148 : decode cX9_turned 148 = .ok (.iconst 2, 1) := by decide +kernel
theorem dX9_turned_149 : decode cX9_turned 149 = .ok (.iaload, 1) := by decide +kernel
theorem dX9_turned_150 : decode cX9_turned 150 = .ok (.iconst 1, 1) := by decide +kernel
theorem dX9_turned_151 : decode cX9_turned 151 = .ok (.if_icmp .ne 16, 3) := by decide +kernel
theorem dX9_turned_154 : decode cX9_turned 154 = .ok (.aload_n 0, 1) := by decide +kernel
theorem dX9_turned_155 : decode cX9_turned 155 = .ok (.getfield 86, 3) := by decide +kernel
theorem dX9_turned_158 : decode cX9_turned 158 = .ok (.iload_n 1, 1) := by decide +kernel
theorem dX9_turned_159 : decode cX9_turned 159 = .ok (.iadd, 1) := by decide +kernel
theorem dX9_turned_160 : decode cX9_turned 160 = .ok (.iload_n 3, 1) := by decide +kernel
theorem dX9_turned_161 : decode cX9_turned 161 = .ok (.invokestatic 122, 3) := by decide +kernel
theorem dX9_turned_164 : decode cX9_turned 164 = .ok (.goto 16, 3) := by decide +kernel
theorem dX9_turned_167 : decode cX9_turned 167 = .ok (.aload_n 0, 1) := by decide +kernel
theorem dX9_turned_168 : decode cX9_turned 168 = .ok (.getfield 86, 3) := by decide +kernel
theorem dX9_turned_171 : decode cX9_turned 171 = .ok (.iload_n 1, 1) := by decide +kernel
theorem dX9_turned_172 : decode cX9_turned 172 = .ok (.iadd, 1) := by decide +kernel
theorem dX9_turned_173 : decode cX9_turned 173 = .ok (.iconst 0, 1) := by decide +kernel
theorem dX9_turned_174 : decode cX9_turned 174 = .ok (.iload_n 3, 1) := by decide +kernel
theorem dX9_turned_175 : decode cX9_turned 175 = .ok (.iconst 1, 1) := by decide +kernel
theorem dX9_turned_176 : decode cX9_turned 176 = .ok (.isub, 1) := by decide +kernel
theorem dX9_turned_177 : decode cX9_turned 177 = .ok (.invokestatic 131, 3) := by decide +kernel
theorem dX9_turned_180 : decode cX9_turned 180 = .ok (.ireturn, 1) := by decide +kernel
theorem dX9_turns_0 : decode cX9_turns 0 = .ok (.aload_n 0, 1) := by decide +kernel
theorem dX9_turns_1 : decode cX9_turns 1 = .ok (.iload_n 1, 1) := by decide +kernel
theorem dX9_turns_2 : decode cX9_turns 2 = .ok (.invokevirtual 138, 3) := by decide +kernel
theorem dX9_turns_5 : decode cX9_turns 5 = .ok (.istore_n 2, 1) := by decide +kernel
theorem dX9_turns_6 : decode cX9_turns 6 = .ok (.aload_n 0, 1) := by decide +kernel
theorem dX9_turns_7 : decode cX9_turns 7 = .ok (.iconst 0, 1) := by decide +kernel
theorem dX9_turns_8 : decode cX9_turns 8 = .ok (.putfield 141, 3) := by decide +kernel
theorem dX9_turns_11 : decode cX9_turns 11 = .ok (.aload_n 0, 1) := by decide +kernel
theorem dX9_turns_12 : decode cX9_turns 12 = .ok (.getfield 41, 3) := by decide +kernel
theorem dX9_turns_15 : decode cX9_turns 15 = .ok (.iconst 0, 1) := by decide +kernel
theorem dX9_turns_16 : decode cX9_turns 16 = .ok (.dup2, 1) := by decide +kernel
theorem dX9_turns_17 : decode cX9_turns 17 = .ok (.iaload, 1) := by decide +kernel
theorem dX9_turns_18 : decode cX9_turns 18 = .ok (.iload_n 1, 1) := by decide +kernel
theorem dX9_turns_19 : decode cX9_turns 19 = .ok (.ifCond .ge 8, 3) := by decide +kernel
theorem dX9_turns_22 : decode cX9_turns 22 = .ok (.iload_n 1, 1) := by decide +kernel
theorem dX9_turns_23 : decode cX9_turns 23 = .ok (.ineg, 1) := by decide +kernel
theorem dX9_turns_24 : decode cX9_turns 24 = .ok (.goto 4, 3) := by decide +kernel
theorem dX9_turns_27 : decode cX9_turns 27 = .ok (.iload_n 1, 1) := by decide +kernel
theorem dX9_turns_28 : decode cX9_turns 28 = .ok (.iadd, 1) := by decide +kernel
theorem dX9_turns_29 : decode cX9_turns 29 = .ok (.iastore, 1) := by decide +kernel
theorem dX9_turns_30 : decode cX9_turns 30 = .ok (.aload_n 0, 1) := by decide +kernel
theorem dX9_turns_31 : decode cX9_turns 31 = .ok (.getfield 83, 3) := by decide +kernel
theorem dX9_turns_34 : decode cX9_turns 34 = .ok (.ifCond .ne 11, 3) := by decide +kernel
theorem dX9_turns_37 : decode cX9_turns 37 = .ok (.aload_n 0, 1) := by decide +kernel
theorem dX9_turns_38 : decode cX9_turns 38 = .ok (.iload_n 2, 1) := by decide +kernel
theorem dX9_turns_39 : decode cX9_turns 39 = .ok (.putfield 86, 3) := by decide +kernel
theorem dX9_turns_42 : decode cX9_turns 42 = .ok (.goto 29, 3) := by decide +kernel
theorem dX9_turns_45 : decode cX9_turns 45 = .ok (.aload_n 0, 1) := by decide +kernel
theorem dX9_turns_46 : decode cX9_turns 46 = .ok (.getfield 83, 3) := by decide +kernel
theorem dX9_turns_49 : decode cX9_turns 49 = .ok (.iconst 1, 1) := by decide +kernel
theorem dX9_turns_50 : decode cX9_turns 50 = .ok (.if_icmp .ne 11, 3) := by decide +kernel
theorem dX9_turns_53 : decode cX9_turns 53 = .ok (.aload_n 0, 1) := by decide +kernel
theorem dX9_turns_54 : decode cX9_turns 54 = .ok (.iload_n 2, 1) := by decide +kernel
theorem dX9_turns_55 : decode cX9_turns 55 = .ok (.putfield 128, 3) := by decide +kernel
theorem dX9_turns_58 : decode cX9_turns 58 = .ok (.goto 13, 3) := by decide +kernel
theorem dX9_turns_61 : decode cX9_turns 61 = .ok (.aload_n 0, 1) := by decide +kernel
theorem dX9_turns_62 : decode cX9_turns 62 = .ok (.getfield 35, 3) := by decide +kernel
theorem dX9_turns_65 : decode cX9_turns 65 = .ok (.aload_n 0, 1) := by decide +kernel
theorem dX9_turns_66 : decode cX9_turns 66 = .ok (.getfield 119, 3) := by decide +kernel
theorem dX9_turns_69 : decode cX9_turns 69 = .ok (.iload_n 2, 1) := by decide +kernel
theorem dX9_turns_70 : decode cX9_turns 70 = .ok (.iastore, 1) := by decide +kernel
theorem dX9_turns_71 : decode cX9_turns 71 = .ok (.iload_n 2, 1) := by decide +kernel
theorem dX9_turns_72 : decode cX9_turns 72 = .ok (.ireturn, 1) := by decide +kernel
theorem dX9_turn_0 : decode cX9_turn 0 = .ok (.aload_n 0, 1) := by decide +kernel
theorem dX9_turn_1 : decode cX9_turn 1 = .ok (.iload_n 1, 1) := by decide +kernel
theorem dX9_turn_2 : decode cX9_turn 2 = .ok (.bipush (-50), 2) := by decide +kernel
theorem dX9_turn_4 : decode cX9_turn 4 = .ok (.bipush 50, 2) := by decide +kernel
theorem dX9_turn_6 : decode cX9_turn 6 = .ok (.invokestatic 69, 3) := by decide +kernel
theorem dX9_turn_9 : decode cX9_turn 9 = .ok (.ifCond .eq 7, 3) := by decide +kernel
theorem dX9_turn_12 : decode cX9_turn 12 = .ok (.iconst 0, 1) := by decide +kernel
theorem dX9_turn_13 : decode cX9_turn 13 = .ok (.goto 4, 3) := by decide +kernel
theorem dX9_turn_16 : decode cX9_turn 16 = .ok (.iconst 1, 1) := by decide +kernel
theorem dX9_turn_17 : decode cX9_turn 17 = .ok (.invokevirtual 109, 3) := by decide +kernel
theorem dX9_turn_20 : decode cX9_turn 20 = .ok (.ifCond .eq 11, 3) := by decide +kernel
theorem dX9_turn_23 : decode cX9_turn 23 = .ok (.aload_n 0, 1) := by decide +kernel
theorem dX9_turn_24 : decode cX9_turn 24 = .ok (.iload_n 1, 1) := by decide +kernel
theorem dX9_turn_25 : decode cX9_turn 25 = .ok (.invokevirtual 144, 3) := by decide +kernel
theorem dX9_turn_28 : decode cX9_turn 28 = .ok (.goto 4, 3) := by decide +kernel
theorem dX9_turn_31 : decode cX9_turn 31 = .ok (.iconst 0, 1) := by decide +kernel
theorem dX9_turn_32 : decode cX9_turn 32 = .ok (.ireturn, 1) := by decide +kernel
theorem dX9_logs_0 : decode cX9_logs 0 = .ok (.iconst 1, 1) := by decide +kernel
theorem dX9_logs_1 : decode cX9_logs 1 = .ok (.istore_n 3, 1) := by decide +kernel
theorem dX9_logs_2 : decode cX9_logs 2 = .ok (.iload_n 3, 1) := by decide +kernel
theorem dX9_logs_3 : decode cX9_logs 3 = .ok (.bipush 8, 2) := by decide +kernel
theorem dX9_logs_5 : decode cX9_logs 5 = .ok (.if_icmp .ge 46, 3) := by decide +kernel
theorem dX9_logs_8 : decode cX9_logs 8 = .ok (.aload_n 0, 1) := by decide +kernel
theorem dX9_logs_9 : decode cX9_logs 9 = .ok (.getfield 147, 3) := by decide +kernel
theorem dX9_logs_12 : decode cX9_logs 12 = .ok (.bipush 8, 2) := by decide +kernel
theorem dX9_logs_14 : decode cX9_logs 14 = .ok (.if_icmp .ne 37, 3) := by decide +kernel
theorem dX9_logs_17 : decode cX9_logs 17 = .ok (.aload_n 0, 1) := by decide +kernel
theorem dX9_logs_18 : decode cX9_logs 18 = .ok (.getfield 44, 3) := by decide +kernel
theorem dX9_logs_21 : decode cX9_logs 21 = .ok (.iload_n 3, 1) := by decide +kernel
theorem dX9_logs_22 : decode cX9_logs 22 = .ok (.iconst 1, 1) := by decide +kernel
theorem dX9_logs_23 : decode cX9_logs 23 = .ok (.isub, 1) := by decide +kernel
theorem dX9_logs_24 : decode cX9_logs 24 = .ok (.aload_n 0, 1) := by decide +kernel
theorem dX9_logs_25 : decode cX9_logs 25 = .ok (.getfield 44, 3) := by decide +kernel
theorem dX9_logs_28 : decode cX9_logs 28 = .ok (.iload_n 3, 1) := by decide +kernel
theorem dX9_logs_29 : decode cX9_logs 29 = .ok (.iaload, 1) := by decide +kernel
theorem dX9_logs_30 : decode cX9_logs 30 = .ok (.iastore, 1) := by decide +kernel
theorem dX9_logs_31 : decode cX9_logs 31 = .ok (.aload_n 0, 1) := by decide +kernel
theorem dX9_logs_32 : decode cX9_logs 32 = .ok (.getfield 47, 3) := by decide +kernel
theorem dX9_logs_35 : decode cX9_logs 35 = .ok (.iload_n 3, 1) := by decide +kernel
theorem dX9_logs_36 : decode cX9_logs 36 = .ok (.iconst 1, 1) := by decide +kernel
theorem dX9_logs_37 : decode cX9_logs 37 = .ok (.isub, 1) := by decide +kernel
theorem dX9_logs_38 : decode cX9_logs 38 = .ok (.aload_n 0, 1) := by decide +kernel
theorem dX9_logs_39 : decode cX9_logs 39 = .ok (.getfield 47, 3) := by decide +kernel
theorem dX9_logs_42 : decode cX9_logs 42 = .ok (.iload_n 3, 1) := by decide +kernel
theorem dX9_logs_43 : decode cX9_logs 43 = .ok (.iaload, 1) := by decide +kernel
theorem dX9_logs_44 : decode cX9_logs 44 = .ok (.iastore, 1) := by decide +kernel
theorem dX9_logs_45 : decode cX9_logs 45 = .ok (.iinc 3 1, 3) := by decide +kernel
theorem dX9_logs_48 : decode cX9_logs 48 = .ok (.goto (-46), 3) := by decide +kernel
theorem dX9_logs_51 : decode cX9_logs 51 = .ok (.aload_n 0, 1) := by decide +kernel
theorem dX9_logs_52 : decode cX9_logs 52 = .ok (.dup, 1) := by decide +kernel
theorem dX9_logs_53 : decode cX9_logs 53 = .ok (.getfield 147, 3) := by decide +kernel
theorem dX9_logs_56 : decode cX9_logs 56 = .ok (.aload_n 0, 1) := by decide +kernel
theorem dX9_logs_57 : decode cX9_logs 57 = .ok (.getfield 147, 3) := by decide +kernel
theorem dX9_logs_60 : decode cX9_logs 60 = .ok (.bipush 8, 2) := by decide +kernel
theorem dX9_logs_62 : decode cX9_logs 62 = .ok (.if_icmp .ne 7, 3) := by decide +kernel
theorem dX9_logs_65 : decode cX9_logs 65 = .ok (.iconst 1, 1) := by decide +kernel
theorem dX9_logs_66 : decode cX9_logs 66 = .ok (.goto 4, 3) := by decide +kernel
theorem dX9_logs_69 : decode cX9_logs 69 = .ok (.iconst 0, 1) := by decide +kernel
theorem dX9_logs_70 : decode cX9_logs 70 = .ok (.isub, 1) := by decide +kernel
theorem dX9_logs_71 : decode cX9_logs 71 = .ok (.putfield 147, 3) := by decide +kernel
theorem dX9_logs_74 : decode cX9_logs 74 = .ok (.aload_n 0, 1) := by decide +kernel
theorem dX9_logs_75 : decode cX9_logs 75 = .ok (.getfield 44, 3) := by decide +kernel
theorem dX9_logs_78 : decode cX9_logs 78 = .ok (.aload_n 0, 1) := by decide +kernel
theorem dX9_logs_79 : decode cX9_logs 79 = .ok (.getfield 147, 3) := by decide +kernel
theorem dX9_logs_82 : decode cX9_logs 82 = .ok (.iload_n 1, 1) := by decide +kernel
theorem dX9_logs_83 : decode cX9_logs 83 = .ok (.iastore, 1) := by decide +kernel
theorem dX9_logs_84 : decode cX9_logs 84 = .ok (.aload_n 0, 1) := by decide +kernel
theorem dX9_logs_85 : decode cX9_logs 85 = .ok (.getfield 47, 3) := by decide +kernel
theorem dX9_logs_88 : decode cX9_logs 88 = .ok (.aload_n 0, 1) := by decide +kernel
theorem dX9_logs_89 : decode cX9_logs 89 = .ok (.getfield 147, 3) := by decide +kernel
theorem dX9_logs_92 : decode cX9_logs 92 = .ok (.iload_n 2, 1) := by decide +kernel
theorem dX9_logs_93 : decode cX9_logs 93 = .ok (.iastore, 1) := by decide +kernel
theorem dX9_logs_94 : decode cX9_logs 94 = .ok (.aload_n 0, 1) := by decide +kernel
theorem dX9_logs_95 : decode cX9_logs 95 = .ok (.dup, 1) := by decide +kernel
theorem dX9_logs_96 : decode cX9_logs 96 = .ok (.getfield 147, 3) := by decide +kernel
theorem dX9_logs_99 : decode cX9_logs 99 = .ok (.iconst 1, 1) := by decide +kernel
theorem dX9_logs_100 : decode cX9_logs 100 = .ok (.iadd, 1) := by decide +kernel
theorem dX9_logs_101 : decode cX9_logs 101 = .ok (.putfield 147, 3) := by decide +kernel
theorem dX9_logs_104 : decode cX9_logs 104 = .ok (.return_, 1) := by decide +kernel
theorem dX9_goesOn_0 : decode cX9_goesOn 0 = .ok (.aload_n 0, 1) := by decide +kernel
theorem dX9_goesOn_1 : decode cX9_goesOn 1 = .ok (.aload_n 0, 1) := by decide +kernel
theorem dX9_goesOn_2 : decode cX9_goesOn 2 = .ok (.getfield 86, 3) := by decide +kernel
theorem dX9_goesOn_5 : decode cX9_goesOn 5 = .ok (.invokevirtual 125, 3) := by decide +kernel
theorem dX9_goesOn_8 : decode cX9_goesOn 8 = .ok (.istore_n 1, 1) := by decide +kernel
theorem dX9_goesOn_9 : decode cX9_goesOn 9 = .ok (.iload_n 1, 1) := by decide +kernel
theorem dX9_goesOn_10 : decode cX9_goesOn 10 = .ok (.iconst (-1), 1) := by decide +kernel
theorem dX9_goesOn_11 : decode cX9_goesOn 11 = .ok (.if_icmp .ne 43, 3) := by decide +kernel
theorem dX9_goesOn_14 : decode cX9_goesOn 14 = .ok (.aload_n 0, 1) := by decide +kernel
theorem dX9_goesOn_15 : decode cX9_goesOn 15 = .ok (.aload_n 0, 1) := by decide +kernel
theorem dX9_goesOn_16 : decode cX9_goesOn 16 = .ok (.getfield 77, 3) := by decide +kernel
theorem dX9_goesOn_19 : decode cX9_goesOn 19 = .ok (.invokevirtual 135, 3) := by decide +kernel
theorem dX9_goesOn_22 : decode cX9_goesOn 22 = .ok (.ifCond .ne 5, 3) := by decide +kernel
theorem dX9_goesOn_25 : decode cX9_goesOn 25 = .ok (.iconst 0, 1) := by decide +kernel
theorem dX9_goesOn_26 : decode cX9_goesOn 26 = .ok (.ireturn, 1) := by decide +kernel
theorem dX9_goesOn_27 : decode cX9_goesOn 27 = .ok (.aload_n 0, 1) := by decide +kernel
theorem dX9_goesOn_28 : decode cX9_goesOn 28 = .ok (.aload_n 0, 1) := by decide +kernel
theorem dX9_goesOn_29 : decode cX9_goesOn 29 = .ok (.aload_n 0, 1) := by decide +kernel
theorem dX9_goesOn_30 : decode cX9_goesOn 30 = .ok (.getfield 77, 3) := by decide +kernel
theorem dX9_goesOn_33 : decode cX9_goesOn 33 = .ok (.invokevirtual 80, 3) := by decide +kernel
theorem dX9_goesOn_36 : decode cX9_goesOn 36 = .ok (.putfield 86, 3) := by decide +kernel
theorem dX9_goesOn_39 : decode cX9_goesOn 39 = .ok (.aload_n 0, 1) := by decide +kernel
theorem dX9_goesOn_40 : decode cX9_goesOn 40 = .ok (.aload_n 0, 1) := by decide +kernel
theorem dX9_goesOn_41 : decode cX9_goesOn 41 = .ok (.getfield 13, 3) := by decide +kernel
theorem dX9_goesOn_44 : decode cX9_goesOn 44 = .ok (.aload_n 0, 1) := by decide +kernel
theorem dX9_goesOn_45 : decode cX9_goesOn 45 = .ok (.getfield 77, 3) := by decide +kernel
theorem dX9_goesOn_48 : decode cX9_goesOn 48 = .ok (.iaload, 1) := by decide +kernel
theorem dX9_goesOn_49 : decode cX9_goesOn 49 = .ok (.putfield 77, 3) := by decide +kernel
theorem dX9_goesOn_52 : decode cX9_goesOn 52 = .ok (.iconst 1, 1) := by decide +kernel
theorem dX9_goesOn_53 : decode cX9_goesOn 53 = .ok (.ireturn, 1) := by decide +kernel
theorem dX9_goesOn_54 : decode cX9_goesOn 54 = .ok (.aload_n 0, 1) := by decide +kernel
theorem dX9_goesOn_55 : decode cX9_goesOn 55 = .ok (.iload_n 1, 1) := by decide +kernel
theorem dX9_goesOn_56 : decode cX9_goesOn 56 = .ok (.invokevirtual 116, 3) := by decide +kernel
theorem dX9_goesOn_59 : decode cX9_goesOn 59 = .ok (.ifCond .eq 45, 3) := by decide +kernel
theorem dX9_goesOn_62 : decode cX9_goesOn 62 = .ok (.aload_n 0, 1) := by decide +kernel
theorem dX9_goesOn_63 : decode cX9_goesOn 63 = .ok (.getfield 150, 3) := by decide +kernel
theorem dX9_goesOn_66 : decode cX9_goesOn 66 = .ok (.ifCond .le 6, 3) := by decide +kernel
theorem dX9_goesOn_69 : decode cX9_goesOn 69 = .ok (.bipush 9, 2) := by decide +kernel
theorem dX9_goesOn_71 : decode cX9_goesOn 71 = .ok (.ireturn, 1) := by decide +kernel
theorem dX9_goesOn_72 : decode cX9_goesOn 72 = .ok (.aload_n 0, 1) := by decide +kernel
theorem dX9_goesOn_73 : decode cX9_goesOn 73 = .ok (.iconst 2, 1) := by decide +kernel
theorem dX9_goesOn_74 : decode cX9_goesOn 74 = .ok (.putfield 83, 3) := by decide +kernel
theorem dX9_goesOn_77 : decode cX9_goesOn 77 = .ok (.aload_n 0, 1) := by decide +kernel
theorem dX9_goesOn_78 : decode cX9_goesOn 78 = .ok (.iconst 0, 1) := by decide +kernel
theorem dX9_goesOn_79 : decode cX9_goesOn 79 = .ok (.putfield 119, 3) := by decide +kernel
theorem dX9_goesOn_82 : decode cX9_goesOn 82 = .ok (.iconst 0, 1) := by decide +kernel
theorem dX9_goesOn_83 : decode cX9_goesOn 83 = .ok (.istore_n 2, 1) := by decide +kernel
theorem dX9_goesOn_84 : decode cX9_goesOn 84 = .ok (.iload_n 2, 1) := by decide +kernel
theorem dX9_goesOn_85 : decode cX9_goesOn 85 = .ok (.iconst 4, 1) := by decide +kernel
theorem dX9_goesOn_86 : decode cX9_goesOn 86 = .ok (.if_icmp .ge 16, 3) := by decide +kernel
theorem dX9_goesOn_89 : decode cX9_goesOn 89 = .ok (.aload_n 0, 1) := by decide +kernel
theorem dX9_goesOn_90 : decode cX9_goesOn 90 = .ok (.getfield 35, 3) := by decide +kernel
theorem dX9_goesOn_93 : decode cX9_goesOn 93 = .ok (.iload_n 2, 1) := by decide +kernel
theorem dX9_goesOn_94 : decode cX9_goesOn 94 = .ok (.iconst 0, 1) := by decide +kernel
theorem dX9_goesOn_95 : decode cX9_goesOn 95 = .ok (.iastore, 1) := by decide +kernel
theorem dX9_goesOn_96 : decode cX9_goesOn 96 = .ok (.iinc 2 1, 3) := by decide +kernel
theorem dX9_goesOn_99 : decode cX9_goesOn 99 = .ok (.goto (-15), 3) := by decide +kernel
theorem dX9_goesOn_102 : decode cX9_goesOn 102 = .ok (.iconst 5, 1) := by decide +kernel
theorem dX9_goesOn_103 : decode cX9_goesOn 103 = .ok (.ireturn, 1) := by decide +kernel
theorem dX9_goesOn_104 : decode cX9_goesOn 104 = .ok (.aload_n 0, 1) := by decide +kernel
theorem dX9_goesOn_105 : decode cX9_goesOn 105 = .ok (.iload_n 1, 1) := by decide +kernel
theorem dX9_goesOn_106 : decode cX9_goesOn 106 = .ok (.invokevirtual 100, 3) := by decide +kernel
theorem dX9_goesOn_109 : decode cX9_goesOn 109 = .ok (.ifCond .eq 15, 3) := by decide +kernel
theorem dX9_goesOn_112 : decode cX9_goesOn 112 = .ok (.aload_n 0, 1) := by decide +kernel
theorem dX9_goesOn_113 : decode cX9_goesOn 113 = .ok (.iload_n 1, 1) := by decide +kernel
theorem dX9_goesOn_114 : decode cX9_goesOn 114 = .ok (.putfield 77, 3) := by decide +kernel
theorem dX9_goesOn_117 : decode cX9_goesOn 117 = .ok (.aload_n 0, 1) := by decide +kernel
theorem dX9_goesOn_118 : decode cX9_goesOn 118 = .ok (.iconst 0, 1) := by decide +kernel
theorem dX9_goesOn_119 : decode cX9_goesOn 119 = .ok (.putfield 86, 3) := by decide +kernel
theorem dX9_goesOn_122 : decode cX9_goesOn 122 = .ok (.iconst 2, 1) := by decide +kernel
theorem dX9_goesOn_123 : decode cX9_goesOn 123 = .ok (.ireturn, 1) := by decide +kernel
theorem dX9_goesOn_124 : decode cX9_goesOn 124 = .ok (.aload_n 0, 1) := by decide +kernel
theorem dX9_goesOn_125 : decode cX9_goesOn 125 = .ok (.iconst 1, 1) := by decide +kernel
theorem dX9_goesOn_126 : decode cX9_goesOn 126 = .ok (.putfield 83, 3) := by decide +kernel
theorem dX9_goesOn_129 : decode cX9_goesOn 129 = .ok (.aload_n 0, 1) := by decide +kernel
theorem dX9_goesOn_130 : decode cX9_goesOn 130 = .ok (.aload_n 0, 1) := by decide +kernel
theorem dX9_goesOn_131 : decode cX9_goesOn 131 = .ok (.getfield 25, 3) := by decide +kernel
theorem dX9_goesOn_134 : decode cX9_goesOn 134 = .ok (.iload_n 1, 1) := by decide +kernel
theorem dX9_goesOn_135 : decode cX9_goesOn 135 = .ok (.iaload, 1) := by decide +kernel
theorem dX9_goesOn_136 : decode cX9_goesOn 136 = .ok (.putfield 128, 3) := by decide +kernel
theorem dX9_goesOn_139 : decode cX9_goesOn 139 = .ok (.iconst 3, 1) := by decide +kernel
theorem dX9_goesOn_140 : decode cX9_goesOn 140 = .ok (.ireturn, 1) := by decide +kernel
theorem dX9_codeDone_0 : decode cX9_codeDone 0 = .ok (.aload_n 0, 1) := by decide +kernel
theorem dX9_codeDone_1 : decode cX9_codeDone 1 = .ok (.getfield 119, 3) := by decide +kernel
theorem dX9_codeDone_4 : decode cX9_codeDone 4 = .ok (.iconst 3, 1) := by decide +kernel
theorem dX9_codeDone_5 : decode cX9_codeDone 5 = .ok (.if_icmp .ge 16, 3) := by decide +kernel
theorem dX9_codeDone_8 : decode cX9_codeDone 8 = .ok (.aload_n 0, 1) := by decide +kernel
theorem dX9_codeDone_9 : decode cX9_codeDone 9 = .ok (.dup, 1) := by decide +kernel
theorem dX9_codeDone_10 : decode cX9_codeDone 10 = .ok (.getfield 119, 3) := by decide +kernel
theorem dX9_codeDone_13 : decode cX9_codeDone 13 = .ok (.iconst 1, 1) := by decide +kernel
theorem dX9_codeDone_14 : decode cX9_codeDone 14 = .ok (.iadd, 1) := by decide +kernel
theorem dX9_codeDone_15 : decode cX9_codeDone 15 = .ok (.putfield 119, 3) := by decide +kernel
theorem dX9_codeDone_18 : decode cX9_codeDone 18 = .ok (.bipush 6, 2) := by decide +kernel
theorem dX9_codeDone_20 : decode cX9_codeDone 20 = .ok (.ireturn, 1) := by decide +kernel
theorem dX9_codeDone_21 : decode cX9_codeDone 21 = .ok (.aload_n 0, 1) := by decide +kernel
theorem dX9_codeDone_22 : decode cX9_codeDone 22 = .ok (.aload_n 0, 1) := by decide +kernel
theorem dX9_codeDone_23 : decode cX9_codeDone 23 = .ok (.getfield 86, 3) := by decide +kernel
theorem dX9_codeDone_26 : decode cX9_codeDone 26 = .ok (.invokevirtual 125, 3) := by decide +kernel
theorem dX9_codeDone_29 : decode cX9_codeDone 29 = .ok (.istore_n 1, 1) := by decide +kernel
theorem dX9_codeDone_30 : decode cX9_codeDone 30 = .ok (.aload_n 0, 1) := by decide +kernel
theorem dX9_codeDone_31 : decode cX9_codeDone 31 = .ok (.iconst 0, 1) := by decide +kernel
theorem dX9_codeDone_32 : decode cX9_codeDone 32 = .ok (.putfield 83, 3) := by decide +kernel
theorem dX9_codeDone_35 : decode cX9_codeDone 35 = .ok (.aload_n 0, 1) := by decide +kernel
theorem dX9_codeDone_36 : decode cX9_codeDone 36 = .ok (.getfield 28, 3) := by decide +kernel
theorem dX9_codeDone_39 : decode cX9_codeDone 39 = .ok (.iload_n 1, 1) := by decide +kernel
theorem dX9_codeDone_40 : decode cX9_codeDone 40 = .ok (.iaload, 1) := by decide +kernel
theorem dX9_codeDone_41 : decode cX9_codeDone 41 = .ok (.sipush 1000, 3) := by decide +kernel
theorem dX9_codeDone_44 : decode cX9_codeDone 44 = .ok (.aload_n 0, 1) := by decide +kernel
theorem dX9_codeDone_45 : decode cX9_codeDone 45 = .ok (.getfield 35, 3) := by decide +kernel
theorem dX9_codeDone_48 : decode cX9_codeDone 48 = .ok (.iconst 0, 1) := by decide +kernel
theorem dX9_codeDone_49 : decode cX9_codeDone 49 = .ok (.iaload, 1) := by decide +kernel
theorem dX9_codeDone_50 : decode cX9_codeDone 50 = .ok (.imul, 1) := by decide +kernel
theorem dX9_codeDone_51 : decode cX9_codeDone 51 = .ok (.bipush 100, 2) := by decide +kernel
theorem dX9_codeDone_53 : decode cX9_codeDone 53 = .ok (.aload_n 0, 1) := by decide +kernel
theorem dX9_codeDone_54 : decode cX9_codeDone 54 = .ok (.getfield 35, 3) := by decide +kernel
theorem dX9_codeDone_57 : decode cX9_codeDone 57 = .ok (.iconst 1, 1) := by decide +kernel
theorem dX9_codeDone_58 : decode cX9_codeDone 58 = .ok (.iaload, 1) := by decide +kernel
theorem dX9_codeDone_59 : decode cX9_codeDone 59 = .ok (.imul, 1) := by decide +kernel
theorem dX9_codeDone_60 : decode cX9_codeDone 60 = .ok (.iadd, 1) := by decide +kernel
theorem dX9_codeDone_61 : decode cX9_codeDone 61 = .ok (.bipush 10, 2) := by decide +kernel
theorem dX9_codeDone_63 : decode cX9_codeDone 63 = .ok (.aload_n 0, 1) := by decide +kernel
theorem dX9_codeDone_64 : decode cX9_codeDone 64 = .ok (.getfield 35, 3) := by decide +kernel
theorem dX9_codeDone_67 : decode cX9_codeDone 67 = .ok (.iconst 2, 1) := by decide +kernel
theorem dX9_codeDone_68 : decode cX9_codeDone 68 = .ok (.iaload, 1) := by decide +kernel
theorem dX9_codeDone_69 : decode cX9_codeDone 69 = .ok (.imul, 1) := by decide +kernel
theorem dX9_codeDone_70 : decode cX9_codeDone 70 = .ok (.iadd, 1) := by decide +kernel
theorem dX9_codeDone_71 : decode cX9_codeDone 71 = .ok (.aload_n 0, 1) := by decide +kernel
theorem dX9_codeDone_72 : decode cX9_codeDone 72 = .ok (.getfield 35, 3) := by decide +kernel
theorem dX9_codeDone_75 : decode cX9_codeDone 75 = .ok (.iconst 3, 1) := by decide +kernel
theorem dX9_codeDone_76 : decode cX9_codeDone 76 = .ok (.iaload, 1) := by decide +kernel
theorem dX9_codeDone_77 : decode cX9_codeDone 77 = .ok (.iadd, 1) := by decide +kernel
theorem dX9_codeDone_78 : decode cX9_codeDone 78 = .ok (.if_icmp .ne 18, 3) := by decide +kernel
theorem dX9_codeDone_81 : decode cX9_codeDone 81 = .ok (.aload_n 0, 1) := by decide +kernel
theorem dX9_codeDone_82 : decode cX9_codeDone 82 = .ok (.getfield 31, 3) := by decide +kernel
theorem dX9_codeDone_85 : decode cX9_codeDone 85 = .ok (.iload_n 1, 1) := by decide +kernel
theorem dX9_codeDone_86 : decode cX9_codeDone 86 = .ok (.iconst 1, 1) := by decide +kernel
theorem dX9_codeDone_87 : decode cX9_codeDone 87 = .ok (.bastore, 1) := by decide +kernel
theorem dX9_codeDone_88 : decode cX9_codeDone 88 = .ok (.aload_n 0, 1) := by decide +kernel
theorem dX9_codeDone_89 : decode cX9_codeDone 89 = .ok (.iconst 0, 1) := by decide +kernel
theorem dX9_codeDone_90 : decode cX9_codeDone 90 = .ok (.putfield 153, 3) := by decide +kernel
theorem dX9_codeDone_93 : decode cX9_codeDone 93 = .ok (.bipush 7, 2) := by decide +kernel
theorem dX9_codeDone_95 : decode cX9_codeDone 95 = .ok (.ireturn, 1) := by decide +kernel
theorem dX9_codeDone_96 : decode cX9_codeDone 96 = .ok (.aload_n 0, 1) := by decide +kernel
theorem dX9_codeDone_97 : decode cX9_codeDone 97 = .ok (.getfield 41, 3) := by decide +kernel
theorem dX9_codeDone_100 : decode cX9_codeDone 100 = .ok (.iconst 4, 1) := by decide +kernel
theorem dX9_codeDone_101 : decode cX9_codeDone 101 = .ok (.dup2, 1) := by decide +kernel
theorem dX9_codeDone_102 : decode cX9_codeDone 102 = .ok (.iaload, 1) := by decide +kernel
theorem dX9_codeDone_103 : decode cX9_codeDone 103 = .ok (.iconst 1, 1) := by decide +kernel
theorem dX9_codeDone_104 : decode cX9_codeDone 104 = .ok (.iadd, 1) := by decide +kernel
theorem dX9_codeDone_105 : decode cX9_codeDone 105 = .ok (.iastore, 1) := by decide +kernel
theorem dX9_codeDone_106 : decode cX9_codeDone 106 = .ok (.aload_n 0, 1) := by decide +kernel
theorem dX9_codeDone_107 : decode cX9_codeDone 107 = .ok (.dup, 1) := by decide +kernel
theorem dX9_codeDone_108 : decode cX9_codeDone 108 = .ok (.getfield 153, 3) := by decide +kernel
theorem dX9_codeDone_111 : decode cX9_codeDone 111 = .ok (.iconst 1, 1) := by decide +kernel
theorem dX9_codeDone_112 : decode cX9_codeDone 112 = .ok (.iadd, 1) := by decide +kernel
theorem dX9_codeDone_113 : decode cX9_codeDone 113 = .ok (.putfield 153, 3) := by decide +kernel
theorem dX9_codeDone_116 : decode cX9_codeDone 116 = .ok (.aload_n 0, 1) := by decide +kernel
theorem dX9_codeDone_117 : decode cX9_codeDone 117 = .ok (.getfield 153, 3) := by decide +kernel
theorem dX9_codeDone_120 : decode cX9_codeDone 120 = .ok (.iconst 3, 1) := by decide +kernel
theorem dX9_codeDone_121 : decode cX9_codeDone 121 = .ok (.if_icmp .ne 24, 3) := by decide +kernel
theorem dX9_codeDone_124 : decode cX9_codeDone 124 = .ok (.aload_n 0, 1) := by decide +kernel
theorem dX9_codeDone_125 : decode cX9_codeDone 125 = .ok (.iconst 0, 1) := by decide +kernel
theorem dX9_codeDone_126 : decode cX9_codeDone 126 = .ok (.putfield 153, 3) := by decide +kernel
theorem dX9_codeDone_129 : decode cX9_codeDone 129 = .ok (.aload_n 0, 1) := by decide +kernel
theorem dX9_codeDone_130 : decode cX9_codeDone 130 = .ok (.bipush 30, 2) := by decide +kernel
theorem dX9_codeDone_132 : decode cX9_codeDone 132 = .ok (.putfield 150, 3) := by decide +kernel
theorem dX9_codeDone_135 : decode cX9_codeDone 135 = .ok (.aload_n 0, 1) := by decide +kernel
theorem dX9_codeDone_136 : decode cX9_codeDone 136 = .ok (.getfield 41, 3) := by decide +kernel
theorem dX9_codeDone_139 : decode cX9_codeDone 139 = .ok (.iconst 5, 1) := by decide +kernel
theorem dX9_codeDone_140 : decode cX9_codeDone 140 = .ok (.dup2, 1) := by decide +kernel
theorem dX9_codeDone_141 : decode cX9_codeDone 141 = .ok (.iaload, 1) := by decide +kernel
theorem dX9_codeDone_142 : decode cX9_codeDone 142 = .ok (.iconst 1, 1) := by decide +kernel
theorem dX9_codeDone_143 : decode cX9_codeDone 143 = .ok (.iadd, 1) := by decide +kernel
theorem dX9_codeDone_144 : decode cX9_codeDone 144 = .ok (.iastore, 1) := by decide +kernel
theorem dX9_codeDone_145 : decode cX9_codeDone 145 = .ok (.bipush 8, 2) := by decide +kernel
theorem dX9_codeDone_147 : decode cX9_codeDone 147 = .ok (.ireturn, 1) := by decide +kernel
theorem dX9_presses_0 : decode cX9_presses 0 = .ok (.aload_n 0, 1) := by decide +kernel
theorem dX9_presses_1 : decode cX9_presses 1 = .ok (.iconst 0, 1) := by decide +kernel
theorem dX9_presses_2 : decode cX9_presses 2 = .ok (.putfield 141, 3) := by decide +kernel
theorem dX9_presses_5 : decode cX9_presses 5 = .ok (.aload_n 0, 1) := by decide +kernel
theorem dX9_presses_6 : decode cX9_presses 6 = .ok (.getfield 41, 3) := by decide +kernel
theorem dX9_presses_9 : decode cX9_presses 9 = .ok (.iconst 1, 1) := by decide +kernel
theorem dX9_presses_10 : decode cX9_presses 10 = .ok (.dup2, 1) := by decide +kernel
theorem dX9_presses_11 : decode cX9_presses 11 = .ok (.iaload, 1) := by decide +kernel
theorem dX9_presses_12 : decode cX9_presses 12 = .ok (.iconst 1, 1) := by decide +kernel
theorem dX9_presses_13 : decode cX9_presses 13 = .ok (.iadd, 1) := by decide +kernel
theorem dX9_presses_14 : decode cX9_presses 14 = .ok (.iastore, 1) := by decide +kernel
theorem dX9_presses_15 : decode cX9_presses 15 = .ok (.aload_n 0, 1) := by decide +kernel
theorem dX9_presses_16 : decode cX9_presses 16 = .ok (.getfield 83, 3) := by decide +kernel
theorem dX9_presses_19 : decode cX9_presses 19 = .ok (.ifCond .ne 8, 3) := by decide +kernel
theorem dX9_presses_22 : decode cX9_presses 22 = .ok (.aload_n 0, 1) := by decide +kernel
theorem dX9_presses_23 : decode cX9_presses 23 = .ok (.invokevirtual 156, 3) := by decide +kernel
theorem dX9_presses_26 : decode cX9_presses 26 = .ok (.ireturn, 1) := by decide +kernel
theorem dX9_presses_27 : decode cX9_presses 27 = .ok (.aload_n 0, 1) := by decide +kernel
theorem dX9_presses_28 : decode cX9_presses 28 = .ok (.getfield 83, 3) := by decide +kernel
theorem dX9_presses_31 : decode cX9_presses 31 = .ok (.iconst 2, 1) := by decide +kernel
theorem dX9_presses_32 : decode cX9_presses 32 = .ok (.if_icmp .ne 8, 3) := by decide +kernel
theorem dX9_presses_35 : decode cX9_presses 35 = .ok (.aload_n 0, 1) := by decide +kernel
theorem dX9_presses_36 : decode cX9_presses 36 = .ok (.invokevirtual 160, 3) := by decide +kernel
theorem dX9_presses_39 : decode cX9_presses 39 = .ok (.ireturn, 1) := by decide +kernel
theorem dX9_presses_40 : decode cX9_presses 40 = .ok (.aload_n 0, 1) := by decide +kernel
theorem dX9_presses_41 : decode cX9_presses 41 = .ok (.aload_n 0, 1) := by decide +kernel
theorem dX9_presses_42 : decode cX9_presses 42 = .ok (.getfield 86, 3) := by decide +kernel
theorem dX9_presses_45 : decode cX9_presses 45 = .ok (.invokevirtual 125, 3) := by decide +kernel
theorem dX9_presses_48 : decode cX9_presses 48 = .ok (.istore_n 1, 1) := by decide +kernel
theorem dX9_presses_49 : decode cX9_presses 49 = .ok (.aload_n 0, 1) := by decide +kernel
theorem dX9_presses_50 : decode cX9_presses 50 = .ok (.iconst 0, 1) := by decide +kernel
theorem dX9_presses_51 : decode cX9_presses 51 = .ok (.putfield 83, 3) := by decide +kernel
theorem dX9_presses_54 : decode cX9_presses 54 = .ok (.aload_n 0, 1) := by decide +kernel
theorem dX9_presses_55 : decode cX9_presses 55 = .ok (.getfield 25, 3) := by decide +kernel
theorem dX9_presses_58 : decode cX9_presses 58 = .ok (.iload_n 1, 1) := by decide +kernel
theorem dX9_presses_59 : decode cX9_presses 59 = .ok (.iaload, 1) := by decide +kernel
theorem dX9_presses_60 : decode cX9_presses 60 = .ok (.aload_n 0, 1) := by decide +kernel
theorem dX9_presses_61 : decode cX9_presses 61 = .ok (.getfield 128, 3) := by decide +kernel
theorem dX9_presses_64 : decode cX9_presses 64 = .ok (.if_icmp .eq 34, 3) := by decide +kernel
theorem dX9_presses_67 : decode cX9_presses 67 = .ok (.aload_n 0, 1) := by decide +kernel
theorem dX9_presses_68 : decode cX9_presses 68 = .ok (.iload_n 1, 1) := by decide +kernel
theorem dX9_presses_69 : decode cX9_presses 69 = .ok (.aload_n 0, 1) := by decide +kernel
theorem dX9_presses_70 : decode cX9_presses 70 = .ok (.getfield 25, 3) := by decide +kernel
theorem dX9_presses_73 : decode cX9_presses 73 = .ok (.iload_n 1, 1) := by decide +kernel
theorem dX9_presses_74 : decode cX9_presses 74 = .ok (.iaload, 1) := by decide +kernel
theorem dX9_presses_75 : decode cX9_presses 75 = .ok (.invokevirtual 163, 3) := by decide +kernel
theorem dX9_presses_78 : decode cX9_presses 78 = .ok (.aload_n 0, 1) := by decide +kernel
theorem dX9_presses_79 : decode cX9_presses 79 = .ok (.getfield 25, 3) := by decide +kernel
theorem dX9_presses_82 : decode cX9_presses 82 = .ok (.iload_n 1, 1) := by decide +kernel
theorem dX9_presses_83 : decode cX9_presses 83 = .ok (.aload_n 0, 1) := by decide +kernel
theorem dX9_presses_84 : decode cX9_presses 84 = .ok (.getfield 128, 3) := by decide +kernel
theorem dX9_presses_87 : decode cX9_presses 87 = .ok (.iastore, 1) := by decide +kernel
theorem dX9_presses_88 : decode cX9_presses 88 = .ok (.aload_n 0, 1) := by decide +kernel
theorem dX9_presses_89 : decode cX9_presses 89 = .ok (.getfield 41, 3) := by decide +kernel
theorem dX9_presses_92 : decode cX9_presses 92 = .ok (.iconst 2, 1) := by decide +kernel
theorem dX9_presses_93 : decode cX9_presses 93 = .ok (.dup2, 1) := by decide +kernel
theorem dX9_presses_94 : decode cX9_presses 94 = .ok (.iaload, 1) := by decide +kernel
theorem dX9_presses_95 : decode cX9_presses 95 = .ok (.iconst 1, 1) := by decide +kernel
theorem dX9_presses_96 : decode cX9_presses 96 = .ok (.iadd, 1) := by decide +kernel
theorem dX9_presses_97 : decode cX9_presses 97 = .ok (.iastore, 1) := by decide +kernel
theorem dX9_presses_98 : decode cX9_presses 98 = .ok (.iconst 4, 1) := by decide +kernel
theorem dX9_presses_99 : decode cX9_presses 99 = .ok (.ireturn, 1) := by decide +kernel
theorem dX9_press_0 : decode cX9_press 0 = .ok (.aload_n 0, 1) := by decide +kernel
theorem dX9_press_1 : decode cX9_press 1 = .ok (.iconst 0, 1) := by decide +kernel
theorem dX9_press_2 : decode cX9_press 2 = .ok (.putfield 66, 3) := by decide +kernel
theorem dX9_press_5 : decode cX9_press 5 = .ok (.aload_n 0, 1) := by decide +kernel
theorem dX9_press_6 : decode cX9_press 6 = .ok (.invokevirtual 167, 3) := by decide +kernel
theorem dX9_press_9 : decode cX9_press 9 = .ok (.ireturn, 1) := by decide +kernel
theorem dX9_held_0 : decode cX9_held 0 = .ok (.aload_n 0, 1) := by decide +kernel
theorem dX9_held_1 : decode cX9_held 1 = .ok (.getfield 83, 3) := by decide +kernel
theorem dX9_held_4 : decode cX9_held 4 = .ok (.istore_n 1, 1) := by decide +kernel
theorem dX9_held_5 : decode cX9_held 5 = .ok (.aload_n 0, 1) := by decide +kernel
theorem dX9_held_6 : decode cX9_held 6 = .ok (.iconst 0, 1) := by decide +kernel
theorem dX9_held_7 : decode cX9_held 7 = .ok (.putfield 141, 3) := by decide +kernel
theorem dX9_held_10 : decode cX9_held 10 = .ok (.aload_n 0, 1) := by decide +kernel
theorem dX9_held_11 : decode cX9_held 11 = .ok (.getfield 83, 3) := by decide +kernel
theorem dX9_held_14 : decode cX9_held 14 = .ok (.ifCond .ne 7, 3) := by decide +kernel
theorem dX9_held_17 : decode cX9_held 17 = .ok (.aload_n 0, 1) := by decide +kernel
theorem dX9_held_18 : decode cX9_held 18 = .ok (.invokevirtual 170, 3) := by decide +kernel
theorem dX9_held_21 : decode cX9_held 21 = .ok (.aload_n 0, 1) := by decide +kernel
theorem dX9_held_22 : decode cX9_held 22 = .ok (.iconst 0, 1) := by decide +kernel
theorem dX9_held_23 : decode cX9_held 23 = .ok (.putfield 83, 3) := by decide +kernel
theorem dX9_held_26 : decode cX9_held 26 = .ok (.iload_n 1, 1) := by decide +kernel
theorem dX9_held_27 : decode cX9_held 27 = .ok (.ireturn, 1) := by decide +kernel
theorem dX9_hold_0 : decode cX9_hold 0 = .ok (.aload_n 0, 1) := by decide +kernel
theorem dX9_hold_1 : decode cX9_hold 1 = .ok (.iconst 0, 1) := by decide +kernel
theorem dX9_hold_2 : decode cX9_hold 2 = .ok (.putfield 66, 3) := by decide +kernel
theorem dX9_hold_5 : decode cX9_hold 5 = .ok (.aload_n 0, 1) := by decide +kernel
theorem dX9_hold_6 : decode cX9_hold 6 = .ok (.invokevirtual 173, 3) := by decide +kernel
theorem dX9_hold_9 : decode cX9_hold 9 = .ok (.ireturn, 1) := by decide +kernel
theorem dX9_ticksPass_0 : decode cX9_ticksPass 0 = .ok (.iconst 0, 1) := by decide +kernel
theorem dX9_ticksPass_1 : decode cX9_ticksPass 1 = .ok (.istore_n 2, 1) := by decide +kernel
theorem dX9_ticksPass_2 : decode cX9_ticksPass 2 = .ok (.iconst 0, 1) := by decide +kernel
theorem dX9_ticksPass_3 : decode cX9_ticksPass 3 = .ok (.istore_n 3, 1) := by decide +kernel
theorem dX9_ticksPass_4 : decode cX9_ticksPass 4 = .ok (.iload_n 3, 1) := by decide +kernel
theorem dX9_ticksPass_5 : decode cX9_ticksPass 5 = .ok (.iload_n 1, 1) := by decide +kernel
theorem dX9_ticksPass_6 : decode cX9_ticksPass 6 = .ok (.if_icmp .ge 106, 3) := by decide +kernel
theorem dX9_ticksPass_9 : decode cX9_ticksPass 9 = .ok (.aload_n 0, 1) := by decide +kernel
theorem dX9_ticksPass_10 : decode cX9_ticksPass 10 = .ok (.dup, 1) := by decide +kernel
theorem dX9_ticksPass_11 : decode cX9_ticksPass 11 = .ok (.getfield 141, 3) := by decide +kernel
theorem dX9_ticksPass_14 : decode cX9_ticksPass 14 = .ok (.iconst 1, 1) := by decide +kernel
theorem dX9_ticksPass_15 : decode cX9_ticksPass 15 = .ok (.iadd, 1) := by decide +kernel
theorem dX9_ticksPass_16 : decode cX9_ticksPass 16 = .ok (.putfield 141, 3) := by decide +kernel
theorem dX9_ticksPass_19 : decode cX9_ticksPass 19 = .ok (.aload_n 0, 1) := by decide +kernel
theorem dX9_ticksPass_20 : decode cX9_ticksPass 20 = .ok (.getfield 41, 3) := by decide +kernel
theorem dX9_ticksPass_23 : decode cX9_ticksPass 23 = .ok (.bipush 7, 2) := by decide +kernel
theorem dX9_ticksPass_25 : decode cX9_ticksPass 25 = .ok (.dup2, 1) := by decide +kernel
theorem dX9_ticksPass_26 : decode cX9_ticksPass 26 = .ok (.iaload, 1) := by decide +kernel
theorem dX9_ticksPass_27 : decode cX9_ticksPass 27 = .ok (.iconst 1, 1) := by decide +kernel
theorem dX9_ticksPass_28 : decode cX9_ticksPass 28 = .ok (.iadd, 1) := by decide +kernel
theorem dX9_ticksPass_29 : decode cX9_ticksPass 29 = .ok (.iastore, 1) := by decide +kernel
theorem dX9_ticksPass_30 : decode cX9_ticksPass 30 = .ok (.aload_n 0, 1) := by decide +kernel
theorem dX9_ticksPass_31 : decode cX9_ticksPass 31 = .ok (.dup, 1) := by decide +kernel
theorem dX9_ticksPass_32 : decode cX9_ticksPass 32 = .ok (.getfield 150, 3) := by decide +kernel
theorem dX9_ticksPass_35 : decode cX9_ticksPass 35 = .ok (.aload_n 0, 1) := by decide +kernel
theorem dX9_ticksPass_36 : decode cX9_ticksPass 36 = .ok (.getfield 150, 3) := by decide +kernel
theorem dX9_ticksPass_39 : decode cX9_ticksPass 39 = .ok (.ifCond .le 7, 3) := by decide +kernel
theorem dX9_ticksPass_42 : decode cX9_ticksPass 42 = .ok (.iconst 1, 1) := by decide +kernel
theorem dX9_ticksPass_43 : decode cX9_ticksPass 43 = .ok (.goto 4, 3) := by decide +kernel
theorem dX9_ticksPass_46 : decode cX9_ticksPass 46 = .ok (.iconst 0, 1) := by decide +kernel
theorem dX9_ticksPass_47 : decode cX9_ticksPass 47 = .ok (.isub, 1) := by decide +kernel
theorem dX9_ticksPass_48 : decode cX9_ticksPass 48 = .ok (.putfield 150, 3) := by decide +kernel
theorem dX9_ticksPass_51 : decode cX9_ticksPass 51 = .ok (.aload_n 0, 1) := by decide +kernel
theorem dX9_ticksPass_52 : decode cX9_ticksPass 52 = .ok (.getfield 141, 3) := by decide +kernel
theorem dX9_ticksPass_55 : decode cX9_ticksPass 55 = .ok (.aload_n 0, 1) := by decide +kernel
theorem dX9_ticksPass_56 : decode cX9_ticksPass 56 = .ok (.getfield 38, 3) := by decide +kernel
theorem dX9_ticksPass_59 : decode cX9_ticksPass 59 = .ok (.iconst 0, 1) := by decide +kernel
theorem dX9_ticksPass_60 : decode cX9_ticksPass 60 = .ok (.iaload, 1) := by decide +kernel
theorem dX9_ticksPass_61 : decode cX9_ticksPass 61 = .ok (.if_icmp .ne 18, 3) := by decide +kernel
theorem dX9_ticksPass_64 : decode cX9_ticksPass 64 = .ok (.aload_n 0, 1) := by decide +kernel
theorem dX9_ticksPass_65 : decode cX9_ticksPass 65 = .ok (.getfield 83, 3) := by decide +kernel
theorem dX9_ticksPass_68 : decode cX9_ticksPass 68 = .ok (.ifCond .eq 11, 3) := by decide +kernel
theorem dX9_ticksPass_71 : decode cX9_ticksPass 71 = .ok (.aload_n 0, 1) := by decide +kernel
theorem dX9_ticksPass_72 : decode cX9_ticksPass 72 = .ok (.iconst 0, 1) := by decide +kernel
theorem dX9_ticksPass_73 : decode cX9_ticksPass 73 = .ok (.putfield 83, 3) := by decide +kernel
theorem dX9_ticksPass_76 : decode cX9_ticksPass 76 = .ok (.iinc 2 1, 3) := by decide +kernel
theorem dX9_ticksPass_79 : decode cX9_ticksPass 79 = .ok (.aload_n 0, 1) := by decide +kernel
theorem dX9_ticksPass_80 : decode cX9_ticksPass 80 = .ok (.getfield 141, 3) := by decide +kernel
theorem dX9_ticksPass_83 : decode cX9_ticksPass 83 = .ok (.aload_n 0, 1) := by decide +kernel
theorem dX9_ticksPass_84 : decode cX9_ticksPass 84 = .ok (.getfield 38, 3) := by decide +kernel
theorem dX9_ticksPass_87 : decode cX9_ticksPass 87 = .ok (.iconst 1, 1) := by decide +kernel
theorem dX9_ticksPass_88 : decode cX9_ticksPass 88 = .ok (.iaload, 1) := by decide +kernel
theorem dX9_ticksPass_89 : decode cX9_ticksPass 89 = .ok (.if_icmp .ne 17, 3) := by decide +kernel
theorem dX9_ticksPass_92 : decode cX9_ticksPass 92 = .ok (.aload_n 0, 1) := by decide +kernel
theorem dX9_ticksPass_93 : decode cX9_ticksPass 93 = .ok (.invokevirtual 93, 3) := by decide +kernel
theorem dX9_ticksPass_96 : decode cX9_ticksPass 96 = .ok (.ifCond .ne 10, 3) := by decide +kernel
theorem dX9_ticksPass_99 : decode cX9_ticksPass 99 = .ok (.aload_n 0, 1) := by decide +kernel
theorem dX9_ticksPass_100 : decode cX9_ticksPass 100 = .ok (.invokevirtual 170, 3) := by decide +kernel
theorem dX9_ticksPass_103 : decode cX9_ticksPass 103 = .ok (.iinc 2 1, 3) := by decide +kernel
theorem dX9_ticksPass_106 : decode cX9_ticksPass 106 = .ok (.iinc 3 1, 3) := by decide +kernel
theorem dX9_ticksPass_109 : decode cX9_ticksPass 109 = .ok (.goto (-105), 3) := by decide +kernel
theorem dX9_ticksPass_112 : decode cX9_ticksPass 112 = .ok (.aload_n 0, 1) := by decide +kernel
theorem dX9_ticksPass_113 : decode cX9_ticksPass 113 = .ok (.getfield 41, 3) := by decide +kernel
theorem dX9_ticksPass_116 : decode cX9_ticksPass 116 = .ok (.bipush 6, 2) := by decide +kernel
theorem dX9_ticksPass_118 : decode cX9_ticksPass 118 = .ok (.dup2, 1) := by decide +kernel
theorem dX9_ticksPass_119 : decode cX9_ticksPass 119 = .ok (.iaload, 1) := by decide +kernel
theorem dX9_ticksPass_120 : decode cX9_ticksPass 120 = .ok (.iload_n 2, 1) := by decide +kernel
theorem dX9_ticksPass_121 : decode cX9_ticksPass 121 = .ok (.iadd, 1) := by decide +kernel
theorem dX9_ticksPass_122 : decode cX9_ticksPass 122 = .ok (.iastore, 1) := by decide +kernel
theorem dX9_ticksPass_123 : decode cX9_ticksPass 123 = .ok (.iload_n 2, 1) := by decide +kernel
theorem dX9_ticksPass_124 : decode cX9_ticksPass 124 = .ok (.ireturn, 1) := by decide +kernel
theorem dX9_tick_0 : decode cX9_tick 0 = .ok (.aload_n 0, 1) := by decide +kernel
theorem dX9_tick_1 : decode cX9_tick 1 = .ok (.iload_n 1, 1) := by decide +kernel
theorem dX9_tick_2 : decode cX9_tick 2 = .ok (.iconst 1, 1) := by decide +kernel
theorem dX9_tick_3 : decode cX9_tick 3 = .ok (.bipush 99, 2) := by decide +kernel
theorem dX9_tick_5 : decode cX9_tick 5 = .ok (.invokestatic 69, 3) := by decide +kernel
theorem dX9_tick_8 : decode cX9_tick 8 = .ok (.ifCond .eq 7, 3) := by decide +kernel
theorem dX9_tick_11 : decode cX9_tick 11 = .ok (.iconst 0, 1) := by decide +kernel
theorem dX9_tick_12 : decode cX9_tick 12 = .ok (.goto 4, 3) := by decide +kernel
theorem dX9_tick_15 : decode cX9_tick 15 = .ok (.iconst 1, 1) := by decide +kernel
theorem dX9_tick_16 : decode cX9_tick 16 = .ok (.invokevirtual 109, 3) := by decide +kernel
theorem dX9_tick_19 : decode cX9_tick 19 = .ok (.ifCond .eq 11, 3) := by decide +kernel
theorem dX9_tick_22 : decode cX9_tick 22 = .ok (.aload_n 0, 1) := by decide +kernel
theorem dX9_tick_23 : decode cX9_tick 23 = .ok (.iload_n 1, 1) := by decide +kernel
theorem dX9_tick_24 : decode cX9_tick 24 = .ok (.invokevirtual 176, 3) := by decide +kernel
theorem dX9_tick_27 : decode cX9_tick 27 = .ok (.goto 4, 3) := by decide +kernel
theorem dX9_tick_30 : decode cX9_tick 30 = .ok (.iconst 0, 1) := by decide +kernel
theorem dX9_tick_31 : decode cX9_tick 31 = .ok (.ireturn, 1) := by decide +kernel
theorem dX9_set_0 : decode cX9_set 0 = .ok (.iload_n 1, 1) := by decide +kernel
theorem dX9_set_1 : decode cX9_set 1 = .ok (.iconst 0, 1) := by decide +kernel
theorem dX9_set_2 : decode cX9_set 2 = .ok (.iconst 2, 1) := by decide +kernel
theorem dX9_set_3 : decode cX9_set 3 = .ok (.invokestatic 69, 3) := by decide +kernel
theorem dX9_set_6 : decode cX9_set 6 = .ok (.istore_n 3, 1) := by decide +kernel
theorem dX9_set_7 : decode cX9_set 7 = .ok (.aload_n 0, 1) := by decide +kernel
theorem dX9_set_8 : decode cX9_set 8 = .ok (.iload_n 3, 1) := by decide +kernel
theorem dX9_set_9 : decode cX9_set 9 = .ok (.ifCond .ne 7, 3) := by decide +kernel
theorem dX9_set_12 : decode cX9_set 12 = .ok (.iconst 1, 1) := by decide +kernel
theorem dX9_set_13 : decode cX9_set 13 = .ok (.goto 45, 3) := by decide +kernel
theorem dX9_set_16 : decode cX9_set 16 = .ok (.iload_n 2, 1) := by decide +kernel
theorem dX9_set_17 : decode cX9_set 17 = .ok (.iload_n 1, 1) := by decide +kernel
theorem dX9_set_18 : decode cX9_set 18 = .ok (.iconst 2, 1) := by decide +kernel
theorem dX9_set_19 : decode cX9_set 19 = .ok (.if_icmp .ne 7, 3) := by decide +kernel
theorem dX9_set_22 : decode cX9_set 22 = .ok (.iconst 0, 1) := by decide +kernel
theorem dX9_set_23 : decode cX9_set 23 = .ok (.goto 4, 3) := by decide +kernel
theorem dX9_set_26 : decode cX9_set 26 = .ok (.iconst 1, 1) := by decide +kernel
theorem dX9_set_27 : decode cX9_set 27 = .ok (.iload_n 1, 1) := by decide +kernel
theorem dX9_set_28 : decode cX9_set 28 = .ok (.ifCond .ne 8, 3) := by decide +kernel
theorem dX9_set_31 : decode cX9_set 31 = .ok (.bipush 60, 2) := by decide +kernel
theorem dX9_set_33 : decode cX9_set 33 = .ok (.goto 14, 3) := by decide +kernel
theorem dX9_set_36 : decode cX9_set 36 = .ok (.iload_n 1, 1) := by decide +kernel
theorem dX9_set_37 : decode cX9_set 37 = .ok (.iconst 1, 1) := by decide +kernel
theorem dX9_set_38 : decode cX9_set 38 = .ok (.if_icmp .ne 8, 3) := by decide +kernel
theorem dX9_set_41 : decode cX9_set 41 = .ok (.bipush 99, 2) := by decide +kernel
theorem dX9_set_43 : decode cX9_set 43 = .ok (.goto 4, 3) := by decide +kernel
theorem dX9_set_46 : decode cX9_set 46 = .ok (.iconst 1, 1) := by decide +kernel
theorem dX9_set_47 : decode cX9_set 47 = .ok (.invokestatic 69, 3) := by decide +kernel
theorem dX9_set_50 : decode cX9_set 50 = .ok (.ifCond .ne 7, 3) := by decide +kernel
theorem dX9_set_53 : decode cX9_set 53 = .ok (.iconst 2, 1) := by decide +kernel
theorem dX9_set_54 : decode cX9_set 54 = .ok (.goto 4, 3) := by decide +kernel
theorem dX9_set_57 : decode cX9_set 57 = .ok (.iconst 0, 1) := by decide +kernel
theorem dX9_set_58 : decode cX9_set 58 = .ok (.invokevirtual 109, 3) := by decide +kernel
theorem dX9_set_61 : decode cX9_set 61 = .ok (.ifCond .ne 5, 3) := by decide +kernel
theorem dX9_set_64 : decode cX9_set 64 = .ok (.iconst 0, 1) := by decide +kernel
theorem dX9_set_65 : decode cX9_set 65 = .ok (.ireturn, 1) := by decide +kernel
theorem dX9_set_66 : decode cX9_set 66 = .ok (.aload_n 0, 1) := by decide +kernel
theorem dX9_set_67 : decode cX9_set 67 = .ok (.getfield 38, 3) := by decide +kernel
theorem dX9_set_70 : decode cX9_set 70 = .ok (.iload_n 1, 1) := by decide +kernel
theorem dX9_set_71 : decode cX9_set 71 = .ok (.iaload, 1) := by decide +kernel
theorem dX9_set_72 : decode cX9_set 72 = .ok (.istore 4, 2) := by decide +kernel
theorem dX9_set_74 : decode cX9_set 74 = .ok (.aload_n 0, 1) := by decide +kernel
theorem dX9_set_75 : decode cX9_set 75 = .ok (.getfield 38, 3) := by decide +kernel
theorem dX9_set_78 : decode cX9_set 78 = .ok (.iload_n 1, 1) := by decide +kernel
theorem dX9_set_79 : decode cX9_set 79 = .ok (.iload_n 2, 1) := by decide +kernel
theorem dX9_set_80 : decode cX9_set 80 = .ok (.iastore, 1) := by decide +kernel
theorem dX9_set_81 : decode cX9_set 81 = .ok (.iload 4, 2) := by decide +kernel
theorem dX9_set_83 : decode cX9_set 83 = .ok (.ireturn, 1) := by decide +kernel
theorem dX9_takeBack_0 : decode cX9_takeBack 0 = .ok (.aload_n 0, 1) := by decide +kernel
theorem dX9_takeBack_1 : decode cX9_takeBack 1 = .ok (.aload_n 0, 1) := by decide +kernel
theorem dX9_takeBack_2 : decode cX9_takeBack 2 = .ok (.getfield 147, 3) := by decide +kernel
theorem dX9_takeBack_5 : decode cX9_takeBack 5 = .ok (.ifCond .le 7, 3) := by decide +kernel
theorem dX9_takeBack_8 : decode cX9_takeBack 8 = .ok (.iconst 0, 1) := by decide +kernel
theorem dX9_takeBack_9 : decode cX9_takeBack 9 = .ok (.goto 4, 3) := by decide +kernel
theorem dX9_takeBack_12 : decode cX9_takeBack 12 = .ok (.iconst 1, 1) := by decide +kernel
theorem dX9_takeBack_13 : decode cX9_takeBack 13 = .ok (.invokevirtual 109, 3) := by decide +kernel
theorem dX9_takeBack_16 : decode cX9_takeBack 16 = .ok (.ifCond .ne 5, 3) := by decide +kernel
theorem dX9_takeBack_19 : decode cX9_takeBack 19 = .ok (.iconst 0, 1) := by decide +kernel
theorem dX9_takeBack_20 : decode cX9_takeBack 20 = .ok (.ireturn, 1) := by decide +kernel
theorem dX9_takeBack_21 : decode cX9_takeBack 21 = .ok (.aload_n 0, 1) := by decide +kernel
theorem dX9_takeBack_22 : decode cX9_takeBack 22 = .ok (.dup, 1) := by decide +kernel
theorem dX9_takeBack_23 : decode cX9_takeBack 23 = .ok (.getfield 147, 3) := by decide +kernel
theorem dX9_takeBack_26 : decode cX9_takeBack 26 = .ok (.iconst 1, 1) := by decide +kernel
theorem dX9_takeBack_27 : decode cX9_takeBack 27 = .ok (.isub, 1) := by decide +kernel
theorem dX9_takeBack_28 : decode cX9_takeBack 28 = .ok (.putfield 147, 3) := by decide +kernel
theorem dX9_takeBack_31 : decode cX9_takeBack 31 = .ok (.aload_n 0, 1) := by decide +kernel
theorem dX9_takeBack_32 : decode cX9_takeBack 32 = .ok (.getfield 41, 3) := by decide +kernel
theorem dX9_takeBack_35 : decode cX9_takeBack 35 = .ok (.iconst 3, 1) := by decide +kernel
theorem dX9_takeBack_36 : decode cX9_takeBack 36 = .ok (.dup2, 1) := by decide +kernel
theorem dX9_takeBack_37 : decode cX9_takeBack 37 = .ok (.iaload, 1) := by decide +kernel
theorem dX9_takeBack_38 : decode cX9_takeBack 38 = .ok (.iconst 1, 1) := by decide +kernel
theorem dX9_takeBack_39 : decode cX9_takeBack 39 = .ok (.iadd, 1) := by decide +kernel
theorem dX9_takeBack_40 : decode cX9_takeBack 40 = .ok (.iastore, 1) := by decide +kernel
theorem dX9_takeBack_41 : decode cX9_takeBack 41 = .ok (.aload_n 0, 1) := by decide +kernel
theorem dX9_takeBack_42 : decode cX9_takeBack 42 = .ok (.getfield 25, 3) := by decide +kernel
theorem dX9_takeBack_45 : decode cX9_takeBack 45 = .ok (.aload_n 0, 1) := by decide +kernel
theorem dX9_takeBack_46 : decode cX9_takeBack 46 = .ok (.getfield 44, 3) := by decide +kernel
theorem dX9_takeBack_49 : decode cX9_takeBack 49 = .ok (.aload_n 0, 1) := by decide +kernel
theorem dX9_takeBack_50 : decode cX9_takeBack 50 = .ok (.getfield 147, 3) := by decide +kernel
theorem dX9_takeBack_53 : decode cX9_takeBack 53 = .ok (.iaload, 1) := by decide +kernel
theorem dX9_takeBack_54 : decode cX9_takeBack 54 = .ok (.aload_n 0, 1) := by decide +kernel
theorem dX9_takeBack_55 : decode cX9_takeBack 55 = .ok (.getfield 47, 3) := by decide +kernel
theorem dX9_takeBack_58 : decode cX9_takeBack 58 = .ok (.aload_n 0, 1) := by decide +kernel
theorem dX9_takeBack_59 : decode cX9_takeBack 59 = .ok (.getfield 147, 3) := by decide +kernel
theorem dX9_takeBack_62 : decode cX9_takeBack 62 = .ok (.iaload, 1) := by decide +kernel
theorem dX9_takeBack_63 : decode cX9_takeBack 63 = .ok (.iastore, 1) := by decide +kernel
theorem dX9_takeBack_64 : decode cX9_takeBack 64 = .ok (.aload_n 0, 1) := by decide +kernel
theorem dX9_takeBack_65 : decode cX9_takeBack 65 = .ok (.getfield 44, 3) := by decide +kernel
theorem dX9_takeBack_68 : decode cX9_takeBack 68 = .ok (.aload_n 0, 1) := by decide +kernel
theorem dX9_takeBack_69 : decode cX9_takeBack 69 = .ok (.getfield 147, 3) := by decide +kernel
theorem dX9_takeBack_72 : decode cX9_takeBack 72 = .ok (.iaload, 1) := by decide +kernel
theorem dX9_takeBack_73 : decode cX9_takeBack 73 = .ok (.ireturn, 1) := by decide +kernel
theorem dX9_savePreset_0 : decode cX9_savePreset 0 = .ok (.aload_n 0, 1) := by decide +kernel
theorem dX9_savePreset_1 : decode cX9_savePreset 1 = .ok (.iload_n 1, 1) := by decide +kernel
theorem dX9_savePreset_2 : decode cX9_savePreset 2 = .ok (.iconst 0, 1) := by decide +kernel
theorem dX9_savePreset_3 : decode cX9_savePreset 3 = .ok (.iconst 1, 1) := by decide +kernel
theorem dX9_savePreset_4 : decode cX9_savePreset 4 = .ok (.invokestatic 69, 3) := by decide +kernel
theorem dX9_savePreset_7 : decode cX9_savePreset 7 = .ok (.ifCond .eq 7, 3) := by decide +kernel
theorem dX9_savePreset_10 : decode cX9_savePreset 10 = .ok (.iconst 0, 1) := by decide +kernel
theorem dX9_savePreset_11 : decode cX9_savePreset 11 = .ok (.goto 4, 3) := by decide +kernel
theorem dX9_savePreset_14 : decode cX9_savePreset 14 = .ok (.iconst 1, 1) := by decide +kernel
theorem dX9_savePreset_15 : decode cX9_savePreset 15 = .ok (.invokevirtual 109, 3) := by decide +kernel
theorem dX9_savePreset_18 : decode cX9_savePreset 18 = .ok (.ifCond .ne 5, 3) := by decide +kernel
theorem dX9_savePreset_21 : decode cX9_savePreset 21 = .ok (.iconst 0, 1) := by decide +kernel
theorem dX9_savePreset_22 : decode cX9_savePreset 22 = .ok (.ireturn, 1) := by decide +kernel
theorem dX9_savePreset_23 : decode cX9_savePreset 23 = .ok (.iconst 0, 1) := by decide +kernel
theorem dX9_savePreset_24 : decode cX9_savePreset 24 = .ok (.istore_n 2, 1) := by decide +kernel
theorem dX9_savePreset_25 : decode cX9_savePreset 25 = .ok (.iconst 0, 1) := by decide +kernel
theorem dX9_savePreset_26 : decode cX9_savePreset 26 = .ok (.istore_n 3, 1) := by decide +kernel
theorem dX9_savePreset_27 : decode cX9_savePreset 27 = .ok (.iload_n 3, 1) := by decide +kernel
theorem dX9_savePreset_28 : decode cX9_savePreset 28 = .ok (.aload_n 0, 1) := by decide +kernel
theorem dX9_savePreset_29 : decode cX9_savePreset 29 = .ok (.getfield 62, 3) := by decide +kernel
theorem dX9_savePreset_32 : decode cX9_savePreset 32 = .ok (.if_icmp .ge 42, 3) := by decide +kernel
theorem dX9_savePreset_35 : decode cX9_savePreset 35 = .ok (.aload_n 0, 1) := by decide +kernel
theorem dX9_savePreset_36 : decode cX9_savePreset 36 = .ok (.getfield 50, 3) := by decide +kernel
theorem dX9_savePreset_39 : decode cX9_savePreset 39 = .ok (.bipush 24, 2) := by decide +kernel
theorem dX9_savePreset_41 : decode cX9_savePreset 41 = .ok (.iload_n 1, 1) := by decide +kernel
theorem dX9_savePreset_42 : decode cX9_savePreset 42 = .ok (.imul, 1) := by decide +kernel
theorem dX9_savePreset_43 : decode cX9_savePreset 43 = .ok (.iload_n 3, 1) := by decide +kernel
theorem dX9_savePreset_44 : decode cX9_savePreset 44 = .ok (.iadd, 1) := by decide +kernel
theorem dX9_savePreset_45 : decode cX9_savePreset 45 = .ok (.aload_n 0, 1) := by decide +kernel
theorem dX9_savePreset_46 : decode cX9_savePreset 46 = .ok (.getfield 25, 3) := by decide +kernel
theorem dX9_savePreset_49 : decode cX9_savePreset 49 = .ok (.iload_n 3, 1) := by decide +kernel
theorem dX9_savePreset_50 : decode cX9_savePreset 50 = .ok (.iaload, 1) := by decide +kernel
theorem dX9_savePreset_51 : decode cX9_savePreset 51 = .ok (.iastore, 1) := by decide +kernel
theorem dX9_savePreset_52 : decode cX9_savePreset 52 = .ok (.iload_n 2, 1) := by decide +kernel
theorem dX9_savePreset_53 : decode cX9_savePreset 53 = .ok (.aload_n 0, 1) := by decide +kernel
theorem dX9_savePreset_54 : decode cX9_savePreset 54 = .ok (.iload_n 3, 1) := by decide +kernel
theorem dX9_savePreset_55 : decode cX9_savePreset 55 = .ok (.invokevirtual 100, 3) := by decide +kernel
theorem dX9_savePreset_58 : decode cX9_savePreset 58 = .ok (.ifCond .eq 7, 3) := by decide +kernel
theorem dX9_savePreset_61 : decode cX9_savePreset 61 = .ok (.iconst 0, 1) := by decide +kernel
theorem dX9_savePreset_62 : decode cX9_savePreset 62 = .ok (.goto 4, 3) := by decide +kernel
theorem dX9_savePreset_65 : decode cX9_savePreset 65 = .ok (.iconst 1, 1) := by decide +kernel
theorem dX9_savePreset_66 : decode cX9_savePreset 66 = .ok (.iadd, 1) := by decide +kernel
theorem dX9_savePreset_67 : decode cX9_savePreset 67 = .ok (.istore_n 2, 1) := by decide +kernel
theorem dX9_savePreset_68 : decode cX9_savePreset 68 = .ok (.iinc 3 1, 3) := by decide +kernel
theorem dX9_savePreset_71 : decode cX9_savePreset 71 = .ok (.goto (-44), 3) := by decide +kernel
theorem dX9_savePreset_74 : decode cX9_savePreset 74 = .ok (.aload_n 0, 1) := by decide +kernel
theorem dX9_savePreset_75 : decode cX9_savePreset 75 = .ok (.getfield 53, 3) := by decide +kernel
theorem dX9_savePreset_78 : decode cX9_savePreset 78 = .ok (.iload_n 1, 1) := by decide +kernel
theorem dX9_savePreset_79 : decode cX9_savePreset 79 = .ok (.aload_n 0, 1) := by decide +kernel
theorem dX9_savePreset_80 : decode cX9_savePreset 80 = .ok (.getfield 62, 3) := by decide +kernel
theorem dX9_savePreset_83 : decode cX9_savePreset 83 = .ok (.iastore, 1) := by decide +kernel
theorem dX9_savePreset_84 : decode cX9_savePreset 84 = .ok (.iload_n 2, 1) := by decide +kernel
theorem dX9_savePreset_85 : decode cX9_savePreset 85 = .ok (.ireturn, 1) := by decide +kernel
theorem dX9_loadPreset_0 : decode cX9_loadPreset 0 = .ok (.iload_n 1, 1) := by decide +kernel
theorem dX9_loadPreset_1 : decode cX9_loadPreset 1 = .ok (.iconst 0, 1) := by decide +kernel
theorem dX9_loadPreset_2 : decode cX9_loadPreset 2 = .ok (.iconst 1, 1) := by decide +kernel
theorem dX9_loadPreset_3 : decode cX9_loadPreset 3 = .ok (.invokestatic 69, 3) := by decide +kernel
theorem dX9_loadPreset_6 : decode cX9_loadPreset 6 = .ok (.istore_n 2, 1) := by decide +kernel
theorem dX9_loadPreset_7 : decode cX9_loadPreset 7 = .ok (.aload_n 0, 1) := by decide +kernel
theorem dX9_loadPreset_8 : decode cX9_loadPreset 8 = .ok (.iload_n 2, 1) := by decide +kernel
theorem dX9_loadPreset_9 : decode cX9_loadPreset 9 = .ok (.ifCond .ne 7, 3) := by decide +kernel
theorem dX9_loadPreset_12 : decode cX9_loadPreset 12 = .ok (.iconst 1, 1) := by decide +kernel
theorem dX9_loadPreset_13 : decode cX9_loadPreset 13 = .ok (.goto 17, 3) := by decide +kernel
theorem dX9_loadPreset_16 : decode cX9_loadPreset 16 = .ok (.aload_n 0, 1) := by decide +kernel
theorem dX9_loadPreset_17 : decode cX9_loadPreset 17 = .ok (.getfield 53, 3) := by decide +kernel
theorem dX9_loadPreset_20 : decode cX9_loadPreset 20 = .ok (.iload_n 1, 1) := by decide +kernel
theorem dX9_loadPreset_21 : decode cX9_loadPreset 21 = .ok (.iaload, 1) := by decide +kernel
theorem dX9_loadPreset_22 : decode cX9_loadPreset 22 = .ok (.ifCond .ne 7, 3) := by decide +kernel
theorem dX9_loadPreset_25 : decode cX9_loadPreset 25 = .ok (.iconst 2, 1) := by decide +kernel
theorem dX9_loadPreset_26 : decode cX9_loadPreset 26 = .ok (.goto 4, 3) := by decide +kernel
theorem dX9_loadPreset_29 : decode cX9_loadPreset 29 = .ok (.iconst 0, 1) := by decide +kernel
theorem dX9_loadPreset_30 : decode cX9_loadPreset 30 = .ok (.invokevirtual 109, 3) := by decide +kernel
theorem dX9_loadPreset_33 : decode cX9_loadPreset 33 = .ok (.ifCond .ne 5, 3) := by decide +kernel
theorem dX9_loadPreset_36 : decode cX9_loadPreset 36 = .ok (.iconst 0, 1) := by decide +kernel
theorem dX9_loadPreset_37 : decode cX9_loadPreset 37 = .ok (.ireturn, 1) := by decide +kernel
theorem dX9_loadPreset_38 : decode cX9_loadPreset 38 = .ok (.iconst 0, 1) := by decide +kernel
theorem dX9_loadPreset_39 : decode cX9_loadPreset 39 = .ok (.istore_n 3, 1) := by decide +kernel
theorem dX9_loadPreset_40 : decode cX9_loadPreset 40 = .ok (.iconst 0, 1) := by decide +kernel
theorem dX9_loadPreset_41 : decode cX9_loadPreset 41 = .ok (.istore 4, 2) := by decide +kernel
theorem dX9_loadPreset_43 : decode cX9_loadPreset 43 = .ok (.iload 4, 2) := by decide +kernel
theorem dX9_loadPreset_45 : decode cX9_loadPreset 45 = .ok (.aload_n 0, 1) := by decide +kernel
theorem dX9_loadPreset_46 : decode cX9_loadPreset 46 = .ok (.getfield 53, 3) := by decide +kernel
theorem dX9_loadPreset_49 : decode cX9_loadPreset 49 = .ok (.iload_n 1, 1) := by decide +kernel
theorem dX9_loadPreset_50 : decode cX9_loadPreset 50 = .ok (.iaload, 1) := by decide +kernel
theorem dX9_loadPreset_51 : decode cX9_loadPreset 51 = .ok (.if_icmp .ge 58, 3) := by decide +kernel
theorem dX9_loadPreset_54 : decode cX9_loadPreset 54 = .ok (.iload_n 3, 1) := by decide +kernel
theorem dX9_loadPreset_55 : decode cX9_loadPreset 55 = .ok (.aload_n 0, 1) := by decide +kernel
theorem dX9_loadPreset_56 : decode cX9_loadPreset 56 = .ok (.getfield 25, 3) := by decide +kernel
theorem dX9_loadPreset_59 : decode cX9_loadPreset 59 = .ok (.iload 4, 2) := by decide +kernel
theorem dX9_loadPreset_61 : decode cX9_loadPreset 61 = .ok (.iaload, 1) := by decide +kernel
theorem dX9_loadPreset_62 : decode cX9_loadPreset 62 = .ok (.aload_n 0, 1) := by decide +kernel
theorem dX9_loadPreset_63 : decode cX9_loadPreset 63 = .ok (.getfield 50, 3) := by decide +kernel
theorem dX9_loadPreset_66 : decode cX9_loadPreset 66 = .ok (.bipush 24, 2) := by decide +kernel
theorem dX9_loadPreset_68 : decode cX9_loadPreset 68 = .ok (.iload_n 1, 1) := by decide +kernel
theorem dX9_loadPreset_69 : decode cX9_loadPreset 69 = .ok (.imul, 1) := by decide +kernel
theorem dX9_loadPreset_70 : decode cX9_loadPreset 70 = .ok (.iload 4, 2) := by decide +kernel
theorem dX9_loadPreset_72 : decode cX9_loadPreset 72 = .ok (.iadd, 1) := by decide +kernel
theorem dX9_loadPreset_73 : decode cX9_loadPreset 73 = .ok (.iaload, 1) := by decide +kernel
theorem dX9_loadPreset_74 : decode cX9_loadPreset 74 = .ok (.if_icmp .eq 7, 3) := by decide +kernel
theorem dX9_loadPreset_77 : decode cX9_loadPreset 77 = .ok (.iconst 1, 1) := by decide +kernel
theorem dX9_loadPreset_78 : decode cX9_loadPreset 78 = .ok (.goto 4, 3) := by decide +kernel
theorem dX9_loadPreset_81 : decode cX9_loadPreset 81 = .ok (.iconst 0, 1) := by decide +kernel
theorem dX9_loadPreset_82 : decode cX9_loadPreset 82 = .ok (.iadd, 1) := by decide +kernel
theorem dX9_loadPreset_83 : decode cX9_loadPreset 83 = .ok (.istore_n 3, 1) := by decide +kernel
theorem dX9_loadPreset_84 : decode cX9_loadPreset 84 = .ok (.aload_n 0, 1) := by decide +kernel
theorem dX9_loadPreset_85 : decode cX9_loadPreset 85 = .ok (.getfield 25, 3) := by decide +kernel
theorem dX9_loadPreset_88 : decode cX9_loadPreset 88 = .ok (.iload 4, 2) := by decide +kernel
theorem dX9_loadPreset_90 : decode cX9_loadPreset 90 = .ok (.aload_n 0, 1) := by decide +kernel
theorem dX9_loadPreset_91 : decode cX9_loadPreset 91 = .ok (.getfield 50, 3) := by decide +kernel
theorem dX9_loadPreset_94 : decode cX9_loadPreset 94 = .ok (.bipush 24, 2) := by decide +kernel
theorem dX9_loadPreset_96 : decode cX9_loadPreset 96 = .ok (.iload_n 1, 1) := by decide +kernel
theorem dX9_loadPreset_97 : decode cX9_loadPreset 97 = .ok (.imul, 1) := by decide +kernel
theorem dX9_loadPreset_98 : decode cX9_loadPreset 98 = .ok (.iload 4, 2) := by decide +kernel
theorem dX9_loadPreset_100 : decode cX9_loadPreset 100 = .ok (.iadd, 1) := by decide +kernel
theorem dX9_loadPreset_101 : decode cX9_loadPreset 101 = .ok (.iaload, 1) := by decide +kernel
theorem dX9_loadPreset_102 : decode cX9_loadPreset 102 = .ok (.iastore, 1) := by decide +kernel
theorem dX9_loadPreset_103 : decode cX9_loadPreset 103 = .ok (.iinc 4 1, 3) := by decide +kernel
theorem dX9_loadPreset_106 : decode cX9_loadPreset 106 = .ok (.goto (-63), 3) := by decide +kernel
theorem dX9_loadPreset_109 : decode cX9_loadPreset 109 = .ok (.aload_n 0, 1) := by decide +kernel
theorem dX9_loadPreset_110 : decode cX9_loadPreset 110 = .ok (.iconst 0, 1) := by decide +kernel
theorem dX9_loadPreset_111 : decode cX9_loadPreset 111 = .ok (.putfield 147, 3) := by decide +kernel
theorem dX9_loadPreset_114 : decode cX9_loadPreset 114 = .ok (.iload_n 3, 1) := by decide +kernel
theorem dX9_loadPreset_115 : decode cX9_loadPreset 115 = .ok (.ireturn, 1) := by decide +kernel
theorem dX9_mode_0 : decode cX9_mode 0 = .ok (.aload_n 0, 1) := by decide +kernel
theorem dX9_mode_1 : decode cX9_mode 1 = .ok (.iconst 0, 1) := by decide +kernel
theorem dX9_mode_2 : decode cX9_mode 2 = .ok (.putfield 66, 3) := by decide +kernel
theorem dX9_mode_5 : decode cX9_mode 5 = .ok (.aload_n 0, 1) := by decide +kernel
theorem dX9_mode_6 : decode cX9_mode 6 = .ok (.getfield 83, 3) := by decide +kernel
theorem dX9_mode_9 : decode cX9_mode 9 = .ok (.ireturn, 1) := by decide +kernel
theorem dX9_shown_0 : decode cX9_shown 0 = .ok (.aload_n 0, 1) := by decide +kernel
theorem dX9_shown_1 : decode cX9_shown 1 = .ok (.iconst 0, 1) := by decide +kernel
theorem dX9_shown_2 : decode cX9_shown 2 = .ok (.putfield 66, 3) := by decide +kernel
theorem dX9_shown_5 : decode cX9_shown 5 = .ok (.aload_n 0, 1) := by decide +kernel
theorem dX9_shown_6 : decode cX9_shown 6 = .ok (.getfield 77, 3) := by decide +kernel
theorem dX9_shown_9 : decode cX9_shown 9 = .ok (.ireturn, 1) := by decide +kernel
theorem dX9_cursor_0 : decode cX9_cursor 0 = .ok (.aload_n 0, 1) := by decide +kernel
theorem dX9_cursor_1 : decode cX9_cursor 1 = .ok (.iconst 0, 1) := by decide +kernel
theorem dX9_cursor_2 : decode cX9_cursor 2 = .ok (.putfield 66, 3) := by decide +kernel
theorem dX9_cursor_5 : decode cX9_cursor 5 = .ok (.aload_n 0, 1) := by decide +kernel
theorem dX9_cursor_6 : decode cX9_cursor 6 = .ok (.getfield 86, 3) := by decide +kernel
theorem dX9_cursor_9 : decode cX9_cursor 9 = .ok (.ireturn, 1) := by decide +kernel
theorem dX9_chosen_0 : decode cX9_chosen 0 = .ok (.aload_n 0, 1) := by decide +kernel
theorem dX9_chosen_1 : decode cX9_chosen 1 = .ok (.iconst 0, 1) := by decide +kernel
theorem dX9_chosen_2 : decode cX9_chosen 2 = .ok (.putfield 66, 3) := by decide +kernel
theorem dX9_chosen_5 : decode cX9_chosen 5 = .ok (.aload_n 0, 1) := by decide +kernel
theorem dX9_chosen_6 : decode cX9_chosen 6 = .ok (.aload_n 0, 1) := by decide +kernel
theorem dX9_chosen_7 : decode cX9_chosen 7 = .ok (.getfield 86, 3) := by decide +kernel
theorem dX9_chosen_10 : decode cX9_chosen 10 = .ok (.invokevirtual 125, 3) := by decide +kernel
theorem dX9_chosen_13 : decode cX9_chosen 13 = .ok (.ireturn, 1) := by decide +kernel
theorem dX9_draftNow_0 : decode cX9_draftNow 0 = .ok (.aload_n 0, 1) := by decide +kernel
theorem dX9_draftNow_1 : decode cX9_draftNow 1 = .ok (.getfield 83, 3) := by decide +kernel
theorem dX9_draftNow_4 : decode cX9_draftNow 4 = .ok (.iconst 1, 1) := by decide +kernel
theorem dX9_draftNow_5 : decode cX9_draftNow 5 = .ok (.if_icmp .ne 10, 3) := by decide +kernel
theorem dX9_draftNow_8 : decode cX9_draftNow 8 = .ok (.aload_n 0, 1) := by decide +kernel
theorem dX9_draftNow_9 : decode cX9_draftNow 9 = .ok (.getfield 128, 3) := by decide +kernel
theorem dX9_draftNow_12 : decode cX9_draftNow 12 = .ok (.goto 4, 3) := by decide +kernel
theorem dX9_draftNow_15 : decode cX9_draftNow 15 = .ok (.iconst 0, 1) := by decide +kernel
theorem dX9_draftNow_16 : decode cX9_draftNow 16 = .ok (.ireturn, 1) := by decide +kernel
theorem dX9_draft_0 : decode cX9_draft 0 = .ok (.aload_n 0, 1) := by decide +kernel
theorem dX9_draft_1 : decode cX9_draft 1 = .ok (.iconst 0, 1) := by decide +kernel
theorem dX9_draft_2 : decode cX9_draft 2 = .ok (.putfield 66, 3) := by decide +kernel
theorem dX9_draft_5 : decode cX9_draft 5 = .ok (.aload_n 0, 1) := by decide +kernel
theorem dX9_draft_6 : decode cX9_draft 6 = .ok (.invokevirtual 179, 3) := by decide +kernel
theorem dX9_draft_9 : decode cX9_draft 9 = .ok (.ireturn, 1) := by decide +kernel
theorem dX9_idle_0 : decode cX9_idle 0 = .ok (.aload_n 0, 1) := by decide +kernel
theorem dX9_idle_1 : decode cX9_idle 1 = .ok (.iconst 0, 1) := by decide +kernel
theorem dX9_idle_2 : decode cX9_idle 2 = .ok (.putfield 66, 3) := by decide +kernel
theorem dX9_idle_5 : decode cX9_idle 5 = .ok (.aload_n 0, 1) := by decide +kernel
theorem dX9_idle_6 : decode cX9_idle 6 = .ok (.getfield 141, 3) := by decide +kernel
theorem dX9_idle_9 : decode cX9_idle 9 = .ok (.ireturn, 1) := by decide +kernel
theorem dX9_barred_0 : decode cX9_barred 0 = .ok (.aload_n 0, 1) := by decide +kernel
theorem dX9_barred_1 : decode cX9_barred 1 = .ok (.iconst 0, 1) := by decide +kernel
theorem dX9_barred_2 : decode cX9_barred 2 = .ok (.putfield 66, 3) := by decide +kernel
theorem dX9_barred_5 : decode cX9_barred 5 = .ok (.aload_n 0, 1) := by decide +kernel
theorem dX9_barred_6 : decode cX9_barred 6 = .ok (.getfield 150, 3) := by decide +kernel
theorem dX9_barred_9 : decode cX9_barred 9 = .ok (.ireturn, 1) := by decide +kernel
theorem dX9_logged_0 : decode cX9_logged 0 = .ok (.aload_n 0, 1) := by decide +kernel
theorem dX9_logged_1 : decode cX9_logged 1 = .ok (.iconst 0, 1) := by decide +kernel
theorem dX9_logged_2 : decode cX9_logged 2 = .ok (.putfield 66, 3) := by decide +kernel
theorem dX9_logged_5 : decode cX9_logged 5 = .ok (.aload_n 0, 1) := by decide +kernel
theorem dX9_logged_6 : decode cX9_logged 6 = .ok (.getfield 147, 3) := by decide +kernel
theorem dX9_logged_9 : decode cX9_logged 9 = .ok (.ireturn, 1) := by decide +kernel
theorem dX9_isHome_0 : decode cX9_isHome 0 = .ok (.aload_n 0, 1) := by decide +kernel
theorem dX9_isHome_1 : decode cX9_isHome 1 = .ok (.iconst 0, 1) := by decide +kernel
theorem dX9_isHome_2 : decode cX9_isHome 2 = .ok (.putfield 66, 3) := by decide +kernel
theorem dX9_isHome_5 : decode cX9_isHome 5 = .ok (.aload_n 0, 1) := by decide +kernel
theorem dX9_isHome_6 : decode cX9_isHome 6 = .ok (.invokevirtual 93, 3) := by decide +kernel
theorem dX9_isHome_9 : decode cX9_isHome 9 = .ok (.ireturn, 1) := by decide +kernel
theorem dX9_writes_0 : decode cX9_writes 0 = .ok (.aload_n 0, 1) := by decide +kernel
theorem dX9_writes_1 : decode cX9_writes 1 = .ok (.getfield 59, 3) := by decide +kernel
theorem dX9_writes_4 : decode cX9_writes 4 = .ok (.iload_n 2, 1) := by decide +kernel
theorem dX9_writes_5 : decode cX9_writes 5 = .ok (.bipush 48, 2) := by decide +kernel
theorem dX9_writes_7 : decode cX9_writes 7 = .ok (.iload_n 1, 1) := by decide +kernel
theorem dX9_writes_8 : decode cX9_writes 8 = .ok (.bipush 9, 2) := by decide +kernel
theorem dX9_writes_10 : decode cX9_writes 10 = .ok (.if_icmp .le 10, 3) := by decide +kernel
theorem dX9_writes_13 : decode cX9_writes 13 = .ok (.iload_n 1, 1) := by decide +kernel
theorem dX9_writes_14 : decode cX9_writes 14 = .ok (.bipush 10, 2) := by decide +kernel
theorem dX9_writes_16 : decode cX9_writes 16 = .ok (.idiv, 1) := by decide +kernel
theorem dX9_writes_17 : decode cX9_writes 17 = .ok (.goto 4, 3) := by decide +kernel
theorem dX9_writes_20 : decode cX9_writes 20 = .ok (.iload_n 1, 1) := by decide +kernel
theorem dX9_writes_21 : decode cX9_writes 21 = .ok (.iadd, 1) := by decide +kernel
theorem dX9_writes_22 : decode cX9_writes 22 = .ok (.iastore, 1) := by decide +kernel
theorem dX9_writes_23 : decode cX9_writes 23 = .ok (.aload_n 0, 1) := by decide +kernel
theorem dX9_writes_24 : decode cX9_writes 24 = .ok (.getfield 59, 3) := by decide +kernel
theorem dX9_writes_27 : decode cX9_writes 27 = .ok (.iload_n 2, 1) := by decide +kernel
theorem dX9_writes_28 : decode cX9_writes 28 = .ok (.iconst 1, 1) := by decide +kernel
theorem dX9_writes_29 : decode cX9_writes 29 = .ok (.iadd, 1) := by decide +kernel
theorem dX9_writes_30 : decode cX9_writes 30 = .ok (.iload_n 1, 1) := by decide +kernel
theorem dX9_writes_31 : decode cX9_writes 31 = .ok (.bipush 9, 2) := by decide +kernel
theorem dX9_writes_33 : decode cX9_writes 33 = .ok (.if_icmp .le 13, 3) := by decide +kernel
theorem dX9_writes_36 : decode cX9_writes 36 = .ok (.bipush 48, 2) := by decide +kernel
theorem dX9_writes_38 : decode cX9_writes 38 = .ok (.iload_n 1, 1) := by decide +kernel
theorem dX9_writes_39 : decode cX9_writes 39 = .ok (.bipush 10, 2) := by decide +kernel
theorem dX9_writes_41 : decode cX9_writes 41 = .ok (.irem, 1) := by decide +kernel
theorem dX9_writes_42 : decode cX9_writes 42 = .ok (.iadd, 1) := by decide +kernel
theorem dX9_writes_43 : decode cX9_writes 43 = .ok (.goto 5, 3) := by decide +kernel
theorem dX9_writes_46 : decode cX9_writes 46 = .ok (.bipush 32, 2) := by decide +kernel
theorem dX9_writes_48 : decode cX9_writes 48 = .ok (.iastore, 1) := by decide +kernel
theorem dX9_writes_49 : decode cX9_writes 49 = .ok (.return_, 1) := by decide +kernel
theorem dX9_ends_0 : decode cX9_ends 0 = .ok (.iload_n 1, 1) := by decide +kernel
theorem dX9_ends_1 : decode cX9_ends 1 = .ok (.ifCond .ge 8, 3) := by decide +kernel
theorem dX9_ends_4 : decode cX9_ends 4 = .ok (.iload_n 1, 1) := by decide +kernel
theorem dX9_ends_5 : decode cX9_ends 5 = .ok (.ineg, 1) := by decide +kernel
theorem dX9_ends_6 : decode cX9_ends 6 = .ok (.goto 4, 3) := by decide +kernel
theorem dX9_ends_9 : decode cX9_ends 9 = .ok (.iload_n 1, 1) := by decide +kernel
theorem dX9_ends_10 : decode cX9_ends 10 = .ok (.istore_n 2, 1) := by decide +kernel
theorem dX9_ends_11 : decode cX9_ends 11 = .ok (.bipush 15, 2) := by decide +kernel
theorem dX9_ends_13 : decode cX9_ends 13 = .ok (.istore_n 3, 1) := by decide +kernel
theorem dX9_ends_14 : decode cX9_ends 14 = .ok (.aload_n 0, 1) := by decide +kernel
theorem dX9_ends_15 : decode cX9_ends 15 = .ok (.getfield 59, 3) := by decide +kernel
theorem dX9_ends_18 : decode cX9_ends 18 = .ok (.iload_n 3, 1) := by decide +kernel
theorem dX9_ends_19 : decode cX9_ends 19 = .ok (.bipush 48, 2) := by decide +kernel
theorem dX9_ends_21 : decode cX9_ends 21 = .ok (.iload_n 2, 1) := by decide +kernel
theorem dX9_ends_22 : decode cX9_ends 22 = .ok (.bipush 10, 2) := by decide +kernel
theorem dX9_ends_24 : decode cX9_ends 24 = .ok (.irem, 1) := by decide +kernel
theorem dX9_ends_25 : decode cX9_ends 25 = .ok (.iadd, 1) := by decide +kernel
theorem dX9_ends_26 : decode cX9_ends 26 = .ok (.iastore, 1) := by decide +kernel
theorem dX9_ends_27 : decode cX9_ends 27 = .ok (.iload_n 2, 1) := by decide +kernel
theorem dX9_ends_28 : decode cX9_ends 28 = .ok (.bipush 9, 2) := by decide +kernel
theorem dX9_ends_30 : decode cX9_ends 30 = .ok (.if_icmp .le 27, 3) := by decide +kernel
theorem dX9_ends_33 : decode cX9_ends 33 = .ok (.iload_n 2, 1) := by decide +kernel
theorem dX9_ends_34 : decode cX9_ends 34 = .ok (.bipush 10, 2) := by decide +kernel
theorem dX9_ends_36 : decode cX9_ends 36 = .ok (.idiv, 1) := by decide +kernel
theorem dX9_ends_37 : decode cX9_ends 37 = .ok (.istore_n 2, 1) := by decide +kernel
theorem dX9_ends_38 : decode cX9_ends 38 = .ok (.iinc 3 (-1), 3) := by decide +kernel
theorem dX9_ends_41 : decode cX9_ends 41 = .ok (.aload_n 0, 1) := by decide +kernel
theorem dX9_ends_42 : decode cX9_ends 42 = .ok (.getfield 59, 3) := by decide +kernel
theorem dX9_ends_45 : decode cX9_ends 45 = .ok (.iload_n 3, 1) := by decide +kernel
theorem dX9_ends_46 : decode cX9_ends 46 = .ok (.bipush 48, 2) := by decide +kernel
theorem dX9_ends_48 : decode cX9_ends 48 = .ok (.iload_n 2, 1) := by decide +kernel
theorem dX9_ends_49 : decode cX9_ends 49 = .ok (.bipush 10, 2) := by decide +kernel
theorem dX9_ends_51 : decode cX9_ends 51 = .ok (.irem, 1) := by decide +kernel
theorem dX9_ends_52 : decode cX9_ends 52 = .ok (.iadd, 1) := by decide +kernel
theorem dX9_ends_53 : decode cX9_ends 53 = .ok (.iastore, 1) := by decide +kernel
theorem dX9_ends_54 : decode cX9_ends 54 = .ok (.goto (-27), 3) := by decide +kernel
theorem dX9_ends_57 : decode cX9_ends 57 = .ok (.aload_n 0, 1) := by decide +kernel
theorem dX9_ends_58 : decode cX9_ends 58 = .ok (.getfield 59, 3) := by decide +kernel
theorem dX9_ends_61 : decode cX9_ends 61 = .ok (.iload_n 3, 1) := by decide +kernel
theorem dX9_ends_62 : decode cX9_ends 62 = .ok (.iconst 1, 1) := by decide +kernel
theorem dX9_ends_63 : decode cX9_ends 63 = .ok (.isub, 1) := by decide +kernel
theorem dX9_ends_64 : decode cX9_ends 64 = .ok (.iload_n 1, 1) := by decide +kernel
theorem dX9_ends_65 : decode cX9_ends 65 = .ok (.ifCond .ge 8, 3) := by decide +kernel
theorem dX9_ends_68 : decode cX9_ends 68 = .ok (.bipush 45, 2) := by decide +kernel
theorem dX9_ends_70 : decode cX9_ends 70 = .ok (.goto 5, 3) := by decide +kernel
theorem dX9_ends_73 : decode cX9_ends 73 = .ok (.bipush 32, 2) := by decide +kernel
theorem dX9_ends_75 : decode cX9_ends 75 = .ok (.iastore, 1) := by decide +kernel
theorem dX9_ends_76 : decode cX9_ends 76 = .ok (.return_, 1) := by decide +kernel
theorem dX9_signOf_0 : decode cX9_signOf 0 = .ok (.iload_n 1, 1) := by decide +kernel
theorem dX9_signOf_1 : decode cX9_signOf 1 = .ok (.tableswitch 136 0 4 #[35, 57, 79, 101, 123], 35) := by decide +kernel
theorem dX9_signOf_36 : decode cX9_signOf 36 = .ok (.iload_n 0, 1) := by decide +kernel
theorem dX9_signOf_37 : decode cX9_signOf 37 = .ok (.ifCond .ne 8, 3) := by decide +kernel
theorem dX9_signOf_40 : decode cX9_signOf 40 = .ok (.bipush 77, 2) := by decide +kernel
theorem dX9_signOf_42 : decode cX9_signOf 42 = .ok (.goto 15, 3) := by decide +kernel
theorem dX9_signOf_45 : decode cX9_signOf 45 = .ok (.iload_n 0, 1) := by decide +kernel
theorem dX9_signOf_46 : decode cX9_signOf 46 = .ok (.iconst 1, 1) := by decide +kernel
theorem dX9_signOf_47 : decode cX9_signOf 47 = .ok (.if_icmp .ne 8, 3) := by decide +kernel
theorem dX9_signOf_50 : decode cX9_signOf 50 = .ok (.bipush 78, 2) := by decide +kernel
theorem dX9_signOf_52 : decode cX9_signOf 52 = .ok (.goto 5, 3) := by decide +kernel
theorem dX9_signOf_55 : decode cX9_signOf 55 = .ok (.bipush 67, 2) := by decide +kernel
theorem dX9_signOf_57 : decode cX9_signOf 57 = .ok (.ireturn, 1) := by decide +kernel
theorem dX9_signOf_58 : decode cX9_signOf 58 = .ok (.iload_n 0, 1) := by decide +kernel
theorem dX9_signOf_59 : decode cX9_signOf 59 = .ok (.ifCond .ne 8, 3) := by decide +kernel
theorem dX9_signOf_62 : decode cX9_signOf 62 = .ok (.bipush 69, 2) := by decide +kernel
theorem dX9_signOf_64 : decode cX9_signOf 64 = .ok (.goto 15, 3) := by decide +kernel
theorem dX9_signOf_67 : decode cX9_signOf 67 = .ok (.iload_n 0, 1) := by decide +kernel
theorem dX9_signOf_68 : decode cX9_signOf 68 = .ok (.iconst 1, 1) := by decide +kernel
theorem dX9_signOf_69 : decode cX9_signOf 69 = .ok (.if_icmp .ne 8, 3) := by decide +kernel
theorem dX9_signOf_72 : decode cX9_signOf 72 = .ok (.bipush 85, 2) := by decide +kernel
theorem dX9_signOf_74 : decode cX9_signOf 74 = .ok (.goto 5, 3) := by decide +kernel
theorem dX9_signOf_77 : decode cX9_signOf 77 = .ok (.bipush 72, 2) := by decide +kernel
theorem dX9_signOf_79 : decode cX9_signOf 79 = .ok (.ireturn, 1) := by decide +kernel
theorem dX9_signOf_80 : decode cX9_signOf 80 = .ok (.iload_n 0, 1) := by decide +kernel
theorem dX9_signOf_81 : decode cX9_signOf 81 = .ok (.ifCond .ne 8, 3) := by decide +kernel
theorem dX9_signOf_84 : decode cX9_signOf 84 = .ok (.bipush 78, 2) := by decide +kernel
theorem dX9_signOf_86 : decode cX9_signOf 86 = .ok (.goto 15, 3) := by decide +kernel
theorem dX9_signOf_89 : decode cX9_signOf 89 = .ok (.iload_n 0, 1) := by decide +kernel
theorem dX9_signOf_90 : decode cX9_signOf 90 = .ok (.iconst 1, 1) := by decide +kernel
theorem dX9_signOf_91 : decode cX9_signOf 91 = .ok (.if_icmp .ne 8, 3) := by decide +kernel
theorem dX9_signOf_94 : decode cX9_signOf 94 = .ok (.bipush 77, 2) := by decide +kernel
theorem dX9_signOf_96 : decode cX9_signOf 96 = .ok (.goto 5, 3) := by decide +kernel
theorem dX9_signOf_99 : decode cX9_signOf 99 = .ok (.bipush 79, 2) := by decide +kernel
theorem dX9_signOf_101 : decode cX9_signOf 101 = .ok (.ireturn, 1) := by decide +kernel
theorem dX9_signOf_102 : decode cX9_signOf 102 = .ok (.iload_n 0, 1) := by decide +kernel
theorem dX9_signOf_103 : decode cX9_signOf 103 = .ok (.ifCond .ne 8, 3) := by decide +kernel
theorem dX9_signOf_106 : decode cX9_signOf 106 = .ok (.bipush 85, 2) := by decide +kernel
theorem dX9_signOf_108 : decode cX9_signOf 108 = .ok (.goto 15, 3) := by decide +kernel
theorem dX9_signOf_111 : decode cX9_signOf 111 = .ok (.iload_n 0, 1) := by decide +kernel
theorem dX9_signOf_112 : decode cX9_signOf 112 = .ok (.iconst 1, 1) := by decide +kernel
theorem dX9_signOf_113 : decode cX9_signOf 113 = .ok (.if_icmp .ne 8, 3) := by decide +kernel
theorem dX9_signOf_116 : decode cX9_signOf 116 = .ok (.bipush 66, 2) := by decide +kernel
theorem dX9_signOf_118 : decode cX9_signOf 118 = .ok (.goto 5, 3) := by decide +kernel
theorem dX9_signOf_121 : decode cX9_signOf 121 = .ok (.bipush 73, 2) := by decide +kernel
theorem dX9_signOf_123 : decode cX9_signOf 123 = .ok (.ireturn, 1) := by decide +kernel
theorem dX9_signOf_124 : decode cX9_signOf 124 = .ok (.iload_n 0, 1) := by decide +kernel
theorem dX9_signOf_125 : decode cX9_signOf 125 = .ok (.iconst 1, 1) := by decide +kernel
theorem dX9_signOf_126 : decode cX9_signOf 126 = .ok (.if_icmp .ne 8, 3) := by decide +kernel
theorem dX9_signOf_129 : decode cX9_signOf 129 = .ok (.bipush 69, 2) := by decide +kernel
theorem dX9_signOf_131 : decode cX9_signOf 131 = .ok (.goto 5, 3) := by decide +kernel
theorem dX9_signOf_134 : decode cX9_signOf 134 = .ok (.bipush 67, 2) := by decide +kernel
theorem dX9_signOf_136 : decode cX9_signOf 136 = .ok (.ireturn, 1) := by decide +kernel
theorem dX9_signOf_137 : decode cX9_signOf 137 = .ok (.iload_n 0, 1) := by decide +kernel
theorem dX9_signOf_138 : decode cX9_signOf 138 = .ok (.iconst 1, 1) := by decide +kernel
theorem dX9_signOf_139 : decode cX9_signOf 139 = .ok (.if_icmp .ne 8, 3) := by decide +kernel
theorem dX9_signOf_142 : decode cX9_signOf 142 = .ok (.bipush 82, 2) := by decide +kernel
theorem dX9_signOf_144 : decode cX9_signOf 144 = .ok (.goto 5, 3) := by decide +kernel
theorem dX9_signOf_147 : decode cX9_signOf 147 = .ok (.bipush 69, 2) := by decide +kernel
theorem dX9_signOf_149 : decode cX9_signOf 149 = .ok (.ireturn, 1) := by decide +kernel
theorem dX9_names_0 : decode cX9_names 0 = .ok (.aload_n 0, 1) := by decide +kernel
theorem dX9_names_1 : decode cX9_names 1 = .ok (.iload_n 1, 1) := by decide +kernel
theorem dX9_names_2 : decode cX9_names 2 = .ok (.invokevirtual 100, 3) := by decide +kernel
theorem dX9_names_5 : decode cX9_names 5 = .ok (.ifCond .eq 7, 3) := by decide +kernel
theorem dX9_names_8 : decode cX9_names 8 = .ok (.iconst 4, 1) := by decide +kernel
theorem dX9_names_9 : decode cX9_names 9 = .ok (.goto 5, 3) := by decide +kernel
theorem dX9_names_12 : decode cX9_names 12 = .ok (.bipush 6, 2) := by decide +kernel
theorem dX9_names_14 : decode cX9_names 14 = .ok (.istore_n 2, 1) := by decide +kernel
theorem dX9_names_15 : decode cX9_names 15 = .ok (.iconst 0, 1) := by decide +kernel
theorem dX9_names_16 : decode cX9_names 16 = .ok (.istore_n 3, 1) := by decide +kernel
theorem dX9_names_17 : decode cX9_names 17 = .ok (.iload_n 3, 1) := by decide +kernel
theorem dX9_names_18 : decode cX9_names 18 = .ok (.iload_n 2, 1) := by decide +kernel
theorem dX9_names_19 : decode cX9_names 19 = .ok (.if_icmp .ge 25, 3) := by decide +kernel
theorem dX9_names_22 : decode cX9_names 22 = .ok (.aload_n 0, 1) := by decide +kernel
theorem dX9_names_23 : decode cX9_names 23 = .ok (.getfield 59, 3) := by decide +kernel
theorem dX9_names_26 : decode cX9_names 26 = .ok (.iload_n 3, 1) := by decide +kernel
theorem dX9_names_27 : decode cX9_names 27 = .ok (.aload_n 0, 1) := by decide +kernel
theorem dX9_names_28 : decode cX9_names 28 = .ok (.getfield 7, 3) := by decide +kernel
theorem dX9_names_31 : decode cX9_names 31 = .ok (.iload_n 1, 1) := by decide +kernel
theorem dX9_names_32 : decode cX9_names 32 = .ok (.iaload, 1) := by decide +kernel
theorem dX9_names_33 : decode cX9_names 33 = .ok (.iload_n 3, 1) := by decide +kernel
theorem dX9_names_34 : decode cX9_names 34 = .ok (.invokestatic 182, 3) := by decide +kernel
theorem dX9_names_37 : decode cX9_names 37 = .ok (.iastore, 1) := by decide +kernel
theorem dX9_names_38 : decode cX9_names 38 = .ok (.iinc 3 1, 3) := by decide +kernel
theorem dX9_names_41 : decode cX9_names 41 = .ok (.goto (-24), 3) := by decide +kernel
theorem dX9_names_44 : decode cX9_names 44 = .ok (.aload_n 0, 1) := by decide +kernel
theorem dX9_names_45 : decode cX9_names 45 = .ok (.iload_n 1, 1) := by decide +kernel
theorem dX9_names_46 : decode cX9_names 46 = .ok (.iload_n 2, 1) := by decide +kernel
theorem dX9_names_47 : decode cX9_names 47 = .ok (.iconst 1, 1) := by decide +kernel
theorem dX9_names_48 : decode cX9_names 48 = .ok (.iadd, 1) := by decide +kernel
theorem dX9_names_49 : decode cX9_names 49 = .ok (.invokevirtual 185, 3) := by decide +kernel
theorem dX9_names_52 : decode cX9_names 52 = .ok (.return_, 1) := by decide +kernel
theorem dX9_begins_0 : decode cX9_begins 0 = .ok (.aload_n 0, 1) := by decide +kernel
theorem dX9_begins_1 : decode cX9_begins 1 = .ok (.getfield 59, 3) := by decide +kernel
theorem dX9_begins_4 : decode cX9_begins 4 = .ok (.iconst 0, 1) := by decide +kernel
theorem dX9_begins_5 : decode cX9_begins 5 = .ok (.iload_n 1, 1) := by decide +kernel
theorem dX9_begins_6 : decode cX9_begins 6 = .ok (.iastore, 1) := by decide +kernel
theorem dX9_begins_7 : decode cX9_begins 7 = .ok (.aload_n 0, 1) := by decide +kernel
theorem dX9_begins_8 : decode cX9_begins 8 = .ok (.getfield 59, 3) := by decide +kernel
theorem dX9_begins_11 : decode cX9_begins 11 = .ok (.iconst 1, 1) := by decide +kernel
theorem dX9_begins_12 : decode cX9_begins 12 = .ok (.iload_n 2, 1) := by decide +kernel
theorem dX9_begins_13 : decode cX9_begins 13 = .ok (.iastore, 1) := by decide +kernel
theorem dX9_begins_14 : decode cX9_begins 14 = .ok (.aload_n 0, 1) := by decide +kernel
theorem dX9_begins_15 : decode cX9_begins 15 = .ok (.getfield 59, 3) := by decide +kernel
theorem dX9_begins_18 : decode cX9_begins 18 = .ok (.iconst 2, 1) := by decide +kernel
theorem dX9_begins_19 : decode cX9_begins 19 = .ok (.iload_n 3, 1) := by decide +kernel
theorem dX9_begins_20 : decode cX9_begins 20 = .ok (.iastore, 1) := by decide +kernel
theorem dX9_begins_21 : decode cX9_begins 21 = .ok (.aload_n 0, 1) := by decide +kernel
theorem dX9_begins_22 : decode cX9_begins 22 = .ok (.getfield 59, 3) := by decide +kernel
theorem dX9_begins_25 : decode cX9_begins 25 = .ok (.iconst 3, 1) := by decide +kernel
theorem dX9_begins_26 : decode cX9_begins 26 = .ok (.iload 4, 2) := by decide +kernel
theorem dX9_begins_28 : decode cX9_begins 28 = .ok (.iastore, 1) := by decide +kernel
theorem dX9_begins_29 : decode cX9_begins 29 = .ok (.return_, 1) := by decide +kernel
theorem dX9_firstLine_0 : decode cX9_firstLine 0 = .ok (.aload_n 0, 1) := by decide +kernel
theorem dX9_firstLine_1 : decode cX9_firstLine 1 = .ok (.getfield 83, 3) := by decide +kernel
theorem dX9_firstLine_4 : decode cX9_firstLine 4 = .ok (.ifCond .ne 12, 3) := by decide +kernel
theorem dX9_firstLine_7 : decode cX9_firstLine 7 = .ok (.aload_n 0, 1) := by decide +kernel
theorem dX9_firstLine_8 : decode cX9_firstLine 8 = .ok (.aload_n 0, 1) := by decide +kernel
theorem dX9_firstLine_9 : decode cX9_firstLine 9 = .ok (.getfield 77, 3) := by decide +kernel
theorem dX9_firstLine_12 : decode cX9_firstLine 12 = .ok (.invokevirtual 188, 3) := by decide +kernel
theorem dX9_firstLine_15 : decode cX9_firstLine 15 = .ok (.return_, 1) := by decide +kernel
theorem dX9_firstLine_16 : decode cX9_firstLine 16 = .ok (.aload_n 0, 1) := by decide +kernel
theorem dX9_firstLine_17 : decode cX9_firstLine 17 = .ok (.getfield 83, 3) := by decide +kernel
theorem dX9_firstLine_20 : decode cX9_firstLine 20 = .ok (.iconst 1, 1) := by decide +kernel
theorem dX9_firstLine_21 : decode cX9_firstLine 21 = .ok (.if_icmp .ne 18, 3) := by decide +kernel
theorem dX9_firstLine_24 : decode cX9_firstLine 24 = .ok (.aload_n 0, 1) := by decide +kernel
theorem dX9_firstLine_25 : decode cX9_firstLine 25 = .ok (.bipush 69, 2) := by decide +kernel
theorem dX9_firstLine_27 : decode cX9_firstLine 27 = .ok (.bipush 68, 2) := by decide +kernel
theorem dX9_firstLine_29 : decode cX9_firstLine 29 = .ok (.bipush 73, 2) := by decide +kernel
theorem dX9_firstLine_31 : decode cX9_firstLine 31 = .ok (.bipush 84, 2) := by decide +kernel
theorem dX9_firstLine_33 : decode cX9_firstLine 33 = .ok (.invokevirtual 192, 3) := by decide +kernel
theorem dX9_firstLine_36 : decode cX9_firstLine 36 = .ok (.goto 15, 3) := by decide +kernel
theorem dX9_firstLine_39 : decode cX9_firstLine 39 = .ok (.aload_n 0, 1) := by decide +kernel
theorem dX9_firstLine_40 : decode cX9_firstLine 40 = .ok (.bipush 67, 2) := by decide +kernel
theorem dX9_firstLine_42 : decode cX9_firstLine 42 = .ok (.bipush 79, 2) := by decide +kernel
theorem dX9_firstLine_44 : decode cX9_firstLine 44 = .ok (.bipush 68, 2) := by decide +kernel
theorem dX9_firstLine_46 : decode cX9_firstLine 46 = .ok (.bipush 69, 2) := by decide +kernel
theorem dX9_firstLine_48 : decode cX9_firstLine 48 = .ok (.invokevirtual 192, 3) := by decide +kernel
theorem dX9_firstLine_51 : decode cX9_firstLine 51 = .ok (.aload_n 0, 1) := by decide +kernel
theorem dX9_firstLine_52 : decode cX9_firstLine 52 = .ok (.aload_n 0, 1) := by decide +kernel
theorem dX9_firstLine_53 : decode cX9_firstLine 53 = .ok (.aload_n 0, 1) := by decide +kernel
theorem dX9_firstLine_54 : decode cX9_firstLine 54 = .ok (.getfield 86, 3) := by decide +kernel
theorem dX9_firstLine_57 : decode cX9_firstLine 57 = .ok (.invokevirtual 125, 3) := by decide +kernel
theorem dX9_firstLine_60 : decode cX9_firstLine 60 = .ok (.iconst 5, 1) := by decide +kernel
theorem dX9_firstLine_61 : decode cX9_firstLine 61 = .ok (.invokevirtual 185, 3) := by decide +kernel
theorem dX9_firstLine_64 : decode cX9_firstLine 64 = .ok (.return_, 1) := by decide +kernel
theorem dX9_secondLine_0 : decode cX9_secondLine 0 = .ok (.aload_n 0, 1) := by decide +kernel
theorem dX9_secondLine_1 : decode cX9_secondLine 1 = .ok (.getfield 83, 3) := by decide +kernel
theorem dX9_secondLine_4 : decode cX9_secondLine 4 = .ok (.iconst 1, 1) := by decide +kernel
theorem dX9_secondLine_5 : decode cX9_secondLine 5 = .ok (.if_icmp .ne 12, 3) := by decide +kernel
theorem dX9_secondLine_8 : decode cX9_secondLine 8 = .ok (.aload_n 0, 1) := by decide +kernel
theorem dX9_secondLine_9 : decode cX9_secondLine 9 = .ok (.aload_n 0, 1) := by decide +kernel
theorem dX9_secondLine_10 : decode cX9_secondLine 10 = .ok (.getfield 128, 3) := by decide +kernel
theorem dX9_secondLine_13 : decode cX9_secondLine 13 = .ok (.invokevirtual 196, 3) := by decide +kernel
theorem dX9_secondLine_16 : decode cX9_secondLine 16 = .ok (.return_, 1) := by decide +kernel
theorem dX9_secondLine_17 : decode cX9_secondLine 17 = .ok (.aload_n 0, 1) := by decide +kernel
theorem dX9_secondLine_18 : decode cX9_secondLine 18 = .ok (.getfield 83, 3) := by decide +kernel
theorem dX9_secondLine_21 : decode cX9_secondLine 21 = .ok (.iconst 2, 1) := by decide +kernel
theorem dX9_secondLine_22 : decode cX9_secondLine 22 = .ok (.if_icmp .ne 58, 3) := by decide +kernel
theorem dX9_secondLine_25 : decode cX9_secondLine 25 = .ok (.iconst 0, 1) := by decide +kernel
theorem dX9_secondLine_26 : decode cX9_secondLine 26 = .ok (.istore_n 1, 1) := by decide +kernel
theorem dX9_secondLine_27 : decode cX9_secondLine 27 = .ok (.iload_n 1, 1) := by decide +kernel
theorem dX9_secondLine_28 : decode cX9_secondLine 28 = .ok (.iconst 4, 1) := by decide +kernel
theorem dX9_secondLine_29 : decode cX9_secondLine 29 = .ok (.if_icmp .ge 50, 3) := by decide +kernel
theorem dX9_secondLine_32 : decode cX9_secondLine 32 = .ok (.aload_n 0, 1) := by decide +kernel
theorem dX9_secondLine_33 : decode cX9_secondLine 33 = .ok (.getfield 59, 3) := by decide +kernel
theorem dX9_secondLine_36 : decode cX9_secondLine 36 = .ok (.iload_n 1, 1) := by decide +kernel
theorem dX9_secondLine_37 : decode cX9_secondLine 37 = .ok (.iload_n 1, 1) := by decide +kernel
theorem dX9_secondLine_38 : decode cX9_secondLine 38 = .ok (.aload_n 0, 1) := by decide +kernel
theorem dX9_secondLine_39 : decode cX9_secondLine 39 = .ok (.getfield 119, 3) := by decide +kernel
theorem dX9_secondLine_42 : decode cX9_secondLine 42 = .ok (.if_icmp .ge 8, 3) := by decide +kernel
theorem dX9_secondLine_45 : decode cX9_secondLine 45 = .ok (.bipush 42, 2) := by decide +kernel
theorem dX9_secondLine_47 : decode cX9_secondLine 47 = .ok (.goto 25, 3) := by decide +kernel
theorem dX9_secondLine_50 : decode cX9_secondLine 50 = .ok (.iload_n 1, 1) := by decide +kernel
theorem dX9_secondLine_51 : decode cX9_secondLine 51 = .ok (.aload_n 0, 1) := by decide +kernel
theorem dX9_secondLine_52 : decode cX9_secondLine 52 = .ok (.getfield 119, 3) := by decide +kernel
theorem dX9_secondLine_55 : decode cX9_secondLine 55 = .ok (.if_icmp .le 8, 3) := by decide +kernel
theorem dX9_secondLine_58 : decode cX9_secondLine 58 = .ok (.bipush 45, 2) := by decide +kernel
theorem dX9_secondLine_60 : decode cX9_secondLine 60 = .ok (.goto 12, 3) := by decide +kernel
theorem dX9_secondLine_63 : decode cX9_secondLine 63 = .ok (.bipush 48, 2) := by decide +kernel
theorem dX9_secondLine_65 : decode cX9_secondLine 65 = .ok (.aload_n 0, 1) := by decide +kernel
theorem dX9_secondLine_66 : decode cX9_secondLine 66 = .ok (.getfield 35, 3) := by decide +kernel
theorem dX9_secondLine_69 : decode cX9_secondLine 69 = .ok (.iload_n 1, 1) := by decide +kernel
theorem dX9_secondLine_70 : decode cX9_secondLine 70 = .ok (.iaload, 1) := by decide +kernel
theorem dX9_secondLine_71 : decode cX9_secondLine 71 = .ok (.iadd, 1) := by decide +kernel
theorem dX9_secondLine_72 : decode cX9_secondLine 72 = .ok (.iastore, 1) := by decide +kernel
theorem dX9_secondLine_73 : decode cX9_secondLine 73 = .ok (.iinc 1 1, 3) := by decide +kernel
theorem dX9_secondLine_76 : decode cX9_secondLine 76 = .ok (.goto (-49), 3) := by decide +kernel
theorem dX9_secondLine_79 : decode cX9_secondLine 79 = .ok (.return_, 1) := by decide +kernel
theorem dX9_secondLine_80 : decode cX9_secondLine 80 = .ok (.aload_n 0, 1) := by decide +kernel
theorem dX9_secondLine_81 : decode cX9_secondLine 81 = .ok (.aload_n 0, 1) := by decide +kernel
theorem dX9_secondLine_82 : decode cX9_secondLine 82 = .ok (.getfield 86, 3) := by decide +kernel
theorem dX9_secondLine_85 : decode cX9_secondLine 85 = .ok (.invokevirtual 125, 3) := by decide +kernel
theorem dX9_secondLine_88 : decode cX9_secondLine 88 = .ok (.istore_n 1, 1) := by decide +kernel
theorem dX9_secondLine_89 : decode cX9_secondLine 89 = .ok (.iload_n 1, 1) := by decide +kernel
theorem dX9_secondLine_90 : decode cX9_secondLine 90 = .ok (.iconst (-1), 1) := by decide +kernel
theorem dX9_secondLine_91 : decode cX9_secondLine 91 = .ok (.if_icmp .ne 27, 3) := by decide +kernel
theorem dX9_secondLine_94 : decode cX9_secondLine 94 = .ok (.aload_n 0, 1) := by decide +kernel
theorem dX9_secondLine_95 : decode cX9_secondLine 95 = .ok (.aload_n 0, 1) := by decide +kernel
theorem dX9_secondLine_96 : decode cX9_secondLine 96 = .ok (.getfield 77, 3) := by decide +kernel
theorem dX9_secondLine_99 : decode cX9_secondLine 99 = .ok (.invokevirtual 135, 3) := by decide +kernel
theorem dX9_secondLine_102 : decode cX9_secondLine 102 = .ok (.ifCond .le 15, 3) := by decide +kernel
theorem dX9_secondLine_105 : decode cX9_secondLine 105 = .ok (.aload_n 0, 1) := by decide +kernel
theorem dX9_secondLine_106 : decode cX9_secondLine 106 = .ok (.bipush 66, 2) := by decide +kernel
theorem dX9_secondLine_108 : decode cX9_secondLine 108 = .ok (.bipush 65, 2) := by decide +kernel
theorem dX9_secondLine_110 : decode cX9_secondLine 110 = .ok (.bipush 67, 2) := by decide +kernel
theorem dX9_secondLine_112 : decode cX9_secondLine 112 = .ok (.bipush 75, 2) := by decide +kernel
theorem dX9_secondLine_114 : decode cX9_secondLine 114 = .ok (.invokevirtual 192, 3) := by decide +kernel
theorem dX9_secondLine_117 : decode cX9_secondLine 117 = .ok (.return_, 1) := by decide +kernel
theorem dX9_secondLine_118 : decode cX9_secondLine 118 = .ok (.aload_n 0, 1) := by decide +kernel
theorem dX9_secondLine_119 : decode cX9_secondLine 119 = .ok (.iload_n 1, 1) := by decide +kernel
theorem dX9_secondLine_120 : decode cX9_secondLine 120 = .ok (.invokevirtual 188, 3) := by decide +kernel
theorem dX9_secondLine_123 : decode cX9_secondLine 123 = .ok (.aload_n 0, 1) := by decide +kernel
theorem dX9_secondLine_124 : decode cX9_secondLine 124 = .ok (.iload_n 1, 1) := by decide +kernel
theorem dX9_secondLine_125 : decode cX9_secondLine 125 = .ok (.invokevirtual 116, 3) := by decide +kernel
theorem dX9_secondLine_128 : decode cX9_secondLine 128 = .ok (.ifCond .eq 15, 3) := by decide +kernel
theorem dX9_secondLine_131 : decode cX9_secondLine 131 = .ok (.aload_n 0, 1) := by decide +kernel
theorem dX9_secondLine_132 : decode cX9_secondLine 132 = .ok (.getfield 59, 3) := by decide +kernel
theorem dX9_secondLine_135 : decode cX9_secondLine 135 = .ok (.bipush 15, 2) := by decide +kernel
theorem dX9_secondLine_137 : decode cX9_secondLine 137 = .ok (.bipush 76, 2) := by decide +kernel
theorem dX9_secondLine_139 : decode cX9_secondLine 139 = .ok (.iastore, 1) := by decide +kernel
theorem dX9_secondLine_140 : decode cX9_secondLine 140 = .ok (.goto 33, 3) := by decide +kernel
theorem dX9_secondLine_143 : decode cX9_secondLine 143 = .ok (.aload_n 0, 1) := by decide +kernel
theorem dX9_secondLine_144 : decode cX9_secondLine 144 = .ok (.iload_n 1, 1) := by decide +kernel
theorem dX9_secondLine_145 : decode cX9_secondLine 145 = .ok (.invokevirtual 100, 3) := by decide +kernel
theorem dX9_secondLine_148 : decode cX9_secondLine 148 = .ok (.ifCond .eq 15, 3) := by decide +kernel
theorem dX9_secondLine_151 : decode cX9_secondLine 151 = .ok (.aload_n 0, 1) := by decide +kernel
theorem dX9_secondLine_152 : decode cX9_secondLine 152 = .ok (.getfield 59, 3) := by decide +kernel
theorem dX9_secondLine_155 : decode cX9_secondLine 155 = .ok (.bipush 15, 2) := by decide +kernel
theorem dX9_secondLine_157 : decode cX9_secondLine 157 = .ok (.bipush 62, 2) := by decide +kernel
theorem dX9_secondLine_159 : decode cX9_secondLine 159 = .ok (.iastore, 1) := by decide +kernel
theorem dX9_secondLine_160 : decode cX9_secondLine 160 = .ok (.goto 13, 3) := by decide +kernel
theorem dX9_secondLine_163 : decode cX9_secondLine 163 = .ok (.aload_n 0, 1) := by decide +kernel
theorem dX9_secondLine_164 : decode cX9_secondLine 164 = .ok (.aload_n 0, 1) := by decide +kernel
theorem dX9_secondLine_165 : decode cX9_secondLine 165 = .ok (.getfield 25, 3) := by decide +kernel
theorem dX9_secondLine_168 : decode cX9_secondLine 168 = .ok (.iload_n 1, 1) := by decide +kernel
theorem dX9_secondLine_169 : decode cX9_secondLine 169 = .ok (.iaload, 1) := by decide +kernel
theorem dX9_secondLine_170 : decode cX9_secondLine 170 = .ok (.invokevirtual 196, 3) := by decide +kernel
theorem dX9_secondLine_173 : decode cX9_secondLine 173 = .ok (.return_, 1) := by decide +kernel
theorem dX9_lays_0 : decode cX9_lays 0 = .ok (.iconst 0, 1) := by decide +kernel
theorem dX9_lays_1 : decode cX9_lays 1 = .ok (.istore_n 2, 1) := by decide +kernel
theorem dX9_lays_2 : decode cX9_lays 2 = .ok (.iload_n 2, 1) := by decide +kernel
theorem dX9_lays_3 : decode cX9_lays 3 = .ok (.bipush 16, 2) := by decide +kernel
theorem dX9_lays_5 : decode cX9_lays 5 = .ok (.if_icmp .ge 17, 3) := by decide +kernel
theorem dX9_lays_8 : decode cX9_lays 8 = .ok (.aload_n 0, 1) := by decide +kernel
theorem dX9_lays_9 : decode cX9_lays 9 = .ok (.getfield 59, 3) := by decide +kernel
theorem dX9_lays_12 : decode cX9_lays 12 = .ok (.iload_n 2, 1) := by decide +kernel
theorem dX9_lays_13 : decode cX9_lays 13 = .ok (.bipush 32, 2) := by decide +kernel
theorem dX9_lays_15 : decode cX9_lays 15 = .ok (.iastore, 1) := by decide +kernel
theorem dX9_lays_16 : decode cX9_lays 16 = .ok (.iinc 2 1, 3) := by decide +kernel
theorem dX9_lays_19 : decode cX9_lays 19 = .ok (.goto (-17), 3) := by decide +kernel
theorem dX9_lays_22 : decode cX9_lays 22 = .ok (.iload_n 1, 1) := by decide +kernel
theorem dX9_lays_23 : decode cX9_lays 23 = .ok (.ifCond .ne 10, 3) := by decide +kernel
theorem dX9_lays_26 : decode cX9_lays 26 = .ok (.aload_n 0, 1) := by decide +kernel
theorem dX9_lays_27 : decode cX9_lays 27 = .ok (.invokevirtual 199, 3) := by decide +kernel
theorem dX9_lays_30 : decode cX9_lays 30 = .ok (.goto 7, 3) := by decide +kernel
theorem dX9_lays_33 : decode cX9_lays 33 = .ok (.aload_n 0, 1) := by decide +kernel
theorem dX9_lays_34 : decode cX9_lays 34 = .ok (.invokevirtual 202, 3) := by decide +kernel
theorem dX9_lays_37 : decode cX9_lays 37 = .ok (.return_, 1) := by decide +kernel
theorem dX9_display_0 : decode cX9_display 0 = .ok (.aload_n 0, 1) := by decide +kernel
theorem dX9_display_1 : decode cX9_display 1 = .ok (.iload_n 1, 1) := by decide +kernel
theorem dX9_display_2 : decode cX9_display 2 = .ok (.iconst 0, 1) := by decide +kernel
theorem dX9_display_3 : decode cX9_display 3 = .ok (.iconst 1, 1) := by decide +kernel
theorem dX9_display_4 : decode cX9_display 4 = .ok (.invokestatic 69, 3) := by decide +kernel
theorem dX9_display_7 : decode cX9_display 7 = .ok (.ifCond .eq 17, 3) := by decide +kernel
theorem dX9_display_10 : decode cX9_display 10 = .ok (.iload_n 2, 1) := by decide +kernel
theorem dX9_display_11 : decode cX9_display 11 = .ok (.iconst 0, 1) := by decide +kernel
theorem dX9_display_12 : decode cX9_display 12 = .ok (.bipush 15, 2) := by decide +kernel
theorem dX9_display_14 : decode cX9_display 14 = .ok (.invokestatic 69, 3) := by decide +kernel
theorem dX9_display_17 : decode cX9_display 17 = .ok (.ifCond .eq 7, 3) := by decide +kernel
theorem dX9_display_20 : decode cX9_display 20 = .ok (.iconst 0, 1) := by decide +kernel
theorem dX9_display_21 : decode cX9_display 21 = .ok (.goto 4, 3) := by decide +kernel
theorem dX9_display_24 : decode cX9_display 24 = .ok (.iconst 1, 1) := by decide +kernel
theorem dX9_display_25 : decode cX9_display 25 = .ok (.invokevirtual 109, 3) := by decide +kernel
theorem dX9_display_28 : decode cX9_display 28 = .ok (.ifCond .ne 5, 3) := by decide +kernel
theorem dX9_display_31 : decode cX9_display 31 = .ok (.iconst 0, 1) := by decide +kernel
theorem dX9_display_32 : decode cX9_display 32 = .ok (.ireturn, 1) := by decide +kernel
theorem dX9_display_33 : decode cX9_display 33 = .ok (.aload_n 0, 1) := by decide +kernel
theorem dX9_display_34 : decode cX9_display 34 = .ok (.iload_n 1, 1) := by decide +kernel
theorem dX9_display_35 : decode cX9_display 35 = .ok (.invokevirtual 205, 3) := by decide +kernel
theorem dX9_display_38 : decode cX9_display 38 = .ok (.aload_n 0, 1) := by decide +kernel
theorem dX9_display_39 : decode cX9_display 39 = .ok (.getfield 59, 3) := by decide +kernel
theorem dX9_display_42 : decode cX9_display 42 = .ok (.iload_n 2, 1) := by decide +kernel
theorem dX9_display_43 : decode cX9_display 43 = .ok (.iaload, 1) := by decide +kernel
theorem dX9_display_44 : decode cX9_display 44 = .ok (.ireturn, 1) := by decide +kernel
theorem dX9_events_0 : decode cX9_events 0 = .ok (.aload_n 0, 1) := by decide +kernel
theorem dX9_events_1 : decode cX9_events 1 = .ok (.iload_n 1, 1) := by decide +kernel
theorem dX9_events_2 : decode cX9_events 2 = .ok (.iconst 0, 1) := by decide +kernel
theorem dX9_events_3 : decode cX9_events 3 = .ok (.bipush 7, 2) := by decide +kernel
theorem dX9_events_5 : decode cX9_events 5 = .ok (.invokestatic 69, 3) := by decide +kernel
theorem dX9_events_8 : decode cX9_events 8 = .ok (.ifCond .eq 7, 3) := by decide +kernel
theorem dX9_events_11 : decode cX9_events 11 = .ok (.iconst 0, 1) := by decide +kernel
theorem dX9_events_12 : decode cX9_events 12 = .ok (.goto 4, 3) := by decide +kernel
theorem dX9_events_15 : decode cX9_events 15 = .ok (.iconst 1, 1) := by decide +kernel
theorem dX9_events_16 : decode cX9_events 16 = .ok (.invokevirtual 109, 3) := by decide +kernel
theorem dX9_events_19 : decode cX9_events 19 = .ok (.ifCond .eq 12, 3) := by decide +kernel
theorem dX9_events_22 : decode cX9_events 22 = .ok (.aload_n 0, 1) := by decide +kernel
theorem dX9_events_23 : decode cX9_events 23 = .ok (.getfield 41, 3) := by decide +kernel
theorem dX9_events_26 : decode cX9_events 26 = .ok (.iload_n 1, 1) := by decide +kernel
theorem dX9_events_27 : decode cX9_events 27 = .ok (.iaload, 1) := by decide +kernel
theorem dX9_events_28 : decode cX9_events 28 = .ok (.goto 4, 3) := by decide +kernel
theorem dX9_events_31 : decode cX9_events 31 = .ok (.iconst 0, 1) := by decide +kernel
theorem dX9_events_32 : decode cX9_events 32 = .ok (.ireturn, 1) := by decide +kernel
theorem dX9_ifTurned_0 : decode cX9_ifTurned 0 = .ok (.aload_n 0, 1) := by decide +kernel
theorem dX9_ifTurned_1 : decode cX9_ifTurned 1 = .ok (.iload_n 1, 1) := by decide +kernel
theorem dX9_ifTurned_2 : decode cX9_ifTurned 2 = .ok (.bipush (-50), 2) := by decide +kernel
theorem dX9_ifTurned_4 : decode cX9_ifTurned 4 = .ok (.bipush 50, 2) := by decide +kernel
theorem dX9_ifTurned_6 : decode cX9_ifTurned 6 = .ok (.invokestatic 69, 3) := by decide +kernel
theorem dX9_ifTurned_9 : decode cX9_ifTurned 9 = .ok (.ifCond .eq 7, 3) := by decide +kernel
theorem dX9_ifTurned_12 : decode cX9_ifTurned 12 = .ok (.iconst 0, 1) := by decide +kernel
theorem dX9_ifTurned_13 : decode cX9_ifTurned 13 = .ok (.goto 4, 3) := by decide +kernel
theorem dX9_ifTurned_16 : decode cX9_ifTurned 16 = .ok (.iconst 1, 1) := by decide +kernel
theorem dX9_ifTurned_17 : decode cX9_ifTurned 17 = .ok (.invokevirtual 109, 3) := by decide +kernel
theorem dX9_ifTurned_20 : decode cX9_ifTurned 20 = .ok (.ifCond .eq 11, 3) := by decide +kernel
theorem dX9_ifTurned_23 : decode cX9_ifTurned 23 = .ok (.aload_n 0, 1) := by decide +kernel
theorem dX9_ifTurned_24 : decode cX9_ifTurned 24 = .ok (.iload_n 1, 1) := by decide +kernel
theorem dX9_ifTurned_25 : decode cX9_ifTurned 25 = .ok (.invokevirtual 138, 3) := by decide +kernel
theorem dX9_ifTurned_28 : decode cX9_ifTurned 28 = .ok (.goto 4, 3) := by decide +kernel
theorem dX9_ifTurned_31 : decode cX9_ifTurned 31 = .ok (.iconst 0, 1) := by decide +kernel
theorem dX9_ifTurned_32 : decode cX9_ifTurned 32 = .ok (.ireturn, 1) := by decide +kernel
theorem dX9_pressesTo_0 : decode cX9_pressesTo 0 = .ok (.aload_n 0, 1) := by decide +kernel
theorem dX9_pressesTo_1 : decode cX9_pressesTo 1 = .ok (.aload_n 0, 1) := by decide +kernel
theorem dX9_pressesTo_2 : decode cX9_pressesTo 2 = .ok (.iload_n 1, 1) := by decide +kernel
theorem dX9_pressesTo_3 : decode cX9_pressesTo 3 = .ok (.invokevirtual 96, 3) := by decide +kernel
theorem dX9_pressesTo_6 : decode cX9_pressesTo 6 = .ok (.ifCond .eq 7, 3) := by decide +kernel
theorem dX9_pressesTo_9 : decode cX9_pressesTo 9 = .ok (.iconst 0, 1) := by decide +kernel
theorem dX9_pressesTo_10 : decode cX9_pressesTo 10 = .ok (.goto 4, 3) := by decide +kernel
theorem dX9_pressesTo_13 : decode cX9_pressesTo 13 = .ok (.iconst 1, 1) := by decide +kernel
theorem dX9_pressesTo_14 : decode cX9_pressesTo 14 = .ok (.invokevirtual 109, 3) := by decide +kernel
theorem dX9_pressesTo_17 : decode cX9_pressesTo 17 = .ok (.ifCond .eq 11, 3) := by decide +kernel
theorem dX9_pressesTo_20 : decode cX9_pressesTo 20 = .ok (.aload_n 0, 1) := by decide +kernel
theorem dX9_pressesTo_21 : decode cX9_pressesTo 21 = .ok (.iload_n 1, 1) := by decide +kernel
theorem dX9_pressesTo_22 : decode cX9_pressesTo 22 = .ok (.invokevirtual 106, 3) := by decide +kernel
theorem dX9_pressesTo_25 : decode cX9_pressesTo 25 = .ok (.goto 4, 3) := by decide +kernel
theorem dX9_pressesTo_28 : decode cX9_pressesTo 28 = .ok (.iconst 0, 1) := by decide +kernel
theorem dX9_pressesTo_29 : decode cX9_pressesTo 29 = .ok (.ireturn, 1) := by decide +kernel
theorem dX9_detentsTo_0 : decode cX9_detentsTo 0 = .ok (.aload_n 0, 1) := by decide +kernel
theorem dX9_detentsTo_1 : decode cX9_detentsTo 1 = .ok (.aload_n 0, 1) := by decide +kernel
theorem dX9_detentsTo_2 : decode cX9_detentsTo 2 = .ok (.iload_n 1, 1) := by decide +kernel
theorem dX9_detentsTo_3 : decode cX9_detentsTo 3 = .ok (.invokevirtual 96, 3) := by decide +kernel
theorem dX9_detentsTo_6 : decode cX9_detentsTo 6 = .ok (.ifCond .eq 7, 3) := by decide +kernel
theorem dX9_detentsTo_9 : decode cX9_detentsTo 9 = .ok (.iconst 0, 1) := by decide +kernel
theorem dX9_detentsTo_10 : decode cX9_detentsTo 10 = .ok (.goto 4, 3) := by decide +kernel
theorem dX9_detentsTo_13 : decode cX9_detentsTo 13 = .ok (.iconst 1, 1) := by decide +kernel
theorem dX9_detentsTo_14 : decode cX9_detentsTo 14 = .ok (.invokevirtual 109, 3) := by decide +kernel
theorem dX9_detentsTo_17 : decode cX9_detentsTo 17 = .ok (.ifCond .ne 5, 3) := by decide +kernel
theorem dX9_detentsTo_20 : decode cX9_detentsTo 20 = .ok (.iconst 0, 1) := by decide +kernel
theorem dX9_detentsTo_21 : decode cX9_detentsTo 21 = .ok (.ireturn, 1) := by decide +kernel
theorem dX9_detentsTo_22 : decode cX9_detentsTo 22 = .ok (.iconst 0, 1) := by decide +kernel
theorem dX9_detentsTo_23 : decode cX9_detentsTo 23 = .ok (.istore_n 2, 1) := by decide +kernel
theorem dX9_detentsTo_24 : decode cX9_detentsTo 24 = .ok (.iload_n 1, 1) := by decide +kernel
theorem dX9_detentsTo_25 : decode cX9_detentsTo 25 = .ok (.istore_n 3, 1) := by decide +kernel
theorem dX9_detentsTo_26 : decode cX9_detentsTo 26 = .ok (.iload_n 3, 1) := by decide +kernel
theorem dX9_detentsTo_27 : decode cX9_detentsTo 27 = .ok (.ifCond .eq 62, 3) := by decide +kernel
theorem dX9_detentsTo_30 : decode cX9_detentsTo 30 = .ok (.aload_n 0, 1) := by decide +kernel
theorem dX9_detentsTo_31 : decode cX9_detentsTo 31 = .ok (.iload_n 3, 1) := by decide +kernel
theorem dX9_detentsTo_32 : decode cX9_detentsTo 32 = .ok (.invokevirtual 80, 3) := by decide +kernel
theorem dX9_detentsTo_35 : decode cX9_detentsTo 35 = .ok (.istore 4, 2) := by decide +kernel
theorem dX9_detentsTo_37 : decode cX9_detentsTo 37 = .ok (.aload_n 0, 1) := by decide +kernel
theorem dX9_detentsTo_38 : decode cX9_detentsTo 38 = .ok (.aload_n 0, 1) := by decide +kernel
theorem dX9_detentsTo_39 : decode cX9_detentsTo 39 = .ok (.getfield 13, 3) := by decide +kernel
theorem dX9_detentsTo_42 : decode cX9_detentsTo 42 = .ok (.iload_n 3, 1) := by decide +kernel
theorem dX9_detentsTo_43 : decode cX9_detentsTo 43 = .ok (.iaload, 1) := by decide +kernel
theorem dX9_detentsTo_44 : decode cX9_detentsTo 44 = .ok (.invokevirtual 135, 3) := by decide +kernel
theorem dX9_detentsTo_47 : decode cX9_detentsTo 47 = .ok (.iload 4, 2) := by decide +kernel
theorem dX9_detentsTo_49 : decode cX9_detentsTo 49 = .ok (.isub, 1) := by decide +kernel
theorem dX9_detentsTo_50 : decode cX9_detentsTo 50 = .ok (.istore 5, 2) := by decide +kernel
theorem dX9_detentsTo_52 : decode cX9_detentsTo 52 = .ok (.iload_n 2, 1) := by decide +kernel
theorem dX9_detentsTo_53 : decode cX9_detentsTo 53 = .ok (.aload_n 0, 1) := by decide +kernel
theorem dX9_detentsTo_54 : decode cX9_detentsTo 54 = .ok (.getfield 38, 3) := by decide +kernel
theorem dX9_detentsTo_57 : decode cX9_detentsTo 57 = .ok (.iconst 2, 1) := by decide +kernel
theorem dX9_detentsTo_58 : decode cX9_detentsTo 58 = .ok (.iaload, 1) := by decide +kernel
theorem dX9_detentsTo_59 : decode cX9_detentsTo 59 = .ok (.iconst 1, 1) := by decide +kernel
theorem dX9_detentsTo_60 : decode cX9_detentsTo 60 = .ok (.if_icmp .ne 15, 3) := by decide +kernel
theorem dX9_detentsTo_63 : decode cX9_detentsTo 63 = .ok (.iload 5, 2) := by decide +kernel
theorem dX9_detentsTo_65 : decode cX9_detentsTo 65 = .ok (.iload 4, 2) := by decide +kernel
theorem dX9_detentsTo_67 : decode cX9_detentsTo 67 = .ok (.if_icmp .ge 8, 3) := by decide +kernel
theorem dX9_detentsTo_70 : decode cX9_detentsTo 70 = .ok (.iload 5, 2) := by decide +kernel
theorem dX9_detentsTo_72 : decode cX9_detentsTo 72 = .ok (.goto 5, 3) := by decide +kernel
theorem dX9_detentsTo_75 : decode cX9_detentsTo 75 = .ok (.iload 4, 2) := by decide +kernel
theorem dX9_detentsTo_77 : decode cX9_detentsTo 77 = .ok (.iadd, 1) := by decide +kernel
theorem dX9_detentsTo_78 : decode cX9_detentsTo 78 = .ok (.istore_n 2, 1) := by decide +kernel
theorem dX9_detentsTo_79 : decode cX9_detentsTo 79 = .ok (.aload_n 0, 1) := by decide +kernel
theorem dX9_detentsTo_80 : decode cX9_detentsTo 80 = .ok (.getfield 13, 3) := by decide +kernel
theorem dX9_detentsTo_83 : decode cX9_detentsTo 83 = .ok (.iload_n 3, 1) := by decide +kernel
theorem dX9_detentsTo_84 : decode cX9_detentsTo 84 = .ok (.iaload, 1) := by decide +kernel
theorem dX9_detentsTo_85 : decode cX9_detentsTo 85 = .ok (.istore_n 3, 1) := by decide +kernel
theorem dX9_detentsTo_86 : decode cX9_detentsTo 86 = .ok (.goto (-60), 3) := by decide +kernel
theorem dX9_detentsTo_89 : decode cX9_detentsTo 89 = .ok (.iload_n 2, 1) := by decide +kernel
theorem dX9_detentsTo_90 : decode cX9_detentsTo 90 = .ok (.ireturn, 1) := by decide +kernel
theorem dX9_codesTo_0 : decode cX9_codesTo 0 = .ok (.aload_n 0, 1) := by decide +kernel
theorem dX9_codesTo_1 : decode cX9_codesTo 1 = .ok (.aload_n 0, 1) := by decide +kernel
theorem dX9_codesTo_2 : decode cX9_codesTo 2 = .ok (.iload_n 1, 1) := by decide +kernel
theorem dX9_codesTo_3 : decode cX9_codesTo 3 = .ok (.invokevirtual 96, 3) := by decide +kernel
theorem dX9_codesTo_6 : decode cX9_codesTo 6 = .ok (.ifCond .eq 7, 3) := by decide +kernel
theorem dX9_codesTo_9 : decode cX9_codesTo 9 = .ok (.iconst 0, 1) := by decide +kernel
theorem dX9_codesTo_10 : decode cX9_codesTo 10 = .ok (.goto 4, 3) := by decide +kernel
theorem dX9_codesTo_13 : decode cX9_codesTo 13 = .ok (.iconst 1, 1) := by decide +kernel
theorem dX9_codesTo_14 : decode cX9_codesTo 14 = .ok (.invokevirtual 109, 3) := by decide +kernel
theorem dX9_codesTo_17 : decode cX9_codesTo 17 = .ok (.ifCond .ne 5, 3) := by decide +kernel
theorem dX9_codesTo_20 : decode cX9_codesTo 20 = .ok (.iconst 0, 1) := by decide +kernel
theorem dX9_codesTo_21 : decode cX9_codesTo 21 = .ok (.ireturn, 1) := by decide +kernel
theorem dX9_codesTo_22 : decode cX9_codesTo 22 = .ok (.iconst 0, 1) := by decide +kernel
theorem dX9_codesTo_23 : decode cX9_codesTo 23 = .ok (.istore_n 2, 1) := by decide +kernel
theorem dX9_codesTo_24 : decode cX9_codesTo 24 = .ok (.iload_n 1, 1) := by decide +kernel
theorem dX9_codesTo_25 : decode cX9_codesTo 25 = .ok (.istore_n 3, 1) := by decide +kernel
theorem dX9_codesTo_26 : decode cX9_codesTo 26 = .ok (.iload_n 3, 1) := by decide +kernel
theorem dX9_codesTo_27 : decode cX9_codesTo 27 = .ok (.iconst (-1), 1) := by decide +kernel
theorem dX9_codesTo_28 : decode cX9_codesTo 28 = .ok (.if_icmp .eq 29, 3) := by decide +kernel
theorem dX9_codesTo_31 : decode cX9_codesTo 31 = .ok (.iload_n 2, 1) := by decide +kernel
theorem dX9_codesTo_32 : decode cX9_codesTo 32 = .ok (.aload_n 0, 1) := by decide +kernel
theorem dX9_codesTo_33 : decode cX9_codesTo 33 = .ok (.iload_n 3, 1) := by decide +kernel
theorem dX9_codesTo_34 : decode cX9_codesTo 34 = .ok (.invokevirtual 116, 3) := by decide +kernel
theorem dX9_codesTo_37 : decode cX9_codesTo 37 = .ok (.ifCond .eq 7, 3) := by decide +kernel
theorem dX9_codesTo_40 : decode cX9_codesTo 40 = .ok (.iconst 1, 1) := by decide +kernel
theorem dX9_codesTo_41 : decode cX9_codesTo 41 = .ok (.goto 4, 3) := by decide +kernel
theorem dX9_codesTo_44 : decode cX9_codesTo 44 = .ok (.iconst 0, 1) := by decide +kernel
theorem dX9_codesTo_45 : decode cX9_codesTo 45 = .ok (.iadd, 1) := by decide +kernel
theorem dX9_codesTo_46 : decode cX9_codesTo 46 = .ok (.istore_n 2, 1) := by decide +kernel
theorem dX9_codesTo_47 : decode cX9_codesTo 47 = .ok (.aload_n 0, 1) := by decide +kernel
theorem dX9_codesTo_48 : decode cX9_codesTo 48 = .ok (.getfield 13, 3) := by decide +kernel
theorem dX9_codesTo_51 : decode cX9_codesTo 51 = .ok (.iload_n 3, 1) := by decide +kernel
theorem dX9_codesTo_52 : decode cX9_codesTo 52 = .ok (.iaload, 1) := by decide +kernel
theorem dX9_codesTo_53 : decode cX9_codesTo 53 = .ok (.istore_n 3, 1) := by decide +kernel
theorem dX9_codesTo_54 : decode cX9_codesTo 54 = .ok (.goto (-28), 3) := by decide +kernel
theorem dX9_codesTo_57 : decode cX9_codesTo 57 = .ok (.iload_n 2, 1) := by decide +kernel
theorem dX9_codesTo_58 : decode cX9_codesTo 58 = .ok (.ireturn, 1) := by decide +kernel
theorem dX9_ticksLeft_0 : decode cX9_ticksLeft 0 = .ok (.aload_n 0, 1) := by decide +kernel
theorem dX9_ticksLeft_1 : decode cX9_ticksLeft 1 = .ok (.invokevirtual 93, 3) := by decide +kernel
theorem dX9_ticksLeft_4 : decode cX9_ticksLeft 4 = .ok (.ifCond .eq 5, 3) := by decide +kernel
theorem dX9_ticksLeft_7 : decode cX9_ticksLeft 7 = .ok (.iconst 0, 1) := by decide +kernel
theorem dX9_ticksLeft_8 : decode cX9_ticksLeft 8 = .ok (.ireturn, 1) := by decide +kernel
theorem dX9_ticksLeft_9 : decode cX9_ticksLeft 9 = .ok (.aload_n 0, 1) := by decide +kernel
theorem dX9_ticksLeft_10 : decode cX9_ticksLeft 10 = .ok (.getfield 83, 3) := by decide +kernel
theorem dX9_ticksLeft_13 : decode cX9_ticksLeft 13 = .ok (.ifCond .eq 41, 3) := by decide +kernel
theorem dX9_ticksLeft_16 : decode cX9_ticksLeft 16 = .ok (.aload_n 0, 1) := by decide +kernel
theorem dX9_ticksLeft_17 : decode cX9_ticksLeft 17 = .ok (.getfield 77, 3) := by decide +kernel
theorem dX9_ticksLeft_20 : decode cX9_ticksLeft 20 = .ok (.ifCond .ne 34, 3) := by decide +kernel
theorem dX9_ticksLeft_23 : decode cX9_ticksLeft 23 = .ok (.aload_n 0, 1) := by decide +kernel
theorem dX9_ticksLeft_24 : decode cX9_ticksLeft 24 = .ok (.getfield 86, 3) := by decide +kernel
theorem dX9_ticksLeft_27 : decode cX9_ticksLeft 27 = .ok (.ifCond .ne 27, 3) := by decide +kernel
theorem dX9_ticksLeft_30 : decode cX9_ticksLeft 30 = .ok (.aload_n 0, 1) := by decide +kernel
theorem dX9_ticksLeft_31 : decode cX9_ticksLeft 31 = .ok (.invokevirtual 89, 3) := by decide +kernel
theorem dX9_ticksLeft_34 : decode cX9_ticksLeft 34 = .ok (.ifCond .ne 20, 3) := by decide +kernel
theorem dX9_ticksLeft_37 : decode cX9_ticksLeft 37 = .ok (.aload_n 0, 1) := by decide +kernel
theorem dX9_ticksLeft_38 : decode cX9_ticksLeft 38 = .ok (.getfield 141, 3) := by decide +kernel
theorem dX9_ticksLeft_41 : decode cX9_ticksLeft 41 = .ok (.aload_n 0, 1) := by decide +kernel
theorem dX9_ticksLeft_42 : decode cX9_ticksLeft 42 = .ok (.getfield 38, 3) := by decide +kernel
theorem dX9_ticksLeft_45 : decode cX9_ticksLeft 45 = .ok (.iconst 0, 1) := by decide +kernel
theorem dX9_ticksLeft_46 : decode cX9_ticksLeft 46 = .ok (.iaload, 1) := by decide +kernel
theorem dX9_ticksLeft_47 : decode cX9_ticksLeft 47 = .ok (.if_icmp .ge 7, 3) := by decide +kernel
theorem dX9_ticksLeft_50 : decode cX9_ticksLeft 50 = .ok (.iconst 1, 1) := by decide +kernel
theorem dX9_ticksLeft_51 : decode cX9_ticksLeft 51 = .ok (.goto 4, 3) := by decide +kernel
theorem dX9_ticksLeft_54 : decode cX9_ticksLeft 54 = .ok (.iconst 0, 1) := by decide +kernel
theorem dX9_ticksLeft_55 : decode cX9_ticksLeft 55 = .ok (.istore_n 1, 1) := by decide +kernel
theorem dX9_ticksLeft_56 : decode cX9_ticksLeft 56 = .ok (.aload_n 0, 1) := by decide +kernel
theorem dX9_ticksLeft_57 : decode cX9_ticksLeft 57 = .ok (.getfield 141, 3) := by decide +kernel
theorem dX9_ticksLeft_60 : decode cX9_ticksLeft 60 = .ok (.aload_n 0, 1) := by decide +kernel
theorem dX9_ticksLeft_61 : decode cX9_ticksLeft 61 = .ok (.getfield 38, 3) := by decide +kernel
theorem dX9_ticksLeft_64 : decode cX9_ticksLeft 64 = .ok (.iconst 1, 1) := by decide +kernel
theorem dX9_ticksLeft_65 : decode cX9_ticksLeft 65 = .ok (.iaload, 1) := by decide +kernel
theorem dX9_ticksLeft_66 : decode cX9_ticksLeft 66 = .ok (.if_icmp .ge 17, 3) := by decide +kernel
theorem dX9_ticksLeft_69 : decode cX9_ticksLeft 69 = .ok (.aload_n 0, 1) := by decide +kernel
theorem dX9_ticksLeft_70 : decode cX9_ticksLeft 70 = .ok (.getfield 38, 3) := by decide +kernel
theorem dX9_ticksLeft_73 : decode cX9_ticksLeft 73 = .ok (.iconst 1, 1) := by decide +kernel
theorem dX9_ticksLeft_74 : decode cX9_ticksLeft 74 = .ok (.iaload, 1) := by decide +kernel
theorem dX9_ticksLeft_75 : decode cX9_ticksLeft 75 = .ok (.aload_n 0, 1) := by decide +kernel
theorem dX9_ticksLeft_76 : decode cX9_ticksLeft 76 = .ok (.getfield 141, 3) := by decide +kernel
theorem dX9_ticksLeft_79 : decode cX9_ticksLeft 79 = .ok (.isub, 1) := by decide +kernel
theorem dX9_ticksLeft_80 : decode cX9_ticksLeft 80 = .ok (.goto 4, 3) := by decide +kernel
theorem dX9_ticksLeft_83 : decode cX9_ticksLeft 83 = .ok (.iconst (-1), 1) := by decide +kernel
theorem dX9_ticksLeft_84 : decode cX9_ticksLeft 84 = .ok (.istore_n 2, 1) := by decide +kernel
theorem dX9_ticksLeft_85 : decode cX9_ticksLeft 85 = .ok (.iload_n 1, 1) := by decide +kernel
theorem dX9_ticksLeft_86 : decode cX9_ticksLeft 86 = .ok (.ifCond .eq 37, 3) := by decide +kernel
theorem dX9_ticksLeft_89 : decode cX9_ticksLeft 89 = .ok (.iload_n 2, 1) := by decide +kernel
theorem dX9_ticksLeft_90 : decode cX9_ticksLeft 90 = .ok (.iconst (-1), 1) := by decide +kernel
theorem dX9_ticksLeft_91 : decode cX9_ticksLeft 91 = .ok (.if_icmp .eq 18, 3) := by decide +kernel
theorem dX9_ticksLeft_94 : decode cX9_ticksLeft 94 = .ok (.aload_n 0, 1) := by decide +kernel
theorem dX9_ticksLeft_95 : decode cX9_ticksLeft 95 = .ok (.getfield 38, 3) := by decide +kernel
theorem dX9_ticksLeft_98 : decode cX9_ticksLeft 98 = .ok (.iconst 0, 1) := by decide +kernel
theorem dX9_ticksLeft_99 : decode cX9_ticksLeft 99 = .ok (.iaload, 1) := by decide +kernel
theorem dX9_ticksLeft_100 : decode cX9_ticksLeft 100 = .ok (.aload_n 0, 1) := by decide +kernel
theorem dX9_ticksLeft_101 : decode cX9_ticksLeft 101 = .ok (.getfield 141, 3) := by decide +kernel
theorem dX9_ticksLeft_104 : decode cX9_ticksLeft 104 = .ok (.isub, 1) := by decide +kernel
theorem dX9_ticksLeft_105 : decode cX9_ticksLeft 105 = .ok (.iload_n 2, 1) := by decide +kernel
theorem dX9_ticksLeft_106 : decode cX9_ticksLeft 106 = .ok (.if_icmp .ge 17, 3) := by decide +kernel
theorem dX9_ticksLeft_109 : decode cX9_ticksLeft 109 = .ok (.aload_n 0, 1) := by decide +kernel
theorem dX9_ticksLeft_110 : decode cX9_ticksLeft 110 = .ok (.getfield 38, 3) := by decide +kernel
theorem dX9_ticksLeft_113 : decode cX9_ticksLeft 113 = .ok (.iconst 0, 1) := by decide +kernel
theorem dX9_ticksLeft_114 : decode cX9_ticksLeft 114 = .ok (.iaload, 1) := by decide +kernel
theorem dX9_ticksLeft_115 : decode cX9_ticksLeft 115 = .ok (.aload_n 0, 1) := by decide +kernel
theorem dX9_ticksLeft_116 : decode cX9_ticksLeft 116 = .ok (.getfield 141, 3) := by decide +kernel
theorem dX9_ticksLeft_119 : decode cX9_ticksLeft 119 = .ok (.isub, 1) := by decide +kernel
theorem dX9_ticksLeft_120 : decode cX9_ticksLeft 120 = .ok (.goto 4, 3) := by decide +kernel
theorem dX9_ticksLeft_123 : decode cX9_ticksLeft 123 = .ok (.iload_n 2, 1) := by decide +kernel
theorem dX9_ticksLeft_124 : decode cX9_ticksLeft 124 = .ok (.ireturn, 1) := by decide +kernel
theorem dX9_ticksToHome_0 : decode cX9_ticksToHome 0 = .ok (.aload_n 0, 1) := by decide +kernel
theorem dX9_ticksToHome_1 : decode cX9_ticksToHome 1 = .ok (.iconst 0, 1) := by decide +kernel
theorem dX9_ticksToHome_2 : decode cX9_ticksToHome 2 = .ok (.putfield 66, 3) := by decide +kernel
theorem dX9_ticksToHome_5 : decode cX9_ticksToHome 5 = .ok (.aload_n 0, 1) := by decide +kernel
theorem dX9_ticksToHome_6 : decode cX9_ticksToHome 6 = .ok (.invokevirtual 208, 3) := by decide +kernel
theorem dX9_ticksToHome_9 : decode cX9_ticksToHome 9 = .ok (.ireturn, 1) := by decide +kernel
theorem dX9_share_0 : decode cX9_share 0 = .ok (.iconst 0, 1) := by decide +kernel
theorem dX9_share_1 : decode cX9_share 1 = .ok (.istore_n 1, 1) := by decide +kernel
theorem dX9_share_2 : decode cX9_share 2 = .ok (.iconst 0, 1) := by decide +kernel
theorem dX9_share_3 : decode cX9_share 3 = .ok (.istore_n 2, 1) := by decide +kernel
theorem dX9_share_4 : decode cX9_share 4 = .ok (.iconst 0, 1) := by decide +kernel
theorem dX9_share_5 : decode cX9_share 5 = .ok (.istore_n 3, 1) := by decide +kernel
theorem dX9_share_6 : decode cX9_share 6 = .ok (.iload_n 3, 1) := by decide +kernel
theorem dX9_share_7 : decode cX9_share 7 = .ok (.aload_n 0, 1) := by decide +kernel
theorem dX9_share_8 : decode cX9_share 8 = .ok (.getfield 62, 3) := by decide +kernel
theorem dX9_share_11 : decode cX9_share 11 = .ok (.if_icmp .ge 76, 3) := by decide +kernel
theorem dX9_share_14 : decode cX9_share 14 = .ok (.aload_n 0, 1) := by decide +kernel
theorem dX9_share_15 : decode cX9_share 15 = .ok (.getfield 7, 3) := by decide +kernel
theorem dX9_share_18 : decode cX9_share 18 = .ok (.iload_n 3, 1) := by decide +kernel
theorem dX9_share_19 : decode cX9_share 19 = .ok (.iaload, 1) := by decide +kernel
theorem dX9_share_20 : decode cX9_share 20 = .ok (.iconst 1, 1) := by decide +kernel
theorem dX9_share_21 : decode cX9_share 21 = .ok (.if_icmp .ne 7, 3) := by decide +kernel
theorem dX9_share_24 : decode cX9_share 24 = .ok (.iconst 1, 1) := by decide +kernel
theorem dX9_share_25 : decode cX9_share 25 = .ok (.goto 4, 3) := by decide +kernel
theorem dX9_share_28 : decode cX9_share 28 = .ok (.iconst 0, 1) := by decide +kernel
theorem dX9_share_29 : decode cX9_share 29 = .ok (.istore 4, 2) := by decide +kernel
theorem dX9_share_31 : decode cX9_share 31 = .ok (.iload_n 1, 1) := by decide +kernel
theorem dX9_share_32 : decode cX9_share 32 = .ok (.iload 4, 2) := by decide +kernel
theorem dX9_share_34 : decode cX9_share 34 = .ok (.ifCond .eq 19, 3) := by decide +kernel
theorem dX9_share_37 : decode cX9_share 37 = .ok (.aload_n 0, 1) := by decide +kernel
theorem dX9_share_38 : decode cX9_share 38 = .ok (.getfield 25, 3) := by decide +kernel
theorem dX9_share_41 : decode cX9_share 41 = .ok (.iload_n 3, 1) := by decide +kernel
theorem dX9_share_42 : decode cX9_share 42 = .ok (.iaload, 1) := by decide +kernel
theorem dX9_share_43 : decode cX9_share 43 = .ok (.aload_n 0, 1) := by decide +kernel
theorem dX9_share_44 : decode cX9_share 44 = .ok (.getfield 16, 3) := by decide +kernel
theorem dX9_share_47 : decode cX9_share 47 = .ok (.iload_n 3, 1) := by decide +kernel
theorem dX9_share_48 : decode cX9_share 48 = .ok (.iaload, 1) := by decide +kernel
theorem dX9_share_49 : decode cX9_share 49 = .ok (.isub, 1) := by decide +kernel
theorem dX9_share_50 : decode cX9_share 50 = .ok (.goto 4, 3) := by decide +kernel
theorem dX9_share_53 : decode cX9_share 53 = .ok (.iconst 0, 1) := by decide +kernel
theorem dX9_share_54 : decode cX9_share 54 = .ok (.iadd, 1) := by decide +kernel
theorem dX9_share_55 : decode cX9_share 55 = .ok (.istore_n 1, 1) := by decide +kernel
theorem dX9_share_56 : decode cX9_share 56 = .ok (.iload_n 2, 1) := by decide +kernel
theorem dX9_share_57 : decode cX9_share 57 = .ok (.iload 4, 2) := by decide +kernel
theorem dX9_share_59 : decode cX9_share 59 = .ok (.ifCond .eq 19, 3) := by decide +kernel
theorem dX9_share_62 : decode cX9_share 62 = .ok (.aload_n 0, 1) := by decide +kernel
theorem dX9_share_63 : decode cX9_share 63 = .ok (.getfield 19, 3) := by decide +kernel
theorem dX9_share_66 : decode cX9_share 66 = .ok (.iload_n 3, 1) := by decide +kernel
theorem dX9_share_67 : decode cX9_share 67 = .ok (.iaload, 1) := by decide +kernel
theorem dX9_share_68 : decode cX9_share 68 = .ok (.aload_n 0, 1) := by decide +kernel
theorem dX9_share_69 : decode cX9_share 69 = .ok (.getfield 16, 3) := by decide +kernel
theorem dX9_share_72 : decode cX9_share 72 = .ok (.iload_n 3, 1) := by decide +kernel
theorem dX9_share_73 : decode cX9_share 73 = .ok (.iaload, 1) := by decide +kernel
theorem dX9_share_74 : decode cX9_share 74 = .ok (.isub, 1) := by decide +kernel
theorem dX9_share_75 : decode cX9_share 75 = .ok (.goto 4, 3) := by decide +kernel
theorem dX9_share_78 : decode cX9_share 78 = .ok (.iconst 0, 1) := by decide +kernel
theorem dX9_share_79 : decode cX9_share 79 = .ok (.iadd, 1) := by decide +kernel
theorem dX9_share_80 : decode cX9_share 80 = .ok (.istore_n 2, 1) := by decide +kernel
theorem dX9_share_81 : decode cX9_share 81 = .ok (.iinc 3 1, 3) := by decide +kernel
theorem dX9_share_84 : decode cX9_share 84 = .ok (.goto (-78), 3) := by decide +kernel
theorem dX9_share_87 : decode cX9_share 87 = .ok (.iload_n 2, 1) := by decide +kernel
theorem dX9_share_88 : decode cX9_share 88 = .ok (.ifCond .ne 7, 3) := by decide +kernel
theorem dX9_share_91 : decode cX9_share 91 = .ok (.dconst 0, 1) := by decide +kernel
theorem dX9_share_92 : decode cX9_share 92 = .ok (.goto 8, 3) := by decide +kernel
theorem dX9_share_95 : decode cX9_share 95 = .ok (.iload_n 1, 1) := by decide +kernel
theorem dX9_share_96 : decode cX9_share 96 = .ok (.i2d, 1) := by decide +kernel
theorem dX9_share_97 : decode cX9_share 97 = .ok (.iload_n 2, 1) := by decide +kernel
theorem dX9_share_98 : decode cX9_share 98 = .ok (.i2d, 1) := by decide +kernel
theorem dX9_share_99 : decode cX9_share 99 = .ok (.ddiv, 1) := by decide +kernel
theorem dX9_share_100 : decode cX9_share 100 = .ok (.dreturn, 1) := by decide +kernel
theorem dX9_fraction_0 : decode cX9_fraction 0 = .ok (.aload_n 0, 1) := by decide +kernel
theorem dX9_fraction_1 : decode cX9_fraction 1 = .ok (.iconst 0, 1) := by decide +kernel
theorem dX9_fraction_2 : decode cX9_fraction 2 = .ok (.putfield 66, 3) := by decide +kernel
theorem dX9_fraction_5 : decode cX9_fraction 5 = .ok (.aload_n 0, 1) := by decide +kernel
theorem dX9_fraction_6 : decode cX9_fraction 6 = .ok (.invokevirtual 211, 3) := by decide +kernel
theorem dX9_fraction_9 : decode cX9_fraction 9 = .ok (.dreturn, 1) := by decide +kernel
theorem dX9_append_0 : decode cX9_append 0 = .ok (.aload_n 0, 1) := by decide +kernel
theorem dX9_append_1 : decode cX9_append 1 = .ok (.iload_n 1, 1) := by decide +kernel
theorem dX9_append_2 : decode cX9_append 2 = .ok (.bipush 33, 2) := by decide +kernel
theorem dX9_append_4 : decode cX9_append 4 = .ok (.bipush 126, 2) := by decide +kernel
theorem dX9_append_6 : decode cX9_append 6 = .ok (.invokestatic 69, 3) := by decide +kernel
theorem dX9_append_9 : decode cX9_append 9 = .ok (.ifCond .ne 7, 3) := by decide +kernel
theorem dX9_append_12 : decode cX9_append 12 = .ok (.iconst 1, 1) := by decide +kernel
theorem dX9_append_13 : decode cX9_append 13 = .ok (.goto 17, 3) := by decide +kernel
theorem dX9_append_16 : decode cX9_append 16 = .ok (.aload_n 0, 1) := by decide +kernel
theorem dX9_append_17 : decode cX9_append 17 = .ok (.getfield 215, 3) := by decide +kernel
theorem dX9_append_20 : decode cX9_append 20 = .ok (.bipush 60, 2) := by decide +kernel
theorem dX9_append_22 : decode cX9_append 22 = .ok (.if_icmp .ne 7, 3) := by decide +kernel
theorem dX9_append_25 : decode cX9_append 25 = .ok (.iconst 2, 1) := by decide +kernel
theorem dX9_append_26 : decode cX9_append 26 = .ok (.goto 4, 3) := by decide +kernel
theorem dX9_append_29 : decode cX9_append 29 = .ok (.iconst 0, 1) := by decide +kernel
theorem dX9_append_30 : decode cX9_append 30 = .ok (.invokevirtual 109, 3) := by decide +kernel
theorem dX9_append_33 : decode cX9_append 33 = .ok (.ifCond .ne 5, 3) := by decide +kernel
theorem dX9_append_36 : decode cX9_append 36 = .ok (.iconst 0, 1) := by decide +kernel
theorem dX9_append_37 : decode cX9_append 37 = .ok (.ireturn, 1) := by decide +kernel
theorem dX9_append_38 : decode cX9_append 38 = .ok (.aload_n 0, 1) := by decide +kernel
theorem dX9_append_39 : decode cX9_append 39 = .ok (.getfield 56, 3) := by decide +kernel
theorem dX9_append_42 : decode cX9_append 42 = .ok (.aload_n 0, 1) := by decide +kernel
theorem dX9_append_43 : decode cX9_append 43 = .ok (.getfield 215, 3) := by decide +kernel
theorem dX9_append_46 : decode cX9_append 46 = .ok (.iload_n 1, 1) := by decide +kernel
theorem dX9_append_47 : decode cX9_append 47 = .ok (.iastore, 1) := by decide +kernel
theorem dX9_append_48 : decode cX9_append 48 = .ok (.aload_n 0, 1) := by decide +kernel
theorem dX9_append_49 : decode cX9_append 49 = .ok (.dup, 1) := by decide +kernel
theorem dX9_append_50 : decode cX9_append 50 = .ok (.getfield 215, 3) := by decide +kernel
theorem dX9_append_53 : decode cX9_append 53 = .ok (.iconst 1, 1) := by decide +kernel
theorem dX9_append_54 : decode cX9_append 54 = .ok (.iadd, 1) := by decide +kernel
theorem dX9_append_55 : decode cX9_append 55 = .ok (.putfield 215, 3) := by decide +kernel
theorem dX9_append_58 : decode cX9_append 58 = .ok (.aload_n 0, 1) := by decide +kernel
theorem dX9_append_59 : decode cX9_append 59 = .ok (.getfield 215, 3) := by decide +kernel
theorem dX9_append_62 : decode cX9_append 62 = .ok (.ireturn, 1) := by decide +kernel
theorem dX9_clearText_0 : decode cX9_clearText 0 = .ok (.aload_n 0, 1) := by decide +kernel
theorem dX9_clearText_1 : decode cX9_clearText 1 = .ok (.iconst 0, 1) := by decide +kernel
theorem dX9_clearText_2 : decode cX9_clearText 2 = .ok (.putfield 66, 3) := by decide +kernel
theorem dX9_clearText_5 : decode cX9_clearText 5 = .ok (.aload_n 0, 1) := by decide +kernel
theorem dX9_clearText_6 : decode cX9_clearText 6 = .ok (.getfield 215, 3) := by decide +kernel
theorem dX9_clearText_9 : decode cX9_clearText 9 = .ok (.istore_n 1, 1) := by decide +kernel
theorem dX9_clearText_10 : decode cX9_clearText 10 = .ok (.aload_n 0, 1) := by decide +kernel
theorem dX9_clearText_11 : decode cX9_clearText 11 = .ok (.iconst 0, 1) := by decide +kernel
theorem dX9_clearText_12 : decode cX9_clearText 12 = .ok (.putfield 215, 3) := by decide +kernel
theorem dX9_clearText_15 : decode cX9_clearText 15 = .ok (.iload_n 1, 1) := by decide +kernel
theorem dX9_clearText_16 : decode cX9_clearText 16 = .ok (.ireturn, 1) := by decide +kernel
theorem dX9_sign_0 : decode cX9_sign 0 = .ok (.aload_n 0, 1) := by decide +kernel
theorem dX9_sign_1 : decode cX9_sign 1 = .ok (.getfield 218, 3) := by decide +kernel
theorem dX9_sign_4 : decode cX9_sign 4 = .ok (.aload_n 0, 1) := by decide +kernel
theorem dX9_sign_5 : decode cX9_sign 5 = .ok (.getfield 215, 3) := by decide +kernel
theorem dX9_sign_8 : decode cX9_sign 8 = .ok (.if_icmp .ge 15, 3) := by decide +kernel
theorem dX9_sign_11 : decode cX9_sign 11 = .ok (.aload_n 0, 1) := by decide +kernel
theorem dX9_sign_12 : decode cX9_sign 12 = .ok (.getfield 56, 3) := by decide +kernel
theorem dX9_sign_15 : decode cX9_sign 15 = .ok (.aload_n 0, 1) := by decide +kernel
theorem dX9_sign_16 : decode cX9_sign 16 = .ok (.getfield 218, 3) := by decide +kernel
theorem dX9_sign_19 : decode cX9_sign 19 = .ok (.iaload, 1) := by decide +kernel
theorem dX9_sign_20 : decode cX9_sign 20 = .ok (.goto 4, 3) := by decide +kernel
theorem dX9_sign_23 : decode cX9_sign 23 = .ok (.iconst 0, 1) := by decide +kernel
theorem dX9_sign_24 : decode cX9_sign 24 = .ok (.ireturn, 1) := by decide +kernel
theorem dX9_readsNumber_0 : decode cX9_readsNumber 0 = .ok (.aload_n 0, 1) := by decide +kernel
theorem dX9_readsNumber_1 : decode cX9_readsNumber 1 = .ok (.invokevirtual 221, 3) := by decide +kernel
theorem dX9_readsNumber_4 : decode cX9_readsNumber 4 = .ok (.bipush 49, 2) := by decide +kernel
theorem dX9_readsNumber_6 : decode cX9_readsNumber 6 = .ok (.bipush 57, 2) := by decide +kernel
theorem dX9_readsNumber_8 : decode cX9_readsNumber 8 = .ok (.invokestatic 69, 3) := by decide +kernel
theorem dX9_readsNumber_11 : decode cX9_readsNumber 11 = .ok (.ifCond .ne 5, 3) := by decide +kernel
theorem dX9_readsNumber_14 : decode cX9_readsNumber 14 = .ok (.iconst 0, 1) := by decide +kernel
theorem dX9_readsNumber_15 : decode cX9_readsNumber 15 = .ok (.ireturn, 1) := by decide +kernel
theorem dX9_readsNumber_16 : decode cX9_readsNumber 16 = .ok (.aload_n 0, 1) := by decide +kernel
theorem dX9_readsNumber_17 : decode cX9_readsNumber 17 = .ok (.aload_n 0, 1) := by decide +kernel
theorem dX9_readsNumber_18 : decode cX9_readsNumber 18 = .ok (.invokevirtual 221, 3) := by decide +kernel
theorem dX9_readsNumber_21 : decode cX9_readsNumber 21 = .ok (.bipush 48, 2) := by decide +kernel
theorem dX9_readsNumber_23 : decode cX9_readsNumber 23 = .ok (.isub, 1) := by decide +kernel
theorem dX9_readsNumber_24 : decode cX9_readsNumber 24 = .ok (.putfield 224, 3) := by decide +kernel
theorem dX9_readsNumber_27 : decode cX9_readsNumber 27 = .ok (.aload_n 0, 1) := by decide +kernel
theorem dX9_readsNumber_28 : decode cX9_readsNumber 28 = .ok (.dup, 1) := by decide +kernel
theorem dX9_readsNumber_29 : decode cX9_readsNumber 29 = .ok (.getfield 218, 3) := by decide +kernel
theorem dX9_readsNumber_32 : decode cX9_readsNumber 32 = .ok (.iconst 1, 1) := by decide +kernel
theorem dX9_readsNumber_33 : decode cX9_readsNumber 33 = .ok (.iadd, 1) := by decide +kernel
theorem dX9_readsNumber_34 : decode cX9_readsNumber 34 = .ok (.putfield 218, 3) := by decide +kernel
theorem dX9_readsNumber_37 : decode cX9_readsNumber 37 = .ok (.aload_n 0, 1) := by decide +kernel
theorem dX9_readsNumber_38 : decode cX9_readsNumber 38 = .ok (.invokevirtual 221, 3) := by decide +kernel
theorem dX9_readsNumber_41 : decode cX9_readsNumber 41 = .ok (.bipush 48, 2) := by decide +kernel
theorem dX9_readsNumber_43 : decode cX9_readsNumber 43 = .ok (.bipush 57, 2) := by decide +kernel
theorem dX9_readsNumber_45 : decode cX9_readsNumber 45 = .ok (.invokestatic 69, 3) := by decide +kernel
theorem dX9_readsNumber_48 : decode cX9_readsNumber 48 = .ok (.ifCond .eq 51, 3) := by decide +kernel
theorem dX9_readsNumber_51 : decode cX9_readsNumber 51 = .ok (.bipush 10, 2) := by decide +kernel
theorem dX9_readsNumber_53 : decode cX9_readsNumber 53 = .ok (.aload_n 0, 1) := by decide +kernel
theorem dX9_readsNumber_54 : decode cX9_readsNumber 54 = .ok (.getfield 224, 3) := by decide +kernel
theorem dX9_readsNumber_57 : decode cX9_readsNumber 57 = .ok (.imul, 1) := by decide +kernel
theorem dX9_readsNumber_58 : decode cX9_readsNumber 58 = .ok (.aload_n 0, 1) := by decide +kernel
theorem dX9_readsNumber_59 : decode cX9_readsNumber 59 = .ok (.invokevirtual 221, 3) := by decide +kernel
theorem dX9_readsNumber_62 : decode cX9_readsNumber 62 = .ok (.iadd, 1) := by decide +kernel
theorem dX9_readsNumber_63 : decode cX9_readsNumber 63 = .ok (.bipush 48, 2) := by decide +kernel
theorem dX9_readsNumber_65 : decode cX9_readsNumber 65 = .ok (.isub, 1) := by decide +kernel
theorem dX9_readsNumber_66 : decode cX9_readsNumber 66 = .ok (.iload_n 1, 1) := by decide +kernel
theorem dX9_readsNumber_67 : decode cX9_readsNumber 67 = .ok (.if_icmp .gt 32, 3) := by decide +kernel
theorem dX9_readsNumber_70 : decode cX9_readsNumber 70 = .ok (.aload_n 0, 1) := by decide +kernel
theorem dX9_readsNumber_71 : decode cX9_readsNumber 71 = .ok (.bipush 10, 2) := by decide +kernel
theorem dX9_readsNumber_73 : decode cX9_readsNumber 73 = .ok (.aload_n 0, 1) := by decide +kernel
theorem dX9_readsNumber_74 : decode cX9_readsNumber 74 = .ok (.getfield 224, 3) := by decide +kernel
theorem dX9_readsNumber_77 : decode cX9_readsNumber 77 = .ok (.imul, 1) := by decide +kernel
theorem dX9_readsNumber_78 : decode cX9_readsNumber 78 = .ok (.aload_n 0, 1) := by decide +kernel
theorem dX9_readsNumber_79 : decode cX9_readsNumber 79 = .ok (.invokevirtual 221, 3) := by decide +kernel
theorem dX9_readsNumber_82 : decode cX9_readsNumber 82 = .ok (.iadd, 1) := by decide +kernel
theorem dX9_readsNumber_83 : decode cX9_readsNumber 83 = .ok (.bipush 48, 2) := by decide +kernel
theorem dX9_readsNumber_85 : decode cX9_readsNumber 85 = .ok (.isub, 1) := by decide +kernel
theorem dX9_readsNumber_86 : decode cX9_readsNumber 86 = .ok (.putfield 224, 3) := by decide +kernel
theorem dX9_readsNumber_89 : decode cX9_readsNumber 89 = .ok (.aload_n 0, 1) := by decide +kernel
theorem dX9_readsNumber_90 : decode cX9_readsNumber 90 = .ok (.dup, 1) := by decide +kernel
theorem dX9_readsNumber_91 : decode cX9_readsNumber 91 = .ok (.getfield 218, 3) := by decide +kernel
theorem dX9_readsNumber_94 : decode cX9_readsNumber 94 = .ok (.iconst 1, 1) := by decide +kernel
theorem dX9_readsNumber_95 : decode cX9_readsNumber 95 = .ok (.iadd, 1) := by decide +kernel
theorem dX9_readsNumber_96 : decode cX9_readsNumber 96 = .ok (.putfield 218, 3) := by decide +kernel
theorem dX9_readsNumber_99 : decode cX9_readsNumber 99 = .ok (.iconst 1, 1) := by decide +kernel
theorem dX9_readsNumber_100 : decode cX9_readsNumber 100 = .ok (.ireturn, 1) := by decide +kernel
theorem dX9_readsAction_0 : decode cX9_readsAction 0 = .ok (.aload_n 0, 1) := by decide +kernel
theorem dX9_readsAction_1 : decode cX9_readsAction 1 = .ok (.aload_n 0, 1) := by decide +kernel
theorem dX9_readsAction_2 : decode cX9_readsAction 2 = .ok (.invokevirtual 221, 3) := by decide +kernel
theorem dX9_readsAction_5 : decode cX9_readsAction 5 = .ok (.putfield 227, 3) := by decide +kernel
theorem dX9_readsAction_8 : decode cX9_readsAction 8 = .ok (.aload_n 0, 1) := by decide +kernel
theorem dX9_readsAction_9 : decode cX9_readsAction 9 = .ok (.getfield 227, 3) := by decide +kernel
theorem dX9_readsAction_12 : decode cX9_readsAction 12 = .ok (.bipush 112, 2) := by decide +kernel
theorem dX9_readsAction_14 : decode cX9_readsAction 14 = .ok (.if_icmp .eq 12, 3) := by decide +kernel
theorem dX9_readsAction_17 : decode cX9_readsAction 17 = .ok (.aload_n 0, 1) := by decide +kernel
theorem dX9_readsAction_18 : decode cX9_readsAction 18 = .ok (.getfield 227, 3) := by decide +kernel
theorem dX9_readsAction_21 : decode cX9_readsAction 21 = .ok (.bipush 104, 2) := by decide +kernel
theorem dX9_readsAction_23 : decode cX9_readsAction 23 = .ok (.if_icmp .ne 7, 3) := by decide +kernel
theorem dX9_readsAction_26 : decode cX9_readsAction 26 = .ok (.iconst 1, 1) := by decide +kernel
theorem dX9_readsAction_27 : decode cX9_readsAction 27 = .ok (.goto 4, 3) := by decide +kernel
theorem dX9_readsAction_30 : decode cX9_readsAction 30 = .ok (.iconst 0, 1) := by decide +kernel
theorem dX9_readsAction_31 : decode cX9_readsAction 31 = .ok (.istore_n 1, 1) := by decide +kernel
theorem dX9_readsAction_32 : decode cX9_readsAction 32 = .ok (.aload_n 0, 1) := by decide +kernel
theorem dX9_readsAction_33 : decode cX9_readsAction 33 = .ok (.getfield 227, 3) := by decide +kernel
theorem dX9_readsAction_36 : decode cX9_readsAction 36 = .ok (.bipush 114, 2) := by decide +kernel
theorem dX9_readsAction_38 : decode cX9_readsAction 38 = .ok (.if_icmp .eq 21, 3) := by decide +kernel
theorem dX9_readsAction_41 : decode cX9_readsAction 41 = .ok (.aload_n 0, 1) := by decide +kernel
theorem dX9_readsAction_42 : decode cX9_readsAction 42 = .ok (.getfield 227, 3) := by decide +kernel
theorem dX9_readsAction_45 : decode cX9_readsAction 45 = .ok (.bipush 108, 2) := by decide +kernel
theorem dX9_readsAction_47 : decode cX9_readsAction 47 = .ok (.if_icmp .eq 12, 3) := by decide +kernel
theorem dX9_readsAction_50 : decode cX9_readsAction 50 = .ok (.aload_n 0, 1) := by decide +kernel
theorem dX9_readsAction_51 : decode cX9_readsAction 51 = .ok (.getfield 227, 3) := by decide +kernel
theorem dX9_readsAction_54 : decode cX9_readsAction 54 = .ok (.bipush 116, 2) := by decide +kernel
theorem dX9_readsAction_56 : decode cX9_readsAction 56 = .ok (.if_icmp .ne 7, 3) := by decide +kernel
theorem dX9_readsAction_59 : decode cX9_readsAction 59 = .ok (.iconst 1, 1) := by decide +kernel
theorem dX9_readsAction_60 : decode cX9_readsAction 60 = .ok (.goto 4, 3) := by decide +kernel
theorem dX9_readsAction_63 : decode cX9_readsAction 63 = .ok (.iconst 0, 1) := by decide +kernel
theorem dX9_readsAction_64 : decode cX9_readsAction 64 = .ok (.istore_n 2, 1) := by decide +kernel
theorem dX9_readsAction_65 : decode cX9_readsAction 65 = .ok (.aload_n 0, 1) := by decide +kernel
theorem dX9_readsAction_66 : decode cX9_readsAction 66 = .ok (.dup, 1) := by decide +kernel
theorem dX9_readsAction_67 : decode cX9_readsAction 67 = .ok (.getfield 218, 3) := by decide +kernel
theorem dX9_readsAction_70 : decode cX9_readsAction 70 = .ok (.iload_n 1, 1) := by decide +kernel
theorem dX9_readsAction_71 : decode cX9_readsAction 71 = .ok (.ifCond .ne 7, 3) := by decide +kernel
theorem dX9_readsAction_74 : decode cX9_readsAction 74 = .ok (.iload_n 2, 1) := by decide +kernel
theorem dX9_readsAction_75 : decode cX9_readsAction 75 = .ok (.ifCond .eq 7, 3) := by decide +kernel
theorem dX9_readsAction_78 : decode cX9_readsAction 78 = .ok (.iconst 1, 1) := by decide +kernel
theorem dX9_readsAction_79 : decode cX9_readsAction 79 = .ok (.goto 4, 3) := by decide +kernel
theorem dX9_readsAction_82 : decode cX9_readsAction 82 = .ok (.iconst 0, 1) := by decide +kernel
theorem dX9_readsAction_83 : decode cX9_readsAction 83 = .ok (.iadd, 1) := by decide +kernel
theorem dX9_readsAction_84 : decode cX9_readsAction 84 = .ok (.putfield 218, 3) := by decide +kernel
theorem dX9_readsAction_87 : decode cX9_readsAction 87 = .ok (.iload_n 1, 1) := by decide +kernel
theorem dX9_readsAction_88 : decode cX9_readsAction 88 = .ok (.ifCond .ne 30, 3) := by decide +kernel
theorem dX9_readsAction_91 : decode cX9_readsAction 91 = .ok (.iload_n 2, 1) := by decide +kernel
theorem dX9_readsAction_92 : decode cX9_readsAction 92 = .ok (.ifCond .eq 30, 3) := by decide +kernel
theorem dX9_readsAction_95 : decode cX9_readsAction 95 = .ok (.aload_n 0, 1) := by decide +kernel
theorem dX9_readsAction_96 : decode cX9_readsAction 96 = .ok (.aload_n 0, 1) := by decide +kernel
theorem dX9_readsAction_97 : decode cX9_readsAction 97 = .ok (.getfield 227, 3) := by decide +kernel
theorem dX9_readsAction_100 : decode cX9_readsAction 100 = .ok (.bipush 116, 2) := by decide +kernel
theorem dX9_readsAction_102 : decode cX9_readsAction 102 = .ok (.if_icmp .ne 8, 3) := by decide +kernel
theorem dX9_readsAction_105 : decode cX9_readsAction 105 = .ok (.bipush 99, 2) := by decide +kernel
theorem dX9_readsAction_107 : decode cX9_readsAction 107 = .ok (.goto 5, 3) := by decide +kernel
theorem dX9_readsAction_110 : decode cX9_readsAction 110 = .ok (.bipush 50, 2) := by decide +kernel
theorem dX9_readsAction_112 : decode cX9_readsAction 112 = .ok (.invokevirtual 230, 3) := by decide +kernel
theorem dX9_readsAction_115 : decode cX9_readsAction 115 = .ok (.ifCond .eq 7, 3) := by decide +kernel
theorem dX9_readsAction_118 : decode cX9_readsAction 118 = .ok (.iconst 1, 1) := by decide +kernel
theorem dX9_readsAction_119 : decode cX9_readsAction 119 = .ok (.goto 4, 3) := by decide +kernel
theorem dX9_readsAction_122 : decode cX9_readsAction 122 = .ok (.iconst 0, 1) := by decide +kernel
theorem dX9_readsAction_123 : decode cX9_readsAction 123 = .ok (.ireturn, 1) := by decide +kernel
theorem dX9_isComplete_0 : decode cX9_isComplete 0 = .ok (.aload_n 0, 1) := by decide +kernel
theorem dX9_isComplete_1 : decode cX9_isComplete 1 = .ok (.iconst 0, 1) := by decide +kernel
theorem dX9_isComplete_2 : decode cX9_isComplete 2 = .ok (.putfield 218, 3) := by decide +kernel
theorem dX9_isComplete_5 : decode cX9_isComplete 5 = .ok (.aload_n 0, 1) := by decide +kernel
theorem dX9_isComplete_6 : decode cX9_isComplete 6 = .ok (.invokevirtual 233, 3) := by decide +kernel
theorem dX9_isComplete_9 : decode cX9_isComplete 9 = .ok (.ifCond .eq 40, 3) := by decide +kernel
theorem dX9_isComplete_12 : decode cX9_isComplete 12 = .ok (.aload_n 0, 1) := by decide +kernel
theorem dX9_isComplete_13 : decode cX9_isComplete 13 = .ok (.getfield 218, 3) := by decide +kernel
theorem dX9_isComplete_16 : decode cX9_isComplete 16 = .ok (.aload_n 0, 1) := by decide +kernel
theorem dX9_isComplete_17 : decode cX9_isComplete 17 = .ok (.getfield 215, 3) := by decide +kernel
theorem dX9_isComplete_20 : decode cX9_isComplete 20 = .ok (.if_icmp .ne 5, 3) := by decide +kernel
theorem dX9_isComplete_23 : decode cX9_isComplete 23 = .ok (.iconst 1, 1) := by decide +kernel
theorem dX9_isComplete_24 : decode cX9_isComplete 24 = .ok (.ireturn, 1) := by decide +kernel
theorem dX9_isComplete_25 : decode cX9_isComplete 25 = .ok (.aload_n 0, 1) := by decide +kernel
theorem dX9_isComplete_26 : decode cX9_isComplete 26 = .ok (.invokevirtual 221, 3) := by decide +kernel
theorem dX9_isComplete_29 : decode cX9_isComplete 29 = .ok (.bipush 44, 2) := by decide +kernel
theorem dX9_isComplete_31 : decode cX9_isComplete 31 = .ok (.if_icmp .eq 5, 3) := by decide +kernel
theorem dX9_isComplete_34 : decode cX9_isComplete 34 = .ok (.iconst 0, 1) := by decide +kernel
theorem dX9_isComplete_35 : decode cX9_isComplete 35 = .ok (.ireturn, 1) := by decide +kernel
theorem dX9_isComplete_36 : decode cX9_isComplete 36 = .ok (.aload_n 0, 1) := by decide +kernel
theorem dX9_isComplete_37 : decode cX9_isComplete 37 = .ok (.dup, 1) := by decide +kernel
theorem dX9_isComplete_38 : decode cX9_isComplete 38 = .ok (.getfield 218, 3) := by decide +kernel
theorem dX9_isComplete_41 : decode cX9_isComplete 41 = .ok (.iconst 1, 1) := by decide +kernel
theorem dX9_isComplete_42 : decode cX9_isComplete 42 = .ok (.iadd, 1) := by decide +kernel
theorem dX9_isComplete_43 : decode cX9_isComplete 43 = .ok (.putfield 218, 3) := by decide +kernel
theorem dX9_isComplete_46 : decode cX9_isComplete 46 = .ok (.goto (-41), 3) := by decide +kernel
theorem dX9_isComplete_49 : decode cX9_isComplete 49 = .ok (.iconst 0, 1) := by decide +kernel
theorem dX9_isComplete_50 : decode cX9_isComplete 50 = .ok (.ireturn, 1) := by decide +kernel
theorem dX9_firstError_0 : decode cX9_firstError 0 = .ok (.aload_n 0, 1) := by decide +kernel
theorem dX9_firstError_1 : decode cX9_firstError 1 = .ok (.iconst 0, 1) := by decide +kernel
theorem dX9_firstError_2 : decode cX9_firstError 2 = .ok (.putfield 66, 3) := by decide +kernel
theorem dX9_firstError_5 : decode cX9_firstError 5 = .ok (.aload_n 0, 1) := by decide +kernel
theorem dX9_firstError_6 : decode cX9_firstError 6 = .ok (.invokevirtual 236, 3) := by decide +kernel
theorem dX9_firstError_9 : decode cX9_firstError 9 = .ok (.pop, 1) := by decide +kernel
theorem dX9_firstError_10 : decode cX9_firstError 10 = .ok (.aload_n 0, 1) := by decide +kernel
theorem dX9_firstError_11 : decode cX9_firstError 11 = .ok (.getfield 218, 3) := by decide +kernel
theorem dX9_firstError_14 : decode cX9_firstError 14 = .ok (.ireturn, 1) := by decide +kernel
theorem dX9_does_0 : decode cX9_does 0 = .ok (.aload_n 0, 1) := by decide +kernel
theorem dX9_does_1 : decode cX9_does 1 = .ok (.getfield 227, 3) := by decide +kernel
theorem dX9_does_4 : decode cX9_does 4 = .ok (.lookupswitch 59 #[(104, 41), (112, 36), (116, 48)], 36) := by decide +kernel
theorem dX9_does_40 : decode cX9_does 40 = .ok (.aload_n 0, 1) := by decide +kernel
theorem dX9_does_41 : decode cX9_does 41 = .ok (.invokevirtual 167, 3) := by decide +kernel
theorem dX9_does_44 : decode cX9_does 44 = .ok (.ireturn, 1) := by decide +kernel
theorem dX9_does_45 : decode cX9_does 45 = .ok (.aload_n 0, 1) := by decide +kernel
theorem dX9_does_46 : decode cX9_does 46 = .ok (.invokevirtual 173, 3) := by decide +kernel
theorem dX9_does_49 : decode cX9_does 49 = .ok (.pop, 1) := by decide +kernel
theorem dX9_does_50 : decode cX9_does 50 = .ok (.iconst 0, 1) := by decide +kernel
theorem dX9_does_51 : decode cX9_does 51 = .ok (.ireturn, 1) := by decide +kernel
theorem dX9_does_52 : decode cX9_does 52 = .ok (.aload_n 0, 1) := by decide +kernel
theorem dX9_does_53 : decode cX9_does 53 = .ok (.aload_n 0, 1) := by decide +kernel
theorem dX9_does_54 : decode cX9_does 54 = .ok (.getfield 224, 3) := by decide +kernel
theorem dX9_does_57 : decode cX9_does 57 = .ok (.invokevirtual 176, 3) := by decide +kernel
theorem dX9_does_60 : decode cX9_does 60 = .ok (.pop, 1) := by decide +kernel
theorem dX9_does_61 : decode cX9_does 61 = .ok (.iconst 0, 1) := by decide +kernel
theorem dX9_does_62 : decode cX9_does 62 = .ok (.ireturn, 1) := by decide +kernel
theorem dX9_does_63 : decode cX9_does 63 = .ok (.aload_n 0, 1) := by decide +kernel
theorem dX9_does_64 : decode cX9_does 64 = .ok (.aload_n 0, 1) := by decide +kernel
theorem dX9_does_65 : decode cX9_does 65 = .ok (.getfield 227, 3) := by decide +kernel
theorem dX9_does_68 : decode cX9_does 68 = .ok (.bipush 114, 2) := by decide +kernel
theorem dX9_does_70 : decode cX9_does 70 = .ok (.if_icmp .ne 10, 3) := by decide +kernel
theorem dX9_does_73 : decode cX9_does 73 = .ok (.aload_n 0, 1) := by decide +kernel
theorem dX9_does_74 : decode cX9_does 74 = .ok (.getfield 224, 3) := by decide +kernel
theorem dX9_does_77 : decode cX9_does 77 = .ok (.goto 8, 3) := by decide +kernel
theorem dX9_does_80 : decode cX9_does 80 = .ok (.aload_n 0, 1) := by decide +kernel
theorem dX9_does_81 : decode cX9_does 81 = .ok (.getfield 224, 3) := by decide +kernel
theorem dX9_does_84 : decode cX9_does 84 = .ok (.ineg, 1) := by decide +kernel
theorem dX9_does_85 : decode cX9_does 85 = .ok (.invokevirtual 144, 3) := by decide +kernel
theorem dX9_does_88 : decode cX9_does 88 = .ok (.pop, 1) := by decide +kernel
theorem dX9_does_89 : decode cX9_does 89 = .ok (.iconst 0, 1) := by decide +kernel
theorem dX9_does_90 : decode cX9_does 90 = .ok (.ireturn, 1) := by decide +kernel
theorem dX9_run_0 : decode cX9_run 0 = .ok (.aload_n 0, 1) := by decide +kernel
theorem dX9_run_1 : decode cX9_run 1 = .ok (.aload_n 0, 1) := by decide +kernel
theorem dX9_run_2 : decode cX9_run 2 = .ok (.invokevirtual 236, 3) := by decide +kernel
theorem dX9_run_5 : decode cX9_run 5 = .ok (.ifCond .eq 7, 3) := by decide +kernel
theorem dX9_run_8 : decode cX9_run 8 = .ok (.iconst 0, 1) := by decide +kernel
theorem dX9_run_9 : decode cX9_run 9 = .ok (.goto 4, 3) := by decide +kernel
theorem dX9_run_12 : decode cX9_run 12 = .ok (.iconst 1, 1) := by decide +kernel
theorem dX9_run_13 : decode cX9_run 13 = .ok (.invokevirtual 109, 3) := by decide +kernel
theorem dX9_run_16 : decode cX9_run 16 = .ok (.ifCond .ne 5, 3) := by decide +kernel
theorem dX9_run_19 : decode cX9_run 19 = .ok (.iconst 0, 1) := by decide +kernel
theorem dX9_run_20 : decode cX9_run 20 = .ok (.ireturn, 1) := by decide +kernel
theorem dX9_run_21 : decode cX9_run 21 = .ok (.aload_n 0, 1) := by decide +kernel
theorem dX9_run_22 : decode cX9_run 22 = .ok (.iconst 0, 1) := by decide +kernel
theorem dX9_run_23 : decode cX9_run 23 = .ok (.putfield 218, 3) := by decide +kernel
theorem dX9_run_26 : decode cX9_run 26 = .ok (.iconst 0, 1) := by decide +kernel
theorem dX9_run_27 : decode cX9_run 27 = .ok (.istore_n 1, 1) := by decide +kernel
theorem dX9_run_28 : decode cX9_run 28 = .ok (.aload_n 0, 1) := by decide +kernel
theorem dX9_run_29 : decode cX9_run 29 = .ok (.invokevirtual 233, 3) := by decide +kernel
theorem dX9_run_32 : decode cX9_run 32 = .ok (.ifCond .eq 23, 3) := by decide +kernel
theorem dX9_run_35 : decode cX9_run 35 = .ok (.iload_n 1, 1) := by decide +kernel
theorem dX9_run_36 : decode cX9_run 36 = .ok (.aload_n 0, 1) := by decide +kernel
theorem dX9_run_37 : decode cX9_run 37 = .ok (.invokevirtual 239, 3) := by decide +kernel
theorem dX9_run_40 : decode cX9_run 40 = .ok (.iadd, 1) := by decide +kernel
theorem dX9_run_41 : decode cX9_run 41 = .ok (.istore_n 1, 1) := by decide +kernel
theorem dX9_run_42 : decode cX9_run 42 = .ok (.aload_n 0, 1) := by decide +kernel
theorem dX9_run_43 : decode cX9_run 43 = .ok (.dup, 1) := by decide +kernel
theorem dX9_run_44 : decode cX9_run 44 = .ok (.getfield 218, 3) := by decide +kernel
theorem dX9_run_47 : decode cX9_run 47 = .ok (.iconst 1, 1) := by decide +kernel
theorem dX9_run_48 : decode cX9_run 48 = .ok (.iadd, 1) := by decide +kernel
theorem dX9_run_49 : decode cX9_run 49 = .ok (.putfield 218, 3) := by decide +kernel
theorem dX9_run_52 : decode cX9_run 52 = .ok (.goto (-24), 3) := by decide +kernel
theorem dX9_run_55 : decode cX9_run 55 = .ok (.aload_n 0, 1) := by decide +kernel
theorem dX9_run_56 : decode cX9_run 56 = .ok (.iconst 0, 1) := by decide +kernel
theorem dX9_run_57 : decode cX9_run 57 = .ok (.putfield 215, 3) := by decide +kernel
theorem dX9_run_60 : decode cX9_run 60 = .ok (.iload_n 1, 1) := by decide +kernel
theorem dX9_run_61 : decode cX9_run 61 = .ok (.ireturn, 1) := by decide +kernel
theorem dX9_mix_0 : decode cX9_mix 0 = .ok (.aload_n 0, 1) := by decide +kernel
theorem dX9_mix_1 : decode cX9_mix 1 = .ok (.ldc2_w 242, 3) := by decide +kernel
theorem dX9_mix_4 : decode cX9_mix 4 = .ok (.aload_n 0, 1) := by decide +kernel
theorem dX9_mix_5 : decode cX9_mix 5 = .ok (.getfield 244, 3) := by decide +kernel
theorem dX9_mix_8 : decode cX9_mix 8 = .ok (.lmul, 1) := by decide +kernel
theorem dX9_mix_9 : decode cX9_mix 9 = .ok (.lload_n 1, 1) := by decide +kernel
theorem dX9_mix_10 : decode cX9_mix 10 = .ok (.ladd, 1) := by decide +kernel
theorem dX9_mix_11 : decode cX9_mix 11 = .ok (.putfield 244, 3) := by decide +kernel
theorem dX9_mix_14 : decode cX9_mix 14 = .ok (.return_, 1) := by decide +kernel
theorem dX9_bits_0 : decode cX9_bits 0 = .ok (.fload_n 0, 1) := by decide +kernel
theorem dX9_bits_1 : decode cX9_bits 1 = .ok (.fconst 0, 1) := by decide +kernel
theorem dX9_bits_2 : decode cX9_bits 2 = .ok (.fcmp .l, 1) := by decide +kernel
theorem dX9_bits_3 : decode cX9_bits 3 = .ok (.ifCond .ne 5, 3) := by decide +kernel
theorem dX9_bits_6 : decode cX9_bits 6 = .ok (.iconst 0, 1) := by decide +kernel
theorem dX9_bits_7 : decode cX9_bits 7 = .ok (.ireturn, 1) := by decide +kernel
theorem dX9_bits_8 : decode cX9_bits 8 = .ok (.fload_n 0, 1) := by decide +kernel
theorem dX9_bits_9 : decode cX9_bits 9 = .ok (.fstore_n 1, 1) := by decide +kernel
theorem dX9_bits_10 : decode cX9_bits 10 = .ok (.bipush 127, 2) := by decide +kernel
theorem dX9_bits_12 : decode cX9_bits 12 = .ok (.istore_n 2, 1) := by decide +kernel
theorem dX9_bits_13 : decode cX9_bits 13 = .ok (.fload_n 1, 1) := by decide +kernel
theorem dX9_bits_14 : decode cX9_bits 14 = .ok (.fconst 1, 1) := by decide +kernel
theorem dX9_bits_15 : decode cX9_bits 15 = .ok (.fcmp .g, 1) := by decide +kernel
theorem dX9_bits_16 : decode cX9_bits 16 = .ok (.ifCond .ge 13, 3) := by decide +kernel
theorem dX9_bits_19 : decode cX9_bits 19 = .ok (.fload_n 1, 1) := by decide +kernel
theorem dX9_bits_20 : decode cX9_bits 20 = .ok (.fconst 2, 1) := by decide +kernel
theorem dX9_bits_21 : decode cX9_bits 21 = .ok (.fmul, 1) := by decide +kernel
theorem dX9_bits_22 : decode cX9_bits 22 = .ok (.fstore_n 1, 1) := by decide +kernel
theorem dX9_bits_23 : decode cX9_bits 23 = .ok (.iinc 2 (-1), 3) := by decide +kernel
theorem dX9_bits_26 : decode cX9_bits 26 = .ok (.goto (-13), 3) := by decide +kernel
theorem dX9_bits_29 : decode cX9_bits 29 = .ok (.iload_n 2, 1) := by decide +kernel
theorem dX9_bits_30 : decode cX9_bits 30 = .ok (.ldc 248, 2) := by decide +kernel
theorem dX9_bits_32 : decode cX9_bits 32 = .ok (.imul, 1) := by decide +kernel
theorem dX9_bits_33 : decode cX9_bits 33 = .ok (.fload_n 1, 1) := by decide +kernel
theorem dX9_bits_34 : decode cX9_bits 34 = .ok (.fconst 1, 1) := by decide +kernel
theorem dX9_bits_35 : decode cX9_bits 35 = .ok (.fsub, 1) := by decide +kernel
theorem dX9_bits_36 : decode cX9_bits 36 = .ok (.ldc 249, 2) := by decide +kernel
theorem dX9_bits_38 : decode cX9_bits 38 = .ok (.fmul, 1) := by decide +kernel
theorem dX9_bits_39 : decode cX9_bits 39 = .ok (.f2i, 1) := by decide +kernel
theorem dX9_bits_40 : decode cX9_bits 40 = .ok (.iadd, 1) := by decide +kernel
theorem dX9_bits_41 : decode cX9_bits 41 = .ok (.ireturn, 1) := by decide +kernel
theorem dX9_digest_0 : decode cX9_digest 0 = .ok (.aload_n 0, 1) := by decide +kernel
theorem dX9_digest_1 : decode cX9_digest 1 = .ok (.iconst 0, 1) := by decide +kernel
theorem dX9_digest_2 : decode cX9_digest 2 = .ok (.putfield 66, 3) := by decide +kernel
theorem dX9_digest_5 : decode cX9_digest 5 = .ok (.aload_n 0, 1) := by decide +kernel
theorem dX9_digest_6 : decode cX9_digest 6 = .ok (.ldc2_w 250, 3) := by decide +kernel
theorem dX9_digest_9 : decode cX9_digest 9 = .ok (.putfield 244, 3) := by decide +kernel
theorem dX9_digest_12 : decode cX9_digest 12 = .ok (.aload_n 0, 1) := by decide +kernel
theorem dX9_digest_13 : decode cX9_digest 13 = .ok (.aload_n 0, 1) := by decide +kernel
theorem dX9_digest_14 : decode cX9_digest 14 = .ok (.getfield 62, 3) := by decide +kernel
theorem dX9_digest_17 : decode cX9_digest 17 = .ok (.i2l, 1) := by decide +kernel
theorem dX9_digest_18 : decode cX9_digest 18 = .ok (.invokevirtual 252, 3) := by decide +kernel
theorem dX9_digest_21 : decode cX9_digest 21 = .ok (.aload_n 0, 1) := by decide +kernel
theorem dX9_digest_22 : decode cX9_digest 22 = .ok (.aload_n 0, 1) := by decide +kernel
theorem dX9_digest_23 : decode cX9_digest 23 = .ok (.getfield 83, 3) := by decide +kernel
theorem dX9_digest_26 : decode cX9_digest 26 = .ok (.i2l, 1) := by decide +kernel
theorem dX9_digest_27 : decode cX9_digest 27 = .ok (.invokevirtual 252, 3) := by decide +kernel
theorem dX9_digest_30 : decode cX9_digest 30 = .ok (.aload_n 0, 1) := by decide +kernel
theorem dX9_digest_31 : decode cX9_digest 31 = .ok (.aload_n 0, 1) := by decide +kernel
theorem dX9_digest_32 : decode cX9_digest 32 = .ok (.getfield 77, 3) := by decide +kernel
theorem dX9_digest_35 : decode cX9_digest 35 = .ok (.i2l, 1) := by decide +kernel
theorem dX9_digest_36 : decode cX9_digest 36 = .ok (.invokevirtual 252, 3) := by decide +kernel
theorem dX9_digest_39 : decode cX9_digest 39 = .ok (.aload_n 0, 1) := by decide +kernel
theorem dX9_digest_40 : decode cX9_digest 40 = .ok (.aload_n 0, 1) := by decide +kernel
theorem dX9_digest_41 : decode cX9_digest 41 = .ok (.getfield 86, 3) := by decide +kernel
theorem dX9_digest_44 : decode cX9_digest 44 = .ok (.i2l, 1) := by decide +kernel
theorem dX9_digest_45 : decode cX9_digest 45 = .ok (.invokevirtual 252, 3) := by decide +kernel
theorem dX9_digest_48 : decode cX9_digest 48 = .ok (.aload_n 0, 1) := by decide +kernel
theorem dX9_digest_49 : decode cX9_digest 49 = .ok (.aload_n 0, 1) := by decide +kernel
theorem dX9_digest_50 : decode cX9_digest 50 = .ok (.aload_n 0, 1) := by decide +kernel
theorem dX9_digest_51 : decode cX9_digest 51 = .ok (.getfield 86, 3) := by decide +kernel
theorem dX9_digest_54 : decode cX9_digest 54 = .ok (.invokevirtual 125, 3) := by decide +kernel
theorem dX9_digest_57 : decode cX9_digest 57 = .ok (.i2l, 1) := by decide +kernel
theorem dX9_digest_58 : decode cX9_digest 58 = .ok (.invokevirtual 252, 3) := by decide +kernel
theorem dX9_digest_61 : decode cX9_digest 61 = .ok (.aload_n 0, 1) := by decide +kernel
theorem dX9_digest_62 : decode cX9_digest 62 = .ok (.aload_n 0, 1) := by decide +kernel
theorem dX9_digest_63 : decode cX9_digest 63 = .ok (.invokevirtual 179, 3) := by decide +kernel
theorem dX9_digest_66 : decode cX9_digest 66 = .ok (.i2l, 1) := by decide +kernel
theorem dX9_digest_67 : decode cX9_digest 67 = .ok (.invokevirtual 252, 3) := by decide +kernel
theorem dX9_digest_70 : decode cX9_digest 70 = .ok (.aload_n 0, 1) := by decide +kernel
theorem dX9_digest_71 : decode cX9_digest 71 = .ok (.aload_n 0, 1) := by decide +kernel
theorem dX9_digest_72 : decode cX9_digest 72 = .ok (.getfield 141, 3) := by decide +kernel
theorem dX9_digest_75 : decode cX9_digest 75 = .ok (.i2l, 1) := by decide +kernel
theorem dX9_digest_76 : decode cX9_digest 76 = .ok (.invokevirtual 252, 3) := by decide +kernel
theorem dX9_digest_79 : decode cX9_digest 79 = .ok (.aload_n 0, 1) := by decide +kernel
theorem dX9_digest_80 : decode cX9_digest 80 = .ok (.aload_n 0, 1) := by decide +kernel
theorem dX9_digest_81 : decode cX9_digest 81 = .ok (.getfield 150, 3) := by decide +kernel
theorem dX9_digest_84 : decode cX9_digest 84 = .ok (.i2l, 1) := by decide +kernel
theorem dX9_digest_85 : decode cX9_digest 85 = .ok (.invokevirtual 252, 3) := by decide +kernel
theorem dX9_digest_88 : decode cX9_digest 88 = .ok (.aload_n 0, 1) := by decide +kernel
theorem dX9_digest_89 : decode cX9_digest 89 = .ok (.aload_n 0, 1) := by decide +kernel
theorem dX9_digest_90 : decode cX9_digest 90 = .ok (.getfield 147, 3) := by decide +kernel
theorem dX9_digest_93 : decode cX9_digest 93 = .ok (.i2l, 1) := by decide +kernel
theorem dX9_digest_94 : decode cX9_digest 94 = .ok (.invokevirtual 252, 3) := by decide +kernel
theorem dX9_digest_97 : decode cX9_digest 97 = .ok (.aload_n 0, 1) := by decide +kernel
theorem dX9_digest_98 : decode cX9_digest 98 = .ok (.aload_n 0, 1) := by decide +kernel
theorem dX9_digest_99 : decode cX9_digest 99 = .ok (.invokevirtual 208, 3) := by decide +kernel
theorem dX9_digest_102 : decode cX9_digest 102 = .ok (.i2l, 1) := by decide +kernel
theorem dX9_digest_103 : decode cX9_digest 103 = .ok (.invokevirtual 252, 3) := by decide +kernel
theorem dX9_digest_106 : decode cX9_digest 106 = .ok (.iconst 0, 1) := by decide +kernel
theorem dX9_digest_107 : decode cX9_digest 107 = .ok (.istore_n 1, 1) := by decide +kernel
theorem dX9_digest_108 : decode cX9_digest 108 = .ok (.iload_n 1, 1) := by decide +kernel
theorem dX9_digest_109 : decode cX9_digest 109 = .ok (.aload_n 0, 1) := by decide +kernel
theorem dX9_digest_110 : decode cX9_digest 110 = .ok (.getfield 62, 3) := by decide +kernel
theorem dX9_digest_113 : decode cX9_digest 113 = .ok (.if_icmp .ge 71, 3) := by decide +kernel
theorem dX9_digest_116 : decode cX9_digest 116 = .ok (.aload_n 0, 1) := by decide +kernel
theorem dX9_digest_117 : decode cX9_digest 117 = .ok (.aload_n 0, 1) := by decide +kernel
theorem dX9_digest_118 : decode cX9_digest 118 = .ok (.getfield 7, 3) := by decide +kernel
theorem dX9_digest_121 : decode cX9_digest 121 = .ok (.iload_n 1, 1) := by decide +kernel
theorem dX9_digest_122 : decode cX9_digest 122 = .ok (.iaload, 1) := by decide +kernel
theorem dX9_digest_123 : decode cX9_digest 123 = .ok (.i2l, 1) := by decide +kernel
theorem dX9_digest_124 : decode cX9_digest 124 = .ok (.invokevirtual 252, 3) := by decide +kernel
theorem dX9_digest_127 : decode cX9_digest 127 = .ok (.aload_n 0, 1) := by decide +kernel
theorem dX9_digest_128 : decode cX9_digest 128 = .ok (.aload_n 0, 1) := by decide +kernel
theorem dX9_digest_129 : decode cX9_digest 129 = .ok (.getfield 13, 3) := by decide +kernel
theorem dX9_digest_132 : decode cX9_digest 132 = .ok (.iload_n 1, 1) := by decide +kernel
theorem dX9_digest_133 : decode cX9_digest 133 = .ok (.iaload, 1) := by decide +kernel
theorem dX9_digest_134 : decode cX9_digest 134 = .ok (.i2l, 1) := by decide +kernel
theorem dX9_digest_135 : decode cX9_digest 135 = .ok (.invokevirtual 252, 3) := by decide +kernel
theorem dX9_digest_138 : decode cX9_digest 138 = .ok (.aload_n 0, 1) := by decide +kernel
theorem dX9_digest_139 : decode cX9_digest 139 = .ok (.aload_n 0, 1) := by decide +kernel
theorem dX9_digest_140 : decode cX9_digest 140 = .ok (.iload_n 1, 1) := by decide +kernel
theorem dX9_digest_141 : decode cX9_digest 141 = .ok (.invokevirtual 116, 3) := by decide +kernel
theorem dX9_digest_144 : decode cX9_digest 144 = .ok (.ifCond .eq 7, 3) := by decide +kernel
theorem dX9_digest_147 : decode cX9_digest 147 = .ok (.lconst 1, 1) := by decide +kernel
theorem dX9_digest_148 : decode cX9_digest 148 = .ok (.goto 4, 3) := by decide +kernel
theorem dX9_digest_151 : decode cX9_digest 151 = .ok (.lconst 0, 1) := by decide +kernel
theorem dX9_digest_152 : decode cX9_digest 152 = .ok (.invokevirtual 252, 3) := by decide +kernel
theorem dX9_digest_155 : decode cX9_digest 155 = .ok (.aload_n 0, 1) := by decide +kernel
theorem dX9_digest_156 : decode cX9_digest 156 = .ok (.aload_n 0, 1) := by decide +kernel
theorem dX9_digest_157 : decode cX9_digest 157 = .ok (.iload_n 1, 1) := by decide +kernel
theorem dX9_digest_158 : decode cX9_digest 158 = .ok (.invokevirtual 100, 3) := by decide +kernel
theorem dX9_digest_161 : decode cX9_digest 161 = .ok (.ifCond .eq 7, 3) := by decide +kernel
theorem dX9_digest_164 : decode cX9_digest 164 = .ok (.lconst 0, 1) := by decide +kernel
theorem dX9_digest_165 : decode cX9_digest 165 = .ok (.goto 10, 3) := by decide +kernel
theorem dX9_digest_168 : decode cX9_digest 168 = .ok (.aload_n 0, 1) := by decide +kernel
theorem dX9_digest_169 : decode cX9_digest 169 = .ok (.getfield 25, 3) := by decide +kernel
theorem dX9_digest_172 : decode cX9_digest 172 = .ok (.iload_n 1, 1) := by decide +kernel
theorem dX9_digest_173 : decode cX9_digest 173 = .ok (.iaload, 1) := by decide +kernel
theorem dX9_digest_174 : decode cX9_digest 174 = .ok (.i2l, 1) := by decide +kernel
theorem dX9_digest_175 : decode cX9_digest 175 = .ok (.invokevirtual 252, 3) := by decide +kernel
theorem dX9_digest_178 : decode cX9_digest 178 = .ok (.iinc 1 1, 3) := by decide +kernel
theorem dX9_digest_181 : decode cX9_digest 181 = .ok (.goto (-73), 3) := by decide +kernel
theorem dX9_digest_184 : decode cX9_digest 184 = .ok (.iconst 0, 1) := by decide +kernel
theorem dX9_digest_185 : decode cX9_digest 185 = .ok (.istore_n 1, 1) := by decide +kernel
theorem dX9_digest_186 : decode cX9_digest 186 = .ok (.iload_n 1, 1) := by decide +kernel
theorem dX9_digest_187 : decode cX9_digest 187 = .ok (.bipush 8, 2) := by decide +kernel
theorem dX9_digest_189 : decode cX9_digest 189 = .ok (.if_icmp .ge 20, 3) := by decide +kernel
theorem dX9_digest_192 : decode cX9_digest 192 = .ok (.aload_n 0, 1) := by decide +kernel
theorem dX9_digest_193 : decode cX9_digest 193 = .ok (.aload_n 0, 1) := by decide +kernel
theorem dX9_digest_194 : decode cX9_digest 194 = .ok (.getfield 41, 3) := by decide +kernel
theorem dX9_digest_197 : decode cX9_digest 197 = .ok (.iload_n 1, 1) := by decide +kernel
theorem dX9_digest_198 : decode cX9_digest 198 = .ok (.iaload, 1) := by decide +kernel
theorem dX9_digest_199 : decode cX9_digest 199 = .ok (.i2l, 1) := by decide +kernel
theorem dX9_digest_200 : decode cX9_digest 200 = .ok (.invokevirtual 252, 3) := by decide +kernel
theorem dX9_digest_203 : decode cX9_digest 203 = .ok (.iinc 1 1, 3) := by decide +kernel
theorem dX9_digest_206 : decode cX9_digest 206 = .ok (.goto (-20), 3) := by decide +kernel
theorem dX9_digest_209 : decode cX9_digest 209 = .ok (.iconst 0, 1) := by decide +kernel
theorem dX9_digest_210 : decode cX9_digest 210 = .ok (.istore_n 1, 1) := by decide +kernel
theorem dX9_digest_211 : decode cX9_digest 211 = .ok (.iload_n 1, 1) := by decide +kernel
theorem dX9_digest_212 : decode cX9_digest 212 = .ok (.iconst 2, 1) := by decide +kernel
theorem dX9_digest_213 : decode cX9_digest 213 = .ok (.if_icmp .ge 39, 3) := by decide +kernel
theorem dX9_digest_216 : decode cX9_digest 216 = .ok (.aload_n 0, 1) := by decide +kernel
theorem dX9_digest_217 : decode cX9_digest 217 = .ok (.iload_n 1, 1) := by decide +kernel
theorem dX9_digest_218 : decode cX9_digest 218 = .ok (.invokevirtual 205, 3) := by decide +kernel
theorem dX9_digest_221 : decode cX9_digest 221 = .ok (.iconst 0, 1) := by decide +kernel
theorem dX9_digest_222 : decode cX9_digest 222 = .ok (.istore_n 2, 1) := by decide +kernel
theorem dX9_digest_223 : decode cX9_digest 223 = .ok (.iload_n 2, 1) := by decide +kernel
theorem dX9_digest_224 : decode cX9_digest 224 = .ok (.bipush 16, 2) := by decide +kernel
theorem dX9_digest_226 : decode cX9_digest 226 = .ok (.if_icmp .ge 20, 3) := by decide +kernel
theorem dX9_digest_229 : decode cX9_digest 229 = .ok (.aload_n 0, 1) := by decide +kernel
theorem dX9_digest_230 : decode cX9_digest 230 = .ok (.aload_n 0, 1) := by decide +kernel
theorem dX9_digest_231 : decode cX9_digest 231 = .ok (.getfield 59, 3) := by decide +kernel
theorem dX9_digest_234 : decode cX9_digest 234 = .ok (.iload_n 2, 1) := by decide +kernel
theorem dX9_digest_235 : decode cX9_digest 235 = .ok (.iaload, 1) := by decide +kernel
theorem dX9_digest_236 : decode cX9_digest 236 = .ok (.i2l, 1) := by decide +kernel
theorem dX9_digest_237 : decode cX9_digest 237 = .ok (.invokevirtual 252, 3) := by decide +kernel
theorem dX9_digest_240 : decode cX9_digest 240 = .ok (.iinc 2 1, 3) := by decide +kernel
theorem dX9_digest_243 : decode cX9_digest 243 = .ok (.goto (-20), 3) := by decide +kernel
theorem dX9_digest_246 : decode cX9_digest 246 = .ok (.iinc 1 1, 3) := by decide +kernel
theorem dX9_digest_249 : decode cX9_digest 249 = .ok (.goto (-38), 3) := by decide +kernel
theorem dX9_digest_252 : decode cX9_digest 252 = .ok (.aload_n 0, 1) := by decide +kernel
theorem dX9_digest_253 : decode cX9_digest 253 = .ok (.aload_n 0, 1) := by decide +kernel
theorem dX9_digest_254 : decode cX9_digest 254 = .ok (.invokevirtual 211, 3) := by decide +kernel
theorem dX9_digest_257 : decode cX9_digest 257 = .ok (.d2f, 1) := by decide +kernel
theorem dX9_digest_258 : decode cX9_digest 258 = .ok (.invokestatic 256, 3) := by decide +kernel
theorem dX9_digest_261 : decode cX9_digest 261 = .ok (.i2l, 1) := by decide +kernel
theorem dX9_digest_262 : decode cX9_digest 262 = .ok (.invokevirtual 252, 3) := by decide +kernel
theorem dX9_digest_265 : decode cX9_digest 265 = .ok (.aload_n 0, 1) := by decide +kernel
theorem dX9_digest_266 : decode cX9_digest 266 = .ok (.getfield 244, 3) := by decide +kernel
theorem dX9_digest_269 : decode cX9_digest 269 = .ok (.lreturn, 1) := by decide +kernel
end
section
theorem dX0_init_0 : decode cX0_init 0 = .ok (.aload_n 0, 1) := by decide +kernel
theorem dX0_init_1 : decode cX0_init 1 = .ok (.invokespecial 3, 3) := by decide +kernel
theorem dX0_init_4 : decode cX0_init 4 = .ok (.aload_n 0, 1) := by decide +kernel
theorem dX0_init_5 : decode cX0_init 5 = .ok (.bipush 32, 2) := by decide +kernel
theorem dX0_init_7 : decode cX0_init 7 = .ok (.putfield 11, 3) := by decide +kernel
theorem dX0_init_10 : decode cX0_init 10 = .ok (.return_, 1) := by decide +kernel
theorem dX0_begin_0 : decode cX0_begin 0 = .ok (.aload_n 0, 1) := by decide +kernel
theorem dX0_begin_1 : decode cX0_begin 1 = .ok (.bipush 32, 2) := by decide +kernel
theorem dX0_begin_3 : decode cX0_begin 3 = .ok (.putfield 11, 3) := by decide +kernel
theorem dX0_begin_6 : decode cX0_begin 6 = .ok (.aload_n 0, 1) := by decide +kernel
theorem dX0_begin_7 : decode cX0_begin 7 = .ok (.iconst 0, 1) := by decide +kernel
theorem dX0_begin_8 : decode cX0_begin 8 = .ok (.putfield 15, 3) := by decide +kernel
theorem dX0_begin_11 : decode cX0_begin 11 = .ok (.return_, 1) := by decide +kernel
theorem dX0_takes_0 : decode cX0_takes 0 = .ok (.aload_n 0, 1) := by decide +kernel
theorem dX0_takes_1 : decode cX0_takes 1 = .ok (.getfield 11, 3) := by decide +kernel
theorem dX0_takes_4 : decode cX0_takes 4 = .ok (.bipush 32, 2) := by decide +kernel
theorem dX0_takes_6 : decode cX0_takes 6 = .ok (.if_icmp .ne 9, 3) := by decide +kernel
theorem dX0_takes_9 : decode cX0_takes 9 = .ok (.aload_n 0, 1) := by decide +kernel
theorem dX0_takes_10 : decode cX0_takes 10 = .ok (.iload_n 1, 1) := by decide +kernel
theorem dX0_takes_11 : decode cX0_takes 11 = .ok (.invokevirtual 19, 3) := by decide +kernel
theorem dX0_takes_14 : decode cX0_takes 14 = .ok (.ireturn, 1) := by decide +kernel
theorem dX0_takes_15 : decode cX0_takes 15 = .ok (.iload_n 1, 1) := by decide +kernel
theorem dX0_takes_16 : decode cX0_takes 16 = .ok (.bipush 44, 2) := by decide +kernel
theorem dX0_takes_18 : decode cX0_takes 18 = .ok (.if_icmp .ne 8, 3) := by decide +kernel
theorem dX0_takes_21 : decode cX0_takes 21 = .ok (.aload_n 0, 1) := by decide +kernel
theorem dX0_takes_22 : decode cX0_takes 22 = .ok (.invokevirtual 23, 3) := by decide +kernel
theorem dX0_takes_25 : decode cX0_takes 25 = .ok (.ireturn, 1) := by decide +kernel
theorem dX0_takes_26 : decode cX0_takes 26 = .ok (.iload_n 1, 1) := by decide +kernel
theorem dX0_takes_27 : decode cX0_takes 27 = .ok (.bipush 48, 2) := by decide +kernel
theorem dX0_takes_29 : decode cX0_takes 29 = .ok (.if_icmp .lt 24, 3) := by decide +kernel
theorem dX0_takes_32 : decode cX0_takes 32 = .ok (.iload_n 1, 1) := by decide +kernel
theorem dX0_takes_33 : decode cX0_takes 33 = .ok (.bipush 57, 2) := by decide +kernel
theorem dX0_takes_35 : decode cX0_takes 35 = .ok (.if_icmp .gt 18, 3) := by decide +kernel
theorem dX0_takes_38 : decode cX0_takes 38 = .ok (.aload_n 0, 1) := by decide +kernel
theorem dX0_takes_39 : decode cX0_takes 39 = .ok (.iload_n 1, 1) := by decide +kernel
theorem dX0_takes_40 : decode cX0_takes 40 = .ok (.bipush 48, 2) := by decide +kernel
theorem dX0_takes_42 : decode cX0_takes 42 = .ok (.isub, 1) := by decide +kernel
theorem dX0_takes_43 : decode cX0_takes 43 = .ok (.invokevirtual 27, 3) := by decide +kernel
theorem dX0_takes_46 : decode cX0_takes 46 = .ok (.ifCond .eq 7, 3) := by decide +kernel
theorem dX0_takes_49 : decode cX0_takes 49 = .ok (.iconst 1, 1) := by decide +kernel
theorem dX0_takes_50 : decode cX0_takes 50 = .ok (.goto 4, 3) := by decide +kernel
theorem dX0_takes_53 : decode cX0_takes 53 = .ok (.iconst 0, 1) := by decide +kernel
theorem dX0_takes_54 : decode cX0_takes 54 = .ok (.ireturn, 1) := by decide +kernel
theorem dX0_atEnd_0 : decode cX0_atEnd 0 = .ok (.aload_n 0, 1) := by decide +kernel
theorem dX0_atEnd_1 : decode cX0_atEnd 1 = .ok (.getfield 11, 3) := by decide +kernel
theorem dX0_atEnd_4 : decode cX0_atEnd 4 = .ok (.bipush 32, 2) := by decide +kernel
theorem dX0_atEnd_6 : decode cX0_atEnd 6 = .ok (.if_icmp .eq 24, 3) := by decide +kernel
theorem dX0_atEnd_9 : decode cX0_atEnd 9 = .ok (.aload_n 0, 1) := by decide +kernel
theorem dX0_atEnd_10 : decode cX0_atEnd 10 = .ok (.getfield 15, 3) := by decide +kernel
theorem dX0_atEnd_13 : decode cX0_atEnd 13 = .ok (.ifCond .gt 13, 3) := by decide +kernel
theorem dX0_atEnd_16 : decode cX0_atEnd 16 = .ok (.aload_n 0, 1) := by decide +kernel
theorem dX0_atEnd_17 : decode cX0_atEnd 17 = .ok (.getfield 11, 3) := by decide +kernel
theorem dX0_atEnd_20 : decode cX0_atEnd 20 = .ok (.invokestatic 31, 3) := by decide +kernel
theorem dX0_atEnd_23 : decode cX0_atEnd 23 = .ok (.ifCond .ne 7, 3) := by decide +kernel
theorem dX0_atEnd_26 : decode cX0_atEnd 26 = .ok (.iconst 1, 1) := by decide +kernel
theorem dX0_atEnd_27 : decode cX0_atEnd 27 = .ok (.goto 4, 3) := by decide +kernel
theorem dX0_atEnd_30 : decode cX0_atEnd 30 = .ok (.iconst 0, 1) := by decide +kernel
theorem dX0_atEnd_31 : decode cX0_atEnd 31 = .ok (.ireturn, 1) := by decide +kernel
theorem dX0_takesVerb_0 : decode cX0_takesVerb 0 = .ok (.iload_n 1, 1) := by decide +kernel
theorem dX0_takesVerb_1 : decode cX0_takesVerb 1 = .ok (.invokestatic 31, 3) := by decide +kernel
theorem dX0_takesVerb_4 : decode cX0_takesVerb 4 = .ok (.iconst (-1), 1) := by decide +kernel
theorem dX0_takesVerb_5 : decode cX0_takesVerb 5 = .ok (.if_icmp .ne 5, 3) := by decide +kernel
theorem dX0_takesVerb_8 : decode cX0_takesVerb 8 = .ok (.iconst 0, 1) := by decide +kernel
theorem dX0_takesVerb_9 : decode cX0_takesVerb 9 = .ok (.ireturn, 1) := by decide +kernel
theorem dX0_takesVerb_10 : decode cX0_takesVerb 10 = .ok (.aload_n 0, 1) := by decide +kernel
theorem dX0_takesVerb_11 : decode cX0_takesVerb 11 = .ok (.iload_n 1, 1) := by decide +kernel
theorem dX0_takesVerb_12 : decode cX0_takesVerb 12 = .ok (.putfield 11, 3) := by decide +kernel
theorem dX0_takesVerb_15 : decode cX0_takesVerb 15 = .ok (.iconst 1, 1) := by decide +kernel
theorem dX0_takesVerb_16 : decode cX0_takesVerb 16 = .ok (.ireturn, 1) := by decide +kernel
theorem dX0_takesComma_0 : decode cX0_takesComma 0 = .ok (.aload_n 0, 1) := by decide +kernel
theorem dX0_takesComma_1 : decode cX0_takesComma 1 = .ok (.invokevirtual 35, 3) := by decide +kernel
theorem dX0_takesComma_4 : decode cX0_takesComma 4 = .ok (.istore_n 1, 1) := by decide +kernel
theorem dX0_takesComma_5 : decode cX0_takesComma 5 = .ok (.iload_n 1, 1) := by decide +kernel
theorem dX0_takesComma_6 : decode cX0_takesComma 6 = .ok (.ifCond .eq 7, 3) := by decide +kernel
theorem dX0_takesComma_9 : decode cX0_takesComma 9 = .ok (.aload_n 0, 1) := by decide +kernel
theorem dX0_takesComma_10 : decode cX0_takesComma 10 = .ok (.invokevirtual 38, 3) := by decide +kernel
theorem dX0_takesComma_13 : decode cX0_takesComma 13 = .ok (.iload_n 1, 1) := by decide +kernel
theorem dX0_takesComma_14 : decode cX0_takesComma 14 = .ok (.ireturn, 1) := by decide +kernel
theorem dX0_takesDigit_0 : decode cX0_takesDigit 0 = .ok (.bipush 10, 2) := by decide +kernel
theorem dX0_takesDigit_2 : decode cX0_takesDigit 2 = .ok (.aload_n 0, 1) := by decide +kernel
theorem dX0_takesDigit_3 : decode cX0_takesDigit 3 = .ok (.getfield 15, 3) := by decide +kernel
theorem dX0_takesDigit_6 : decode cX0_takesDigit 6 = .ok (.imul, 1) := by decide +kernel
theorem dX0_takesDigit_7 : decode cX0_takesDigit 7 = .ok (.iload_n 1, 1) := by decide +kernel
theorem dX0_takesDigit_8 : decode cX0_takesDigit 8 = .ok (.iadd, 1) := by decide +kernel
theorem dX0_takesDigit_9 : decode cX0_takesDigit 9 = .ok (.istore_n 2, 1) := by decide +kernel
theorem dX0_takesDigit_10 : decode cX0_takesDigit 10 = .ok (.iload_n 2, 1) := by decide +kernel
theorem dX0_takesDigit_11 : decode cX0_takesDigit 11 = .ok (.iconst 1, 1) := by decide +kernel
theorem dX0_takesDigit_12 : decode cX0_takesDigit 12 = .ok (.if_icmp .lt 14, 3) := by decide +kernel
theorem dX0_takesDigit_15 : decode cX0_takesDigit 15 = .ok (.iload_n 2, 1) := by decide +kernel
theorem dX0_takesDigit_16 : decode cX0_takesDigit 16 = .ok (.aload_n 0, 1) := by decide +kernel
theorem dX0_takesDigit_17 : decode cX0_takesDigit 17 = .ok (.getfield 11, 3) := by decide +kernel
theorem dX0_takesDigit_20 : decode cX0_takesDigit 20 = .ok (.invokestatic 31, 3) := by decide +kernel
theorem dX0_takesDigit_23 : decode cX0_takesDigit 23 = .ok (.if_icmp .le 5, 3) := by decide +kernel
theorem dX0_takesDigit_26 : decode cX0_takesDigit 26 = .ok (.iconst 0, 1) := by decide +kernel
theorem dX0_takesDigit_27 : decode cX0_takesDigit 27 = .ok (.ireturn, 1) := by decide +kernel
theorem dX0_takesDigit_28 : decode cX0_takesDigit 28 = .ok (.aload_n 0, 1) := by decide +kernel
theorem dX0_takesDigit_29 : decode cX0_takesDigit 29 = .ok (.iload_n 2, 1) := by decide +kernel
theorem dX0_takesDigit_30 : decode cX0_takesDigit 30 = .ok (.putfield 15, 3) := by decide +kernel
theorem dX0_takesDigit_33 : decode cX0_takesDigit 33 = .ok (.iconst 1, 1) := by decide +kernel
theorem dX0_takesDigit_34 : decode cX0_takesDigit 34 = .ok (.ireturn, 1) := by decide +kernel
theorem dX0_mostFor_0 : decode cX0_mostFor 0 = .ok (.iload_n 0, 1) := by decide +kernel
theorem dX0_mostFor_1 : decode cX0_mostFor 1 = .ok (.bipush 114, 2) := by decide +kernel
theorem dX0_mostFor_3 : decode cX0_mostFor 3 = .ok (.if_icmp .eq 9, 3) := by decide +kernel
theorem dX0_mostFor_6 : decode cX0_mostFor 6 = .ok (.iload_n 0, 1) := by decide +kernel
theorem dX0_mostFor_7 : decode cX0_mostFor 7 = .ok (.bipush 108, 2) := by decide +kernel
theorem dX0_mostFor_9 : decode cX0_mostFor 9 = .ok (.if_icmp .ne 6, 3) := by decide +kernel
theorem dX0_mostFor_12 : decode cX0_mostFor 12 = .ok (.bipush 50, 2) := by decide +kernel
theorem dX0_mostFor_14 : decode cX0_mostFor 14 = .ok (.ireturn, 1) := by decide +kernel
theorem dX0_mostFor_15 : decode cX0_mostFor 15 = .ok (.iload_n 0, 1) := by decide +kernel
theorem dX0_mostFor_16 : decode cX0_mostFor 16 = .ok (.bipush 116, 2) := by decide +kernel
theorem dX0_mostFor_18 : decode cX0_mostFor 18 = .ok (.if_icmp .ne 6, 3) := by decide +kernel
theorem dX0_mostFor_21 : decode cX0_mostFor 21 = .ok (.bipush 99, 2) := by decide +kernel
theorem dX0_mostFor_23 : decode cX0_mostFor 23 = .ok (.ireturn, 1) := by decide +kernel
theorem dX0_mostFor_24 : decode cX0_mostFor 24 = .ok (.iload_n 0, 1) := by decide +kernel
theorem dX0_mostFor_25 : decode cX0_mostFor 25 = .ok (.bipush 112, 2) := by decide +kernel
theorem dX0_mostFor_27 : decode cX0_mostFor 27 = .ok (.if_icmp .eq 9, 3) := by decide +kernel
theorem dX0_mostFor_30 : decode cX0_mostFor 30 = .ok (.iload_n 0, 1) := by decide +kernel
theorem dX0_mostFor_31 : decode cX0_mostFor 31 = .ok (.bipush 104, 2) := by decide +kernel
theorem dX0_mostFor_33 : decode cX0_mostFor 33 = .ok (.if_icmp .ne 7, 3) := by decide +kernel
theorem dX0_mostFor_36 : decode cX0_mostFor 36 = .ok (.iconst 0, 1) := by decide +kernel
theorem dX0_mostFor_37 : decode cX0_mostFor 37 = .ok (.goto 4, 3) := by decide +kernel
theorem dX0_mostFor_40 : decode cX0_mostFor 40 = .ok (.iconst (-1), 1) := by decide +kernel
theorem dX0_mostFor_41 : decode cX0_mostFor 41 = .ok (.ireturn, 1) := by decide +kernel
theorem dX1_init_0 : decode cX1_init 0 = .ok (.aload_n 0, 1) := by decide +kernel
theorem dX1_init_1 : decode cX1_init 1 = .ok (.invokespecial 3, 3) := by decide +kernel
theorem dX1_init_4 : decode cX1_init 4 = .ok (.aload_n 0, 1) := by decide +kernel
theorem dX1_init_5 : decode cX1_init 5 = .ok (.bipush 60, 2) := by decide +kernel
theorem dX1_init_7 : decode cX1_init 7 = .ok (.newarray .char, 2) := by decide +kernel
theorem dX1_init_9 : decode cX1_init 9 = .ok (.putfield 9, 3) := by decide +kernel
theorem dX1_init_12 : decode cX1_init 12 = .ok (.aload_n 0, 1) := by decide +kernel
theorem dX1_init_13 : decode cX1_init 13 = .ok (.new 15, 3) := by decide +kernel
theorem dX1_init_16 : decode cX1_init 16 = .ok (.dup, 1) := by decide +kernel
theorem dX1_init_17 : decode cX1_init 17 = .ok (.invokespecial 17, 3) := by decide +kernel
theorem dX1_init_20 : decode cX1_init 20 = .ok (.putfield 18, 3) := by decide +kernel
theorem dX1_init_23 : decode cX1_init 23 = .ok (.return_, 1) := by decide +kernel
theorem dX1_keep_0 : decode cX1_keep 0 = .ok (.aload_n 0, 1) := by decide +kernel
theorem dX1_keep_1 : decode cX1_keep 1 = .ok (.getfield 22, 3) := by decide +kernel
theorem dX1_keep_4 : decode cX1_keep 4 = .ok (.ifCond .lt 35, 3) := by decide +kernel
theorem dX1_keep_7 : decode cX1_keep 7 = .ok (.aload_n 0, 1) := by decide +kernel
theorem dX1_keep_8 : decode cX1_keep 8 = .ok (.getfield 22, 3) := by decide +kernel
theorem dX1_keep_11 : decode cX1_keep 11 = .ok (.aload_n 0, 1) := by decide +kernel
theorem dX1_keep_12 : decode cX1_keep 12 = .ok (.getfield 9, 3) := by decide +kernel
theorem dX1_keep_15 : decode cX1_keep 15 = .ok (.arraylength, 1) := by decide +kernel
theorem dX1_keep_16 : decode cX1_keep 16 = .ok (.if_icmp .ge 23, 3) := by decide +kernel
theorem dX1_keep_19 : decode cX1_keep 19 = .ok (.aload_n 0, 1) := by decide +kernel
theorem dX1_keep_20 : decode cX1_keep 20 = .ok (.getfield 9, 3) := by decide +kernel
theorem dX1_keep_23 : decode cX1_keep 23 = .ok (.aload_n 0, 1) := by decide +kernel
theorem dX1_keep_24 : decode cX1_keep 24 = .ok (.getfield 22, 3) := by decide +kernel
theorem dX1_keep_27 : decode cX1_keep 27 = .ok (.iload_n 1, 1) := by decide +kernel
theorem dX1_keep_28 : decode cX1_keep 28 = .ok (.castore, 1) := by decide +kernel
theorem dX1_keep_29 : decode cX1_keep 29 = .ok (.aload_n 0, 1) := by decide +kernel
theorem dX1_keep_30 : decode cX1_keep 30 = .ok (.dup, 1) := by decide +kernel
theorem dX1_keep_31 : decode cX1_keep 31 = .ok (.getfield 22, 3) := by decide +kernel
theorem dX1_keep_34 : decode cX1_keep 34 = .ok (.iconst 1, 1) := by decide +kernel
theorem dX1_keep_35 : decode cX1_keep 35 = .ok (.iadd, 1) := by decide +kernel
theorem dX1_keep_36 : decode cX1_keep 36 = .ok (.putfield 22, 3) := by decide +kernel
theorem dX1_keep_39 : decode cX1_keep 39 = .ok (.return_, 1) := by decide +kernel
theorem dX1_empty_0 : decode cX1_empty 0 = .ok (.aload_n 0, 1) := by decide +kernel
theorem dX1_empty_1 : decode cX1_empty 1 = .ok (.iconst 0, 1) := by decide +kernel
theorem dX1_empty_2 : decode cX1_empty 2 = .ok (.putfield 22, 3) := by decide +kernel
theorem dX1_empty_5 : decode cX1_empty 5 = .ok (.return_, 1) := by decide +kernel
theorem dX1_signAt_0 : decode cX1_signAt 0 = .ok (.iload_n 1, 1) := by decide +kernel
theorem dX1_signAt_1 : decode cX1_signAt 1 = .ok (.ifCond .lt 21, 3) := by decide +kernel
theorem dX1_signAt_4 : decode cX1_signAt 4 = .ok (.iload_n 1, 1) := by decide +kernel
theorem dX1_signAt_5 : decode cX1_signAt 5 = .ok (.aload_n 0, 1) := by decide +kernel
theorem dX1_signAt_6 : decode cX1_signAt 6 = .ok (.getfield 9, 3) := by decide +kernel
theorem dX1_signAt_9 : decode cX1_signAt 9 = .ok (.arraylength, 1) := by decide +kernel
theorem dX1_signAt_10 : decode cX1_signAt 10 = .ok (.if_icmp .ge 12, 3) := by decide +kernel
theorem dX1_signAt_13 : decode cX1_signAt 13 = .ok (.aload_n 0, 1) := by decide +kernel
theorem dX1_signAt_14 : decode cX1_signAt 14 = .ok (.getfield 9, 3) := by decide +kernel
theorem dX1_signAt_17 : decode cX1_signAt 17 = .ok (.iload_n 1, 1) := by decide +kernel
theorem dX1_signAt_18 : decode cX1_signAt 18 = .ok (.caload, 1) := by decide +kernel
theorem dX1_signAt_19 : decode cX1_signAt 19 = .ok (.goto 5, 3) := by decide +kernel
theorem dX1_signAt_22 : decode cX1_signAt 22 = .ok (.bipush 32, 2) := by decide +kernel
theorem dX1_signAt_24 : decode cX1_signAt 24 = .ok (.ireturn, 1) := by decide +kernel
theorem dX1_errorIndex_0 : decode cX1_errorIndex 0 = .ok (.aload_n 0, 1) := by decide +kernel
theorem dX1_errorIndex_1 : decode cX1_errorIndex 1 = .ok (.getfield 18, 3) := by decide +kernel
theorem dX1_errorIndex_4 : decode cX1_errorIndex 4 = .ok (.invokevirtual 26, 3) := by decide +kernel
theorem dX1_errorIndex_7 : decode cX1_errorIndex 7 = .ok (.iconst 0, 1) := by decide +kernel
theorem dX1_errorIndex_8 : decode cX1_errorIndex 8 = .ok (.istore_n 1, 1) := by decide +kernel
theorem dX1_errorIndex_9 : decode cX1_errorIndex 9 = .ok (.iload_n 1, 1) := by decide +kernel
theorem dX1_errorIndex_10 : decode cX1_errorIndex 10 = .ok (.aload_n 0, 1) := by decide +kernel
theorem dX1_errorIndex_11 : decode cX1_errorIndex 11 = .ok (.getfield 22, 3) := by decide +kernel
theorem dX1_errorIndex_14 : decode cX1_errorIndex 14 = .ok (.if_icmp .ge 26, 3) := by decide +kernel
theorem dX1_errorIndex_17 : decode cX1_errorIndex 17 = .ok (.aload_n 0, 1) := by decide +kernel
theorem dX1_errorIndex_18 : decode cX1_errorIndex 18 = .ok (.getfield 18, 3) := by decide +kernel
theorem dX1_errorIndex_21 : decode cX1_errorIndex 21 = .ok (.aload_n 0, 1) := by decide +kernel
theorem dX1_errorIndex_22 : decode cX1_errorIndex 22 = .ok (.iload_n 1, 1) := by decide +kernel
theorem dX1_errorIndex_23 : decode cX1_errorIndex 23 = .ok (.invokevirtual 29, 3) := by decide +kernel
theorem dX1_errorIndex_26 : decode cX1_errorIndex 26 = .ok (.invokevirtual 33, 3) := by decide +kernel
theorem dX1_errorIndex_29 : decode cX1_errorIndex 29 = .ok (.ifCond .ne 5, 3) := by decide +kernel
theorem dX1_errorIndex_32 : decode cX1_errorIndex 32 = .ok (.iload_n 1, 1) := by decide +kernel
theorem dX1_errorIndex_33 : decode cX1_errorIndex 33 = .ok (.ireturn, 1) := by decide +kernel
theorem dX1_errorIndex_34 : decode cX1_errorIndex 34 = .ok (.iinc 1 1, 3) := by decide +kernel
theorem dX1_errorIndex_37 : decode cX1_errorIndex 37 = .ok (.goto (-28), 3) := by decide +kernel
theorem dX1_errorIndex_40 : decode cX1_errorIndex 40 = .ok (.aload_n 0, 1) := by decide +kernel
theorem dX1_errorIndex_41 : decode cX1_errorIndex 41 = .ok (.getfield 22, 3) := by decide +kernel
theorem dX1_errorIndex_44 : decode cX1_errorIndex 44 = .ok (.ireturn, 1) := by decide +kernel
theorem dX1_complete_0 : decode cX1_complete 0 = .ok (.aload_n 0, 1) := by decide +kernel
theorem dX1_complete_1 : decode cX1_complete 1 = .ok (.invokevirtual 37, 3) := by decide +kernel
theorem dX1_complete_4 : decode cX1_complete 4 = .ok (.aload_n 0, 1) := by decide +kernel
theorem dX1_complete_5 : decode cX1_complete 5 = .ok (.getfield 22, 3) := by decide +kernel
theorem dX1_complete_8 : decode cX1_complete 8 = .ok (.if_icmp .ne 17, 3) := by decide +kernel
theorem dX1_complete_11 : decode cX1_complete 11 = .ok (.aload_n 0, 1) := by decide +kernel
theorem dX1_complete_12 : decode cX1_complete 12 = .ok (.getfield 18, 3) := by decide +kernel
theorem dX1_complete_15 : decode cX1_complete 15 = .ok (.invokevirtual 41, 3) := by decide +kernel
theorem dX1_complete_18 : decode cX1_complete 18 = .ok (.ifCond .eq 7, 3) := by decide +kernel
theorem dX1_complete_21 : decode cX1_complete 21 = .ok (.iconst 1, 1) := by decide +kernel
theorem dX1_complete_22 : decode cX1_complete 22 = .ok (.goto 4, 3) := by decide +kernel
theorem dX1_complete_25 : decode cX1_complete 25 = .ok (.iconst 0, 1) := by decide +kernel
theorem dX1_complete_26 : decode cX1_complete 26 = .ok (.ireturn, 1) := by decide +kernel
theorem dX1_restart_0 : decode cX1_restart 0 = .ok (.aload_n 0, 1) := by decide +kernel
theorem dX1_restart_1 : decode cX1_restart 1 = .ok (.iconst 0, 1) := by decide +kernel
theorem dX1_restart_2 : decode cX1_restart 2 = .ok (.putfield 45, 3) := by decide +kernel
theorem dX1_restart_5 : decode cX1_restart 5 = .ok (.return_, 1) := by decide +kernel
theorem dX1_readAction_0 : decode cX1_readAction 0 = .ok (.aload_n 0, 1) := by decide +kernel
theorem dX1_readAction_1 : decode cX1_readAction 1 = .ok (.getfield 45, 3) := by decide +kernel
theorem dX1_readAction_4 : decode cX1_readAction 4 = .ok (.aload_n 0, 1) := by decide +kernel
theorem dX1_readAction_5 : decode cX1_readAction 5 = .ok (.getfield 22, 3) := by decide +kernel
theorem dX1_readAction_8 : decode cX1_readAction 8 = .ok (.if_icmp .lt 5, 3) := by decide +kernel
theorem dX1_readAction_11 : decode cX1_readAction 11 = .ok (.iconst 0, 1) := by decide +kernel
theorem dX1_readAction_12 : decode cX1_readAction 12 = .ok (.ireturn, 1) := by decide +kernel
theorem dX1_readAction_13 : decode cX1_readAction 13 = .ok (.aload_n 0, 1) := by decide +kernel
theorem dX1_readAction_14 : decode cX1_readAction 14 = .ok (.getfield 18, 3) := by decide +kernel
theorem dX1_readAction_17 : decode cX1_readAction 17 = .ok (.invokevirtual 26, 3) := by decide +kernel
theorem dX1_readAction_20 : decode cX1_readAction 20 = .ok (.aload_n 0, 1) := by decide +kernel
theorem dX1_readAction_21 : decode cX1_readAction 21 = .ok (.getfield 45, 3) := by decide +kernel
theorem dX1_readAction_24 : decode cX1_readAction 24 = .ok (.aload_n 0, 1) := by decide +kernel
theorem dX1_readAction_25 : decode cX1_readAction 25 = .ok (.getfield 22, 3) := by decide +kernel
theorem dX1_readAction_28 : decode cX1_readAction 28 = .ok (.if_icmp .ge 45, 3) := by decide +kernel
theorem dX1_readAction_31 : decode cX1_readAction 31 = .ok (.aload_n 0, 1) := by decide +kernel
theorem dX1_readAction_32 : decode cX1_readAction 32 = .ok (.aload_n 0, 1) := by decide +kernel
theorem dX1_readAction_33 : decode cX1_readAction 33 = .ok (.getfield 45, 3) := by decide +kernel
theorem dX1_readAction_36 : decode cX1_readAction 36 = .ok (.invokevirtual 29, 3) := by decide +kernel
theorem dX1_readAction_39 : decode cX1_readAction 39 = .ok (.bipush 44, 2) := by decide +kernel
theorem dX1_readAction_41 : decode cX1_readAction 41 = .ok (.if_icmp .eq 32, 3) := by decide +kernel
theorem dX1_readAction_44 : decode cX1_readAction 44 = .ok (.aload_n 0, 1) := by decide +kernel
theorem dX1_readAction_45 : decode cX1_readAction 45 = .ok (.getfield 18, 3) := by decide +kernel
theorem dX1_readAction_48 : decode cX1_readAction 48 = .ok (.aload_n 0, 1) := by decide +kernel
theorem dX1_readAction_49 : decode cX1_readAction 49 = .ok (.aload_n 0, 1) := by decide +kernel
theorem dX1_readAction_50 : decode cX1_readAction 50 = .ok (.getfield 45, 3) := by decide +kernel
theorem dX1_readAction_53 : decode cX1_readAction 53 = .ok (.invokevirtual 29, 3) := by decide +kernel
theorem dX1_readAction_56 : decode cX1_readAction 56 = .ok (.invokevirtual 33, 3) := by decide +kernel
theorem dX1_readAction_59 : decode cX1_readAction 59 = .ok (.pop, 1) := by decide +kernel
theorem dX1_readAction_60 : decode cX1_readAction 60 = .ok (.aload_n 0, 1) := by decide +kernel
theorem dX1_readAction_61 : decode cX1_readAction 61 = .ok (.dup, 1) := by decide +kernel
theorem dX1_readAction_62 : decode cX1_readAction 62 = .ok (.getfield 45, 3) := by decide +kernel
theorem dX1_readAction_65 : decode cX1_readAction 65 = .ok (.iconst 1, 1) := by decide +kernel
theorem dX1_readAction_66 : decode cX1_readAction 66 = .ok (.iadd, 1) := by decide +kernel
theorem dX1_readAction_67 : decode cX1_readAction 67 = .ok (.putfield 45, 3) := by decide +kernel
theorem dX1_readAction_70 : decode cX1_readAction 70 = .ok (.goto (-50), 3) := by decide +kernel
theorem dX1_readAction_73 : decode cX1_readAction 73 = .ok (.aload_n 0, 1) := by decide +kernel
theorem dX1_readAction_74 : decode cX1_readAction 74 = .ok (.dup, 1) := by decide +kernel
theorem dX1_readAction_75 : decode cX1_readAction 75 = .ok (.getfield 45, 3) := by decide +kernel
theorem dX1_readAction_78 : decode cX1_readAction 78 = .ok (.iconst 1, 1) := by decide +kernel
theorem dX1_readAction_79 : decode cX1_readAction 79 = .ok (.iadd, 1) := by decide +kernel
theorem dX1_readAction_80 : decode cX1_readAction 80 = .ok (.putfield 45, 3) := by decide +kernel
theorem dX1_readAction_83 : decode cX1_readAction 83 = .ok (.iconst 1, 1) := by decide +kernel
theorem dX1_readAction_84 : decode cX1_readAction 84 = .ok (.ireturn, 1) := by decide +kernel
theorem dX1_verb_0 : decode cX1_verb 0 = .ok (.aload_n 0, 1) := by decide +kernel
theorem dX1_verb_1 : decode cX1_verb 1 = .ok (.getfield 18, 3) := by decide +kernel
theorem dX1_verb_4 : decode cX1_verb 4 = .ok (.getfield 48, 3) := by decide +kernel
theorem dX1_verb_7 : decode cX1_verb 7 = .ok (.ireturn, 1) := by decide +kernel
theorem dX1_amount_0 : decode cX1_amount 0 = .ok (.aload_n 0, 1) := by decide +kernel
theorem dX1_amount_1 : decode cX1_amount 1 = .ok (.getfield 18, 3) := by decide +kernel
theorem dX1_amount_4 : decode cX1_amount 4 = .ok (.getfield 52, 3) := by decide +kernel
theorem dX1_amount_7 : decode cX1_amount 7 = .ok (.ireturn, 1) := by decide +kernel
theorem dX2_init_0 : decode cX2_init 0 = .ok (.aload_n 0, 1) := by decide +kernel
theorem dX2_init_1 : decode cX2_init 1 = .ok (.invokespecial 3, 3) := by decide +kernel
theorem dX2_init_4 : decode cX2_init 4 = .ok (.aload_n 0, 1) := by decide +kernel
theorem dX2_init_5 : decode cX2_init 5 = .ok (.iconst 4, 1) := by decide +kernel
theorem dX2_init_6 : decode cX2_init 6 = .ok (.newarray .int, 2) := by decide +kernel
theorem dX2_init_8 : decode cX2_init 8 = .ok (.putfield 9, 3) := by decide +kernel
theorem dX2_init_11 : decode cX2_init 11 = .ok (.aload_n 0, 1) := by decide +kernel
theorem dX2_init_12 : decode cX2_init 12 = .ok (.iconst 3, 1) := by decide +kernel
theorem dX2_init_13 : decode cX2_init 13 = .ok (.newarray .int, 2) := by decide +kernel
theorem dX2_init_15 : decode cX2_init 15 = .ok (.dup, 1) := by decide +kernel
theorem dX2_init_16 : decode cX2_init 16 = .ok (.iconst 0, 1) := by decide +kernel
theorem dX2_init_17 : decode cX2_init 17 = .ok (.bipush 10, 2) := by decide +kernel
theorem dX2_init_19 : decode cX2_init 19 = .ok (.iastore, 1) := by decide +kernel
theorem dX2_init_20 : decode cX2_init 20 = .ok (.dup, 1) := by decide +kernel
theorem dX2_init_21 : decode cX2_init 21 = .ok (.iconst 1, 1) := by decide +kernel
theorem dX2_init_22 : decode cX2_init 22 = .ok (.bipush 30, 2) := by decide +kernel
theorem dX2_init_24 : decode cX2_init 24 = .ok (.iastore, 1) := by decide +kernel
theorem dX2_init_25 : decode cX2_init 25 = .ok (.dup, 1) := by decide +kernel
theorem dX2_init_26 : decode cX2_init 26 = .ok (.iconst 2, 1) := by decide +kernel
theorem dX2_init_27 : decode cX2_init 27 = .ok (.iconst 0, 1) := by decide +kernel
theorem dX2_init_28 : decode cX2_init 28 = .ok (.iastore, 1) := by decide +kernel
theorem dX2_init_29 : decode cX2_init 29 = .ok (.putfield 15, 3) := by decide +kernel
theorem dX2_init_32 : decode cX2_init 32 = .ok (.aload_n 0, 1) := by decide +kernel
theorem dX2_init_33 : decode cX2_init 33 = .ok (.bipush 8, 2) := by decide +kernel
theorem dX2_init_35 : decode cX2_init 35 = .ok (.newarray .int, 2) := by decide +kernel
theorem dX2_init_37 : decode cX2_init 37 = .ok (.putfield 18, 3) := by decide +kernel
theorem dX2_init_40 : decode cX2_init 40 = .ok (.aload_n 0, 1) := by decide +kernel
theorem dX2_init_41 : decode cX2_init 41 = .ok (.aload_n 1, 1) := by decide +kernel
theorem dX2_init_42 : decode cX2_init 42 = .ok (.putfield 21, 3) := by decide +kernel
theorem dX2_init_45 : decode cX2_init 45 = .ok (.aload_n 0, 1) := by decide +kernel
theorem dX2_init_46 : decode cX2_init 46 = .ok (.aload_n 2, 1) := by decide +kernel
theorem dX2_init_47 : decode cX2_init 47 = .ok (.putfield 25, 3) := by decide +kernel
theorem dX2_init_50 : decode cX2_init 50 = .ok (.aload_n 0, 1) := by decide +kernel
theorem dX2_init_51 : decode cX2_init 51 = .ok (.aload_n 1, 1) := by decide +kernel
theorem dX2_init_52 : decode cX2_init 52 = .ok (.getfield 29, 3) := by decide +kernel
theorem dX2_init_55 : decode cX2_init 55 = .ok (.putfield 35, 3) := by decide +kernel
theorem dX2_init_58 : decode cX2_init 58 = .ok (.return_, 1) := by decide +kernel
theorem dX2_setting_0 : decode cX2_setting 0 = .ok (.iload_n 1, 1) := by decide +kernel
theorem dX2_setting_1 : decode cX2_setting 1 = .ok (.ifCond .lt 21, 3) := by decide +kernel
theorem dX2_setting_4 : decode cX2_setting 4 = .ok (.iload_n 1, 1) := by decide +kernel
theorem dX2_setting_5 : decode cX2_setting 5 = .ok (.aload_n 0, 1) := by decide +kernel
theorem dX2_setting_6 : decode cX2_setting 6 = .ok (.getfield 15, 3) := by decide +kernel
theorem dX2_setting_9 : decode cX2_setting 9 = .ok (.arraylength, 1) := by decide +kernel
theorem dX2_setting_10 : decode cX2_setting 10 = .ok (.if_icmp .ge 12, 3) := by decide +kernel
theorem dX2_setting_13 : decode cX2_setting 13 = .ok (.aload_n 0, 1) := by decide +kernel
theorem dX2_setting_14 : decode cX2_setting 14 = .ok (.getfield 15, 3) := by decide +kernel
theorem dX2_setting_17 : decode cX2_setting 17 = .ok (.iload_n 1, 1) := by decide +kernel
theorem dX2_setting_18 : decode cX2_setting 18 = .ok (.iaload, 1) := by decide +kernel
theorem dX2_setting_19 : decode cX2_setting 19 = .ok (.goto 4, 3) := by decide +kernel
theorem dX2_setting_22 : decode cX2_setting 22 = .ok (.iconst 0, 1) := by decide +kernel
theorem dX2_setting_23 : decode cX2_setting 23 = .ok (.ireturn, 1) := by decide +kernel
theorem dX2_changeSetting_0 : decode cX2_changeSetting 0 = .ok (.iload_n 1, 1) := by decide +kernel
theorem dX2_changeSetting_1 : decode cX2_changeSetting 1 = .ok (.ifCond .lt 19, 3) := by decide +kernel
theorem dX2_changeSetting_4 : decode cX2_changeSetting 4 = .ok (.iload_n 1, 1) := by decide +kernel
theorem dX2_changeSetting_5 : decode cX2_changeSetting 5 = .ok (.aload_n 0, 1) := by decide +kernel
theorem dX2_changeSetting_6 : decode cX2_changeSetting 6 = .ok (.getfield 15, 3) := by decide +kernel
theorem dX2_changeSetting_9 : decode cX2_changeSetting 9 = .ok (.arraylength, 1) := by decide +kernel
theorem dX2_changeSetting_10 : decode cX2_changeSetting 10 = .ok (.if_icmp .ge 10, 3) := by decide +kernel
theorem dX2_changeSetting_13 : decode cX2_changeSetting 13 = .ok (.aload_n 0, 1) := by decide +kernel
theorem dX2_changeSetting_14 : decode cX2_changeSetting 14 = .ok (.getfield 15, 3) := by decide +kernel
theorem dX2_changeSetting_17 : decode cX2_changeSetting 17 = .ok (.iload_n 1, 1) := by decide +kernel
theorem dX2_changeSetting_18 : decode cX2_changeSetting 18 = .ok (.iload_n 2, 1) := by decide +kernel
theorem dX2_changeSetting_19 : decode cX2_changeSetting 19 = .ok (.iastore, 1) := by decide +kernel
theorem dX2_changeSetting_20 : decode cX2_changeSetting 20 = .ok (.return_, 1) := by decide +kernel
theorem dX2_counted_0 : decode cX2_counted 0 = .ok (.iload_n 1, 1) := by decide +kernel
theorem dX2_counted_1 : decode cX2_counted 1 = .ok (.ifCond .lt 21, 3) := by decide +kernel
theorem dX2_counted_4 : decode cX2_counted 4 = .ok (.iload_n 1, 1) := by decide +kernel
theorem dX2_counted_5 : decode cX2_counted 5 = .ok (.aload_n 0, 1) := by decide +kernel
theorem dX2_counted_6 : decode cX2_counted 6 = .ok (.getfield 18, 3) := by decide +kernel
theorem dX2_counted_9 : decode cX2_counted 9 = .ok (.arraylength, 1) := by decide +kernel
theorem dX2_counted_10 : decode cX2_counted 10 = .ok (.if_icmp .ge 12, 3) := by decide +kernel
theorem dX2_counted_13 : decode cX2_counted 13 = .ok (.aload_n 0, 1) := by decide +kernel
theorem dX2_counted_14 : decode cX2_counted 14 = .ok (.getfield 18, 3) := by decide +kernel
theorem dX2_counted_17 : decode cX2_counted 17 = .ok (.iload_n 1, 1) := by decide +kernel
theorem dX2_counted_18 : decode cX2_counted 18 = .ok (.iaload, 1) := by decide +kernel
theorem dX2_counted_19 : decode cX2_counted 19 = .ok (.goto 4, 3) := by decide +kernel
theorem dX2_counted_22 : decode cX2_counted 22 = .ok (.iconst 0, 1) := by decide +kernel
theorem dX2_counted_23 : decode cX2_counted 23 = .ok (.ireturn, 1) := by decide +kernel
theorem dX2_count_0 : decode cX2_count 0 = .ok (.iload_n 1, 1) := by decide +kernel
theorem dX2_count_1 : decode cX2_count 1 = .ok (.ifCond .lt 22, 3) := by decide +kernel
theorem dX2_count_4 : decode cX2_count 4 = .ok (.iload_n 1, 1) := by decide +kernel
theorem dX2_count_5 : decode cX2_count 5 = .ok (.aload_n 0, 1) := by decide +kernel
theorem dX2_count_6 : decode cX2_count 6 = .ok (.getfield 18, 3) := by decide +kernel
theorem dX2_count_9 : decode cX2_count 9 = .ok (.arraylength, 1) := by decide +kernel
theorem dX2_count_10 : decode cX2_count 10 = .ok (.if_icmp .ge 13, 3) := by decide +kernel
theorem dX2_count_13 : decode cX2_count 13 = .ok (.aload_n 0, 1) := by decide +kernel
theorem dX2_count_14 : decode cX2_count 14 = .ok (.getfield 18, 3) := by decide +kernel
theorem dX2_count_17 : decode cX2_count 17 = .ok (.iload_n 1, 1) := by decide +kernel
theorem dX2_count_18 : decode cX2_count 18 = .ok (.dup2, 1) := by decide +kernel
theorem dX2_count_19 : decode cX2_count 19 = .ok (.iaload, 1) := by decide +kernel
theorem dX2_count_20 : decode cX2_count 20 = .ok (.iload_n 2, 1) := by decide +kernel
theorem dX2_count_21 : decode cX2_count 21 = .ok (.iadd, 1) := by decide +kernel
theorem dX2_count_22 : decode cX2_count 22 = .ok (.iastore, 1) := by decide +kernel
theorem dX2_count_23 : decode cX2_count 23 = .ok (.return_, 1) := by decide +kernel
theorem dX2_digit_0 : decode cX2_digit 0 = .ok (.iload_n 1, 1) := by decide +kernel
theorem dX2_digit_1 : decode cX2_digit 1 = .ok (.ifCond .lt 21, 3) := by decide +kernel
theorem dX2_digit_4 : decode cX2_digit 4 = .ok (.iload_n 1, 1) := by decide +kernel
theorem dX2_digit_5 : decode cX2_digit 5 = .ok (.aload_n 0, 1) := by decide +kernel
theorem dX2_digit_6 : decode cX2_digit 6 = .ok (.getfield 9, 3) := by decide +kernel
theorem dX2_digit_9 : decode cX2_digit 9 = .ok (.arraylength, 1) := by decide +kernel
theorem dX2_digit_10 : decode cX2_digit 10 = .ok (.if_icmp .ge 12, 3) := by decide +kernel
theorem dX2_digit_13 : decode cX2_digit 13 = .ok (.aload_n 0, 1) := by decide +kernel
theorem dX2_digit_14 : decode cX2_digit 14 = .ok (.getfield 9, 3) := by decide +kernel
theorem dX2_digit_17 : decode cX2_digit 17 = .ok (.iload_n 1, 1) := by decide +kernel
theorem dX2_digit_18 : decode cX2_digit 18 = .ok (.iaload, 1) := by decide +kernel
theorem dX2_digit_19 : decode cX2_digit 19 = .ok (.goto 4, 3) := by decide +kernel
theorem dX2_digit_22 : decode cX2_digit 22 = .ok (.iconst 0, 1) := by decide +kernel
theorem dX2_digit_23 : decode cX2_digit 23 = .ok (.ireturn, 1) := by decide +kernel
theorem dX2_changeDigit_0 : decode cX2_changeDigit 0 = .ok (.iload_n 1, 1) := by decide +kernel
theorem dX2_changeDigit_1 : decode cX2_changeDigit 1 = .ok (.ifCond .lt 19, 3) := by decide +kernel
theorem dX2_changeDigit_4 : decode cX2_changeDigit 4 = .ok (.iload_n 1, 1) := by decide +kernel
theorem dX2_changeDigit_5 : decode cX2_changeDigit 5 = .ok (.aload_n 0, 1) := by decide +kernel
theorem dX2_changeDigit_6 : decode cX2_changeDigit 6 = .ok (.getfield 9, 3) := by decide +kernel
theorem dX2_changeDigit_9 : decode cX2_changeDigit 9 = .ok (.arraylength, 1) := by decide +kernel
theorem dX2_changeDigit_10 : decode cX2_changeDigit 10 = .ok (.if_icmp .ge 10, 3) := by decide +kernel
theorem dX2_changeDigit_13 : decode cX2_changeDigit 13 = .ok (.aload_n 0, 1) := by decide +kernel
theorem dX2_changeDigit_14 : decode cX2_changeDigit 14 = .ok (.getfield 9, 3) := by decide +kernel
theorem dX2_changeDigit_17 : decode cX2_changeDigit 17 = .ok (.iload_n 1, 1) := by decide +kernel
theorem dX2_changeDigit_18 : decode cX2_changeDigit 18 = .ok (.iload_n 2, 1) := by decide +kernel
theorem dX2_changeDigit_19 : decode cX2_changeDigit 19 = .ok (.iastore, 1) := by decide +kernel
theorem dX2_changeDigit_20 : decode cX2_changeDigit 20 = .ok (.return_, 1) := by decide +kernel
theorem dX2_chosenItem_0 : decode cX2_chosenItem 0 = .ok (.aload_n 0, 1) := by decide +kernel
theorem dX2_chosenItem_1 : decode cX2_chosenItem 1 = .ok (.getfield 35, 3) := by decide +kernel
theorem dX2_chosenItem_4 : decode cX2_chosenItem 4 = .ok (.aload_n 0, 1) := by decide +kernel
theorem dX2_chosenItem_5 : decode cX2_chosenItem 5 = .ok (.getfield 38, 3) := by decide +kernel
theorem dX2_chosenItem_8 : decode cX2_chosenItem 8 = .ok (.invokevirtual 42, 3) := by decide +kernel
theorem dX2_chosenItem_11 : decode cX2_chosenItem 11 = .ok (.areturn, 1) := by decide +kernel
theorem dX2_atHome_0 : decode cX2_atHome 0 = .ok (.aload_n 0, 1) := by decide +kernel
theorem dX2_atHome_1 : decode cX2_atHome 1 = .ok (.getfield 48, 3) := by decide +kernel
theorem dX2_atHome_4 : decode cX2_atHome 4 = .ok (.ifCond .ne 14, 3) := by decide +kernel
theorem dX2_atHome_7 : decode cX2_atHome 7 = .ok (.aload_n 0, 1) := by decide +kernel
theorem dX2_atHome_8 : decode cX2_atHome 8 = .ok (.invokevirtual 51, 3) := by decide +kernel
theorem dX2_atHome_11 : decode cX2_atHome 11 = .ok (.ifCond .eq 7, 3) := by decide +kernel
theorem dX2_atHome_14 : decode cX2_atHome 14 = .ok (.iconst 1, 1) := by decide +kernel
theorem dX2_atHome_15 : decode cX2_atHome 15 = .ok (.goto 4, 3) := by decide +kernel
theorem dX2_atHome_18 : decode cX2_atHome 18 = .ok (.iconst 0, 1) := by decide +kernel
theorem dX2_atHome_19 : decode cX2_atHome 19 = .ok (.ireturn, 1) := by decide +kernel
theorem dX2_wouldBeHomeBrowsing_0 : decode cX2_wouldBeHomeBrowsing 0 = .ok (.aload_n 0, 1) := by decide +kernel
theorem dX2_wouldBeHomeBrowsing_1 : decode cX2_wouldBeHomeBrowsing 1 = .ok (.getfield 35, 3) := by decide +kernel
theorem dX2_wouldBeHomeBrowsing_4 : decode cX2_wouldBeHomeBrowsing 4 = .ok (.aload_n 0, 1) := by decide +kernel
theorem dX2_wouldBeHomeBrowsing_5 : decode cX2_wouldBeHomeBrowsing 5 = .ok (.getfield 21, 3) := by decide +kernel
theorem dX2_wouldBeHomeBrowsing_8 : decode cX2_wouldBeHomeBrowsing 8 = .ok (.getfield 29, 3) := by decide +kernel
theorem dX2_wouldBeHomeBrowsing_11 : decode cX2_wouldBeHomeBrowsing 11 = .ok (.if_acmp .ne 24, 3) := by decide +kernel
theorem dX2_wouldBeHomeBrowsing_14 : decode cX2_wouldBeHomeBrowsing 14 = .ok (.aload_n 0, 1) := by decide +kernel
theorem dX2_wouldBeHomeBrowsing_15 : decode cX2_wouldBeHomeBrowsing 15 = .ok (.getfield 38, 3) := by decide +kernel
theorem dX2_wouldBeHomeBrowsing_18 : decode cX2_wouldBeHomeBrowsing 18 = .ok (.ifCond .ne 17, 3) := by decide +kernel
theorem dX2_wouldBeHomeBrowsing_21 : decode cX2_wouldBeHomeBrowsing 21 = .ok (.aload_n 0, 1) := by decide +kernel
theorem dX2_wouldBeHomeBrowsing_22 : decode cX2_wouldBeHomeBrowsing 22 = .ok (.getfield 21, 3) := by decide +kernel
theorem dX2_wouldBeHomeBrowsing_25 : decode cX2_wouldBeHomeBrowsing 25 = .ok (.invokevirtual 55, 3) := by decide +kernel
theorem dX2_wouldBeHomeBrowsing_28 : decode cX2_wouldBeHomeBrowsing 28 = .ok (.ifCond .ne 7, 3) := by decide +kernel
theorem dX2_wouldBeHomeBrowsing_31 : decode cX2_wouldBeHomeBrowsing 31 = .ok (.iconst 1, 1) := by decide +kernel
theorem dX2_wouldBeHomeBrowsing_32 : decode cX2_wouldBeHomeBrowsing 32 = .ok (.goto 4, 3) := by decide +kernel
theorem dX2_wouldBeHomeBrowsing_35 : decode cX2_wouldBeHomeBrowsing 35 = .ok (.iconst 0, 1) := by decide +kernel
theorem dX2_wouldBeHomeBrowsing_36 : decode cX2_wouldBeHomeBrowsing 36 = .ok (.ireturn, 1) := by decide +kernel
theorem dX2_goHome_0 : decode cX2_goHome 0 = .ok (.aload_n 0, 1) := by decide +kernel
theorem dX2_goHome_1 : decode cX2_goHome 1 = .ok (.iconst 0, 1) := by decide +kernel
theorem dX2_goHome_2 : decode cX2_goHome 2 = .ok (.putfield 48, 3) := by decide +kernel
theorem dX2_goHome_5 : decode cX2_goHome 5 = .ok (.aload_n 0, 1) := by decide +kernel
theorem dX2_goHome_6 : decode cX2_goHome 6 = .ok (.aload_n 0, 1) := by decide +kernel
theorem dX2_goHome_7 : decode cX2_goHome 7 = .ok (.getfield 21, 3) := by decide +kernel
theorem dX2_goHome_10 : decode cX2_goHome 10 = .ok (.getfield 29, 3) := by decide +kernel
theorem dX2_goHome_13 : decode cX2_goHome 13 = .ok (.putfield 35, 3) := by decide +kernel
theorem dX2_goHome_16 : decode cX2_goHome 16 = .ok (.aload_n 0, 1) := by decide +kernel
theorem dX2_goHome_17 : decode cX2_goHome 17 = .ok (.iconst 0, 1) := by decide +kernel
theorem dX2_goHome_18 : decode cX2_goHome 18 = .ok (.putfield 38, 3) := by decide +kernel
theorem dX2_goHome_21 : decode cX2_goHome 21 = .ok (.aload_n 0, 1) := by decide +kernel
theorem dX2_goHome_22 : decode cX2_goHome 22 = .ok (.getfield 21, 3) := by decide +kernel
theorem dX2_goHome_25 : decode cX2_goHome 25 = .ok (.invokevirtual 58, 3) := by decide +kernel
theorem dX2_goHome_28 : decode cX2_goHome 28 = .ok (.return_, 1) := by decide +kernel
theorem dX2_turnBy_0 : decode cX2_turnBy 0 = .ok (.aload_n 0, 1) := by decide +kernel
theorem dX2_turnBy_1 : decode cX2_turnBy 1 = .ok (.iload_n 1, 1) := by decide +kernel
theorem dX2_turnBy_2 : decode cX2_turnBy 2 = .ok (.invokevirtual 61, 3) := by decide +kernel
theorem dX2_turnBy_5 : decode cX2_turnBy 5 = .ok (.istore_n 2, 1) := by decide +kernel
theorem dX2_turnBy_6 : decode cX2_turnBy 6 = .ok (.aload_n 0, 1) := by decide +kernel
theorem dX2_turnBy_7 : decode cX2_turnBy 7 = .ok (.getfield 48, 3) := by decide +kernel
theorem dX2_turnBy_10 : decode cX2_turnBy 10 = .ok (.iconst 1, 1) := by decide +kernel
theorem dX2_turnBy_11 : decode cX2_turnBy 11 = .ok (.if_icmp .ne 11, 3) := by decide +kernel
theorem dX2_turnBy_14 : decode cX2_turnBy 14 = .ok (.aload_n 0, 1) := by decide +kernel
theorem dX2_turnBy_15 : decode cX2_turnBy 15 = .ok (.iload_n 2, 1) := by decide +kernel
theorem dX2_turnBy_16 : decode cX2_turnBy 16 = .ok (.putfield 65, 3) := by decide +kernel
theorem dX2_turnBy_19 : decode cX2_turnBy 19 = .ok (.goto 28, 3) := by decide +kernel
theorem dX2_turnBy_22 : decode cX2_turnBy 22 = .ok (.aload_n 0, 1) := by decide +kernel
theorem dX2_turnBy_23 : decode cX2_turnBy 23 = .ok (.getfield 48, 3) := by decide +kernel
theorem dX2_turnBy_26 : decode cX2_turnBy 26 = .ok (.iconst 2, 1) := by decide +kernel
theorem dX2_turnBy_27 : decode cX2_turnBy 27 = .ok (.if_icmp .ne 15, 3) := by decide +kernel
theorem dX2_turnBy_30 : decode cX2_turnBy 30 = .ok (.aload_n 0, 1) := by decide +kernel
theorem dX2_turnBy_31 : decode cX2_turnBy 31 = .ok (.aload_n 0, 1) := by decide +kernel
theorem dX2_turnBy_32 : decode cX2_turnBy 32 = .ok (.getfield 68, 3) := by decide +kernel
theorem dX2_turnBy_35 : decode cX2_turnBy 35 = .ok (.iload_n 2, 1) := by decide +kernel
theorem dX2_turnBy_36 : decode cX2_turnBy 36 = .ok (.invokevirtual 71, 3) := by decide +kernel
theorem dX2_turnBy_39 : decode cX2_turnBy 39 = .ok (.goto 8, 3) := by decide +kernel
theorem dX2_turnBy_42 : decode cX2_turnBy 42 = .ok (.aload_n 0, 1) := by decide +kernel
theorem dX2_turnBy_43 : decode cX2_turnBy 43 = .ok (.iload_n 2, 1) := by decide +kernel
theorem dX2_turnBy_44 : decode cX2_turnBy 44 = .ok (.putfield 38, 3) := by decide +kernel
theorem dX2_turnBy_47 : decode cX2_turnBy 47 = .ok (.aload_n 0, 1) := by decide +kernel
theorem dX2_turnBy_48 : decode cX2_turnBy 48 = .ok (.iconst 0, 1) := by decide +kernel
theorem dX2_turnBy_49 : decode cX2_turnBy 49 = .ok (.putfield 75, 3) := by decide +kernel
theorem dX2_turnBy_52 : decode cX2_turnBy 52 = .ok (.aload_n 0, 1) := by decide +kernel
theorem dX2_turnBy_53 : decode cX2_turnBy 53 = .ok (.iconst 0, 1) := by decide +kernel
theorem dX2_turnBy_54 : decode cX2_turnBy 54 = .ok (.iload_n 1, 1) := by decide +kernel
theorem dX2_turnBy_55 : decode cX2_turnBy 55 = .ok (.invokestatic 78, 3) := by decide +kernel
theorem dX2_turnBy_58 : decode cX2_turnBy 58 = .ok (.invokevirtual 83, 3) := by decide +kernel
theorem dX2_turnBy_61 : decode cX2_turnBy 61 = .ok (.iload_n 2, 1) := by decide +kernel
theorem dX2_turnBy_62 : decode cX2_turnBy 62 = .ok (.ireturn, 1) := by decide +kernel
theorem dX2_turned_0 : decode cX2_turned 0 = .ok (.aload_n 0, 1) := by decide +kernel
theorem dX2_turned_1 : decode cX2_turned 1 = .ok (.getfield 48, 3) := by decide +kernel
theorem dX2_turned_4 : decode cX2_turned 4 = .ok (.iconst 1, 1) := by decide +kernel
theorem dX2_turned_5 : decode cX2_turned 5 = .ok (.if_icmp .ne 9, 3) := by decide +kernel
theorem dX2_turned_8 : decode cX2_turned 8 = .ok (.aload_n 0, 1) := by decide +kernel
theorem dX2_turned_9 : decode cX2_turned 9 = .ok (.iload_n 1, 1) := by decide +kernel
theorem dX2_turned_10 : decode cX2_turned 10 = .ok (.invokevirtual 86, 3) := by decide +kernel
theorem dX2_turned_13 : decode cX2_turned 13 = .ok (.ireturn, 1) := by decide +kernel
theorem dX2_turned_14 : decode cX2_turned 14 = .ok (.aload_n 0, 1) := by decide +kernel
theorem dX2_turned_15 : decode cX2_turned 15 = .ok (.getfield 48, 3) := by decide +kernel
theorem dX2_turned_18 : decode cX2_turned 18 = .ok (.iconst 2, 1) := by decide +kernel
theorem dX2_turned_19 : decode cX2_turned 19 = .ok (.if_icmp .ne 19, 3) := by decide +kernel
theorem dX2_turned_22 : decode cX2_turned 22 = .ok (.aload_n 0, 1) := by decide +kernel
theorem dX2_turned_23 : decode cX2_turned 23 = .ok (.aload_n 0, 1) := by decide +kernel
theorem dX2_turned_24 : decode cX2_turned 24 = .ok (.getfield 68, 3) := by decide +kernel
theorem dX2_turned_27 : decode cX2_turned 27 = .ok (.invokevirtual 89, 3) := by decide +kernel
theorem dX2_turned_30 : decode cX2_turned 30 = .ok (.iload_n 1, 1) := by decide +kernel
theorem dX2_turned_31 : decode cX2_turned 31 = .ok (.iadd, 1) := by decide +kernel
theorem dX2_turned_32 : decode cX2_turned 32 = .ok (.bipush 10, 2) := by decide +kernel
theorem dX2_turned_34 : decode cX2_turned 34 = .ok (.invokestatic 92, 3) := by decide +kernel
theorem dX2_turned_37 : decode cX2_turned 37 = .ok (.ireturn, 1) := by decide +kernel
theorem dX2_turned_38 : decode cX2_turned 38 = .ok (.aload_n 0, 1) := by decide +kernel
theorem dX2_turned_39 : decode cX2_turned 39 = .ok (.getfield 35, 3) := by decide +kernel
theorem dX2_turned_42 : decode cX2_turned 42 = .ok (.invokevirtual 96, 3) := by decide +kernel
theorem dX2_turned_45 : decode cX2_turned 45 = .ok (.istore_n 2, 1) := by decide +kernel
theorem dX2_turned_46 : decode cX2_turned 46 = .ok (.aload_n 0, 1) := by decide +kernel
theorem dX2_turned_47 : decode cX2_turned 47 = .ok (.iconst 2, 1) := by decide +kernel
theorem dX2_turned_48 : decode cX2_turned 48 = .ok (.invokevirtual 100, 3) := by decide +kernel
theorem dX2_turned_51 : decode cX2_turned 51 = .ok (.iconst 1, 1) := by decide +kernel
theorem dX2_turned_52 : decode cX2_turned 52 = .ok (.if_icmp .ne 14, 3) := by decide +kernel
theorem dX2_turned_55 : decode cX2_turned 55 = .ok (.aload_n 0, 1) := by decide +kernel
theorem dX2_turned_56 : decode cX2_turned 56 = .ok (.getfield 38, 3) := by decide +kernel
theorem dX2_turned_59 : decode cX2_turned 59 = .ok (.iload_n 1, 1) := by decide +kernel
theorem dX2_turned_60 : decode cX2_turned 60 = .ok (.iadd, 1) := by decide +kernel
theorem dX2_turned_61 : decode cX2_turned 61 = .ok (.iload_n 2, 1) := by decide +kernel
theorem dX2_turned_62 : decode cX2_turned 62 = .ok (.invokestatic 92, 3) := by decide +kernel
theorem dX2_turned_65 : decode cX2_turned 65 = .ok (.ireturn, 1) := by decide +kernel
theorem dX2_turned_66 : decode cX2_turned 66 = .ok (.iconst 0, 1) := by decide +kernel
theorem dX2_turned_67 : decode cX2_turned 67 = .ok (.iload_n 2, 1) := by decide +kernel
theorem dX2_turned_68 : decode cX2_turned 68 = .ok (.iconst 1, 1) := by decide +kernel
theorem dX2_turned_69 : decode cX2_turned 69 = .ok (.isub, 1) := by decide +kernel
theorem dX2_turned_70 : decode cX2_turned 70 = .ok (.aload_n 0, 1) := by decide +kernel
theorem dX2_turned_71 : decode cX2_turned 71 = .ok (.getfield 38, 3) := by decide +kernel
theorem dX2_turned_74 : decode cX2_turned 74 = .ok (.iload_n 1, 1) := by decide +kernel
theorem dX2_turned_75 : decode cX2_turned 75 = .ok (.iadd, 1) := by decide +kernel
theorem dX2_turned_76 : decode cX2_turned 76 = .ok (.invokestatic 103, 3) := by decide +kernel
theorem dX2_turned_79 : decode cX2_turned 79 = .ok (.invokestatic 106, 3) := by decide +kernel
theorem dX2_turned_82 : decode cX2_turned 82 = .ok (.ireturn, 1) := by decide +kernel
theorem dX2_turnedDraft_0 : decode cX2_turnedDraft 0 = .ok (.aload_n 0, 1) := by decide +kernel
theorem dX2_turnedDraft_1 : decode cX2_turnedDraft 1 = .ok (.invokevirtual 109, 3) := by decide +kernel
theorem dX2_turnedDraft_4 : decode cX2_turnedDraft 4 = .ok (.astore_n 2, 1) := by decide +kernel
theorem dX2_turnedDraft_5 : decode cX2_turnedDraft 5 = .ok (.aload_n 2, 1) := by decide +kernel
theorem dX2_turnedDraft_6 : decode cX2_turnedDraft 6 = .ok (.ifnonnull 8, 3) := by decide +kernel
theorem dX2_turnedDraft_9 : decode cX2_turnedDraft 9 = .ok (.aload_n 0, 1) := by decide +kernel
theorem dX2_turnedDraft_10 : decode cX2_turnedDraft 10 = .ok (.getfield 65, 3) := by decide +kernel
theorem dX2_turnedDraft_13 : decode cX2_turnedDraft 13 = .ok (.ireturn, 1) := by decide +kernel
theorem dX2_turnedDraft_14 : decode cX2_turnedDraft 14 = .ok (.aload_n 2, 1) := by decide +kernel
theorem dX2_turnedDraft_15 : decode cX2_turnedDraft 15 = .ok (.getfield 113, 3) := by decide +kernel
theorem dX2_turnedDraft_18 : decode cX2_turnedDraft 18 = .ok (.iconst 2, 1) := by decide +kernel
theorem dX2_turnedDraft_19 : decode cX2_turnedDraft 19 = .ok (.if_icmp .ne 19, 3) := by decide +kernel
theorem dX2_turnedDraft_22 : decode cX2_turnedDraft 22 = .ok (.aload_n 0, 1) := by decide +kernel
theorem dX2_turnedDraft_23 : decode cX2_turnedDraft 23 = .ok (.getfield 65, 3) := by decide +kernel
theorem dX2_turnedDraft_26 : decode cX2_turnedDraft 26 = .ok (.iload_n 1, 1) := by decide +kernel
theorem dX2_turnedDraft_27 : decode cX2_turnedDraft 27 = .ok (.iadd, 1) := by decide +kernel
theorem dX2_turnedDraft_28 : decode cX2_turnedDraft 28 = .ok (.aload_n 2, 1) := by decide +kernel
theorem dX2_turnedDraft_29 : decode cX2_turnedDraft 29 = .ok (.getfield 116, 3) := by decide +kernel
theorem dX2_turnedDraft_32 : decode cX2_turnedDraft 32 = .ok (.iconst 1, 1) := by decide +kernel
theorem dX2_turnedDraft_33 : decode cX2_turnedDraft 33 = .ok (.iadd, 1) := by decide +kernel
theorem dX2_turnedDraft_34 : decode cX2_turnedDraft 34 = .ok (.invokestatic 92, 3) := by decide +kernel
theorem dX2_turnedDraft_37 : decode cX2_turnedDraft 37 = .ok (.ireturn, 1) := by decide +kernel
theorem dX2_turnedDraft_38 : decode cX2_turnedDraft 38 = .ok (.iload_n 1, 1) := by decide +kernel
theorem dX2_turnedDraft_39 : decode cX2_turnedDraft 39 = .ok (.invokestatic 78, 3) := by decide +kernel
theorem dX2_turnedDraft_42 : decode cX2_turnedDraft 42 = .ok (.iconst 5, 1) := by decide +kernel
theorem dX2_turnedDraft_43 : decode cX2_turnedDraft 43 = .ok (.if_icmp .lt 7, 3) := by decide +kernel
theorem dX2_turnedDraft_46 : decode cX2_turnedDraft 46 = .ok (.iconst 2, 1) := by decide +kernel
theorem dX2_turnedDraft_47 : decode cX2_turnedDraft 47 = .ok (.goto 4, 3) := by decide +kernel
theorem dX2_turnedDraft_50 : decode cX2_turnedDraft 50 = .ok (.iconst 1, 1) := by decide +kernel
theorem dX2_turnedDraft_51 : decode cX2_turnedDraft 51 = .ok (.istore_n 3, 1) := by decide +kernel
theorem dX2_turnedDraft_52 : decode cX2_turnedDraft 52 = .ok (.aload_n 0, 1) := by decide +kernel
theorem dX2_turnedDraft_53 : decode cX2_turnedDraft 53 = .ok (.getfield 65, 3) := by decide +kernel
theorem dX2_turnedDraft_56 : decode cX2_turnedDraft 56 = .ok (.iload_n 1, 1) := by decide +kernel
theorem dX2_turnedDraft_57 : decode cX2_turnedDraft 57 = .ok (.iload_n 3, 1) := by decide +kernel
theorem dX2_turnedDraft_58 : decode cX2_turnedDraft 58 = .ok (.imul, 1) := by decide +kernel
theorem dX2_turnedDraft_59 : decode cX2_turnedDraft 59 = .ok (.aload_n 2, 1) := by decide +kernel
theorem dX2_turnedDraft_60 : decode cX2_turnedDraft 60 = .ok (.getfield 119, 3) := by decide +kernel
theorem dX2_turnedDraft_63 : decode cX2_turnedDraft 63 = .ok (.imul, 1) := by decide +kernel
theorem dX2_turnedDraft_64 : decode cX2_turnedDraft 64 = .ok (.iadd, 1) := by decide +kernel
theorem dX2_turnedDraft_65 : decode cX2_turnedDraft 65 = .ok (.istore 4, 2) := by decide +kernel
theorem dX2_turnedDraft_67 : decode cX2_turnedDraft 67 = .ok (.aload_n 2, 1) := by decide +kernel
theorem dX2_turnedDraft_68 : decode cX2_turnedDraft 68 = .ok (.getfield 122, 3) := by decide +kernel
theorem dX2_turnedDraft_71 : decode cX2_turnedDraft 71 = .ok (.aload_n 2, 1) := by decide +kernel
theorem dX2_turnedDraft_72 : decode cX2_turnedDraft 72 = .ok (.getfield 116, 3) := by decide +kernel
theorem dX2_turnedDraft_75 : decode cX2_turnedDraft 75 = .ok (.iload 4, 2) := by decide +kernel
theorem dX2_turnedDraft_77 : decode cX2_turnedDraft 77 = .ok (.invokestatic 103, 3) := by decide +kernel
theorem dX2_turnedDraft_80 : decode cX2_turnedDraft 80 = .ok (.invokestatic 106, 3) := by decide +kernel
theorem dX2_turnedDraft_83 : decode cX2_turnedDraft 83 = .ok (.ireturn, 1) := by decide +kernel
theorem dX2_around_0 : decode cX2_around 0 = .ok (.iload_n 1, 1) := by decide +kernel
theorem dX2_around_1 : decode cX2_around 1 = .ok (.ifCond .le 11, 3) := by decide +kernel
theorem dX2_around_4 : decode cX2_around 4 = .ok (.iload_n 0, 1) := by decide +kernel
theorem dX2_around_5 : decode cX2_around 5 = .ok (.iload_n 1, 1) := by decide +kernel
theorem dX2_around_6 : decode cX2_around 6 = .ok (.invokestatic 125, 3) := by decide +kernel
theorem dX2_around_9 : decode cX2_around 9 = .ok (.goto 4, 3) := by decide +kernel
theorem dX2_around_12 : decode cX2_around 12 = .ok (.iconst 0, 1) := by decide +kernel
theorem dX2_around_13 : decode cX2_around 13 = .ok (.ireturn, 1) := by decide +kernel
theorem dX2_pressKnob_0 : decode cX2_pressKnob 0 = .ok (.aload_n 0, 1) := by decide +kernel
theorem dX2_pressKnob_1 : decode cX2_pressKnob 1 = .ok (.iconst 0, 1) := by decide +kernel
theorem dX2_pressKnob_2 : decode cX2_pressKnob 2 = .ok (.putfield 75, 3) := by decide +kernel
theorem dX2_pressKnob_5 : decode cX2_pressKnob 5 = .ok (.aload_n 0, 1) := by decide +kernel
theorem dX2_pressKnob_6 : decode cX2_pressKnob 6 = .ok (.iconst 1, 1) := by decide +kernel
theorem dX2_pressKnob_7 : decode cX2_pressKnob 7 = .ok (.iconst 1, 1) := by decide +kernel
theorem dX2_pressKnob_8 : decode cX2_pressKnob 8 = .ok (.invokevirtual 83, 3) := by decide +kernel
theorem dX2_pressKnob_11 : decode cX2_pressKnob 11 = .ok (.aload_n 0, 1) := by decide +kernel
theorem dX2_pressKnob_12 : decode cX2_pressKnob 12 = .ok (.invokevirtual 109, 3) := by decide +kernel
theorem dX2_pressKnob_15 : decode cX2_pressKnob 15 = .ok (.astore_n 1, 1) := by decide +kernel
theorem dX2_pressKnob_16 : decode cX2_pressKnob 16 = .ok (.aload_n 1, 1) := by decide +kernel
theorem dX2_pressKnob_17 : decode cX2_pressKnob 17 = .ok (.ifnonnull 8, 3) := by decide +kernel
theorem dX2_pressKnob_20 : decode cX2_pressKnob 20 = .ok (.aload_n 0, 1) := by decide +kernel
theorem dX2_pressKnob_21 : decode cX2_pressKnob 21 = .ok (.invokevirtual 128, 3) := by decide +kernel
theorem dX2_pressKnob_24 : decode cX2_pressKnob 24 = .ok (.ireturn, 1) := by decide +kernel
theorem dX2_pressKnob_25 : decode cX2_pressKnob 25 = .ok (.aload_n 0, 1) := by decide +kernel
theorem dX2_pressKnob_26 : decode cX2_pressKnob 26 = .ok (.getfield 48, 3) := by decide +kernel
theorem dX2_pressKnob_29 : decode cX2_pressKnob 29 = .ok (.iconst 1, 1) := by decide +kernel
theorem dX2_pressKnob_30 : decode cX2_pressKnob 30 = .ok (.if_icmp .ne 9, 3) := by decide +kernel
theorem dX2_pressKnob_33 : decode cX2_pressKnob 33 = .ok (.aload_n 0, 1) := by decide +kernel
theorem dX2_pressKnob_34 : decode cX2_pressKnob 34 = .ok (.aload_n 1, 1) := by decide +kernel
theorem dX2_pressKnob_35 : decode cX2_pressKnob 35 = .ok (.invokevirtual 131, 3) := by decide +kernel
theorem dX2_pressKnob_38 : decode cX2_pressKnob 38 = .ok (.ireturn, 1) := by decide +kernel
theorem dX2_pressKnob_39 : decode cX2_pressKnob 39 = .ok (.aload_n 0, 1) := by decide +kernel
theorem dX2_pressKnob_40 : decode cX2_pressKnob 40 = .ok (.getfield 48, 3) := by decide +kernel
theorem dX2_pressKnob_43 : decode cX2_pressKnob 43 = .ok (.iconst 2, 1) := by decide +kernel
theorem dX2_pressKnob_44 : decode cX2_pressKnob 44 = .ok (.if_icmp .ne 9, 3) := by decide +kernel
theorem dX2_pressKnob_47 : decode cX2_pressKnob 47 = .ok (.aload_n 0, 1) := by decide +kernel
theorem dX2_pressKnob_48 : decode cX2_pressKnob 48 = .ok (.aload_n 1, 1) := by decide +kernel
theorem dX2_pressKnob_49 : decode cX2_pressKnob 49 = .ok (.invokevirtual 135, 3) := by decide +kernel
theorem dX2_pressKnob_52 : decode cX2_pressKnob 52 = .ok (.ireturn, 1) := by decide +kernel
theorem dX2_pressKnob_53 : decode cX2_pressKnob 53 = .ok (.aload_n 1, 1) := by decide +kernel
theorem dX2_pressKnob_54 : decode cX2_pressKnob 54 = .ok (.invokevirtual 138, 3) := by decide +kernel
theorem dX2_pressKnob_57 : decode cX2_pressKnob 57 = .ok (.ifCond .eq 8, 3) := by decide +kernel
theorem dX2_pressKnob_60 : decode cX2_pressKnob 60 = .ok (.aload_n 0, 1) := by decide +kernel
theorem dX2_pressKnob_61 : decode cX2_pressKnob 61 = .ok (.invokevirtual 141, 3) := by decide +kernel
theorem dX2_pressKnob_64 : decode cX2_pressKnob 64 = .ok (.ireturn, 1) := by decide +kernel
theorem dX2_pressKnob_65 : decode cX2_pressKnob 65 = .ok (.aload_n 0, 1) := by decide +kernel
theorem dX2_pressKnob_66 : decode cX2_pressKnob 66 = .ok (.aload_n 1, 1) := by decide +kernel
theorem dX2_pressKnob_67 : decode cX2_pressKnob 67 = .ok (.invokevirtual 144, 3) := by decide +kernel
theorem dX2_pressKnob_70 : decode cX2_pressKnob 70 = .ok (.ireturn, 1) := by decide +kernel
theorem dX2_goBack_0 : decode cX2_goBack 0 = .ok (.aload_n 0, 1) := by decide +kernel
theorem dX2_goBack_1 : decode cX2_goBack 1 = .ok (.getfield 35, 3) := by decide +kernel
theorem dX2_goBack_4 : decode cX2_goBack 4 = .ok (.astore_n 1, 1) := by decide +kernel
theorem dX2_goBack_5 : decode cX2_goBack 5 = .ok (.aload_n 1, 1) := by decide +kernel
theorem dX2_goBack_6 : decode cX2_goBack 6 = .ok (.getfield 147, 3) := by decide +kernel
theorem dX2_goBack_9 : decode cX2_goBack 9 = .ok (.astore_n 2, 1) := by decide +kernel
theorem dX2_goBack_10 : decode cX2_goBack 10 = .ok (.aload_n 2, 1) := by decide +kernel
theorem dX2_goBack_11 : decode cX2_goBack 11 = .ok (.ifnonnull 5, 3) := by decide +kernel
theorem dX2_goBack_14 : decode cX2_goBack 14 = .ok (.iconst 0, 1) := by decide +kernel
theorem dX2_goBack_15 : decode cX2_goBack 15 = .ok (.ireturn, 1) := by decide +kernel
theorem dX2_goBack_16 : decode cX2_goBack 16 = .ok (.aload_n 0, 1) := by decide +kernel
theorem dX2_goBack_17 : decode cX2_goBack 17 = .ok (.aload_n 2, 1) := by decide +kernel
theorem dX2_goBack_18 : decode cX2_goBack 18 = .ok (.putfield 35, 3) := by decide +kernel
theorem dX2_goBack_21 : decode cX2_goBack 21 = .ok (.aload_n 0, 1) := by decide +kernel
theorem dX2_goBack_22 : decode cX2_goBack 22 = .ok (.aload_n 1, 1) := by decide +kernel
theorem dX2_goBack_23 : decode cX2_goBack 23 = .ok (.getfield 150, 3) := by decide +kernel
theorem dX2_goBack_26 : decode cX2_goBack 26 = .ok (.putfield 38, 3) := by decide +kernel
theorem dX2_goBack_29 : decode cX2_goBack 29 = .ok (.iconst 1, 1) := by decide +kernel
theorem dX2_goBack_30 : decode cX2_goBack 30 = .ok (.ireturn, 1) := by decide +kernel
theorem dX2_use_0 : decode cX2_use 0 = .ok (.aload_n 1, 1) := by decide +kernel
theorem dX2_use_1 : decode cX2_use 1 = .ok (.getfield 113, 3) := by decide +kernel
theorem dX2_use_4 : decode cX2_use 4 = .ok (.ifCond .ne 15, 3) := by decide +kernel
theorem dX2_use_7 : decode cX2_use 7 = .ok (.aload_n 0, 1) := by decide +kernel
theorem dX2_use_8 : decode cX2_use 8 = .ok (.aload_n 1, 1) := by decide +kernel
theorem dX2_use_9 : decode cX2_use 9 = .ok (.putfield 35, 3) := by decide +kernel
theorem dX2_use_12 : decode cX2_use 12 = .ok (.aload_n 0, 1) := by decide +kernel
theorem dX2_use_13 : decode cX2_use 13 = .ok (.iconst 0, 1) := by decide +kernel
theorem dX2_use_14 : decode cX2_use 14 = .ok (.putfield 38, 3) := by decide +kernel
theorem dX2_use_17 : decode cX2_use 17 = .ok (.iconst 2, 1) := by decide +kernel
theorem dX2_use_18 : decode cX2_use 18 = .ok (.ireturn, 1) := by decide +kernel
theorem dX2_use_19 : decode cX2_use 19 = .ok (.aload_n 0, 1) := by decide +kernel
theorem dX2_use_20 : decode cX2_use 20 = .ok (.iconst 1, 1) := by decide +kernel
theorem dX2_use_21 : decode cX2_use 21 = .ok (.putfield 48, 3) := by decide +kernel
theorem dX2_use_24 : decode cX2_use 24 = .ok (.aload_n 0, 1) := by decide +kernel
theorem dX2_use_25 : decode cX2_use 25 = .ok (.aload_n 1, 1) := by decide +kernel
theorem dX2_use_26 : decode cX2_use 26 = .ok (.getfield 153, 3) := by decide +kernel
theorem dX2_use_29 : decode cX2_use 29 = .ok (.putfield 65, 3) := by decide +kernel
theorem dX2_use_32 : decode cX2_use 32 = .ok (.iconst 3, 1) := by decide +kernel
theorem dX2_use_33 : decode cX2_use 33 = .ok (.ireturn, 1) := by decide +kernel
theorem dX2_endEdit_0 : decode cX2_endEdit 0 = .ok (.aload_n 0, 1) := by decide +kernel
theorem dX2_endEdit_1 : decode cX2_endEdit 1 = .ok (.iconst 0, 1) := by decide +kernel
theorem dX2_endEdit_2 : decode cX2_endEdit 2 = .ok (.putfield 48, 3) := by decide +kernel
theorem dX2_endEdit_5 : decode cX2_endEdit 5 = .ok (.aload_n 1, 1) := by decide +kernel
theorem dX2_endEdit_6 : decode cX2_endEdit 6 = .ok (.getfield 153, 3) := by decide +kernel
theorem dX2_endEdit_9 : decode cX2_endEdit 9 = .ok (.aload_n 0, 1) := by decide +kernel
theorem dX2_endEdit_10 : decode cX2_endEdit 10 = .ok (.getfield 65, 3) := by decide +kernel
theorem dX2_endEdit_13 : decode cX2_endEdit 13 = .ok (.if_icmp .eq 29, 3) := by decide +kernel
theorem dX2_endEdit_16 : decode cX2_endEdit 16 = .ok (.aload_n 0, 1) := by decide +kernel
theorem dX2_endEdit_17 : decode cX2_endEdit 17 = .ok (.getfield 25, 3) := by decide +kernel
theorem dX2_endEdit_20 : decode cX2_endEdit 20 = .ok (.aload_n 1, 1) := by decide +kernel
theorem dX2_endEdit_21 : decode cX2_endEdit 21 = .ok (.aload_n 1, 1) := by decide +kernel
theorem dX2_endEdit_22 : decode cX2_endEdit 22 = .ok (.getfield 153, 3) := by decide +kernel
theorem dX2_endEdit_25 : decode cX2_endEdit 25 = .ok (.invokevirtual 156, 3) := by decide +kernel
theorem dX2_endEdit_28 : decode cX2_endEdit 28 = .ok (.aload_n 1, 1) := by decide +kernel
theorem dX2_endEdit_29 : decode cX2_endEdit 29 = .ok (.aload_n 0, 1) := by decide +kernel
theorem dX2_endEdit_30 : decode cX2_endEdit 30 = .ok (.getfield 65, 3) := by decide +kernel
theorem dX2_endEdit_33 : decode cX2_endEdit 33 = .ok (.putfield 153, 3) := by decide +kernel
theorem dX2_endEdit_36 : decode cX2_endEdit 36 = .ok (.aload_n 0, 1) := by decide +kernel
theorem dX2_endEdit_37 : decode cX2_endEdit 37 = .ok (.iconst 2, 1) := by decide +kernel
theorem dX2_endEdit_38 : decode cX2_endEdit 38 = .ok (.iconst 1, 1) := by decide +kernel
theorem dX2_endEdit_39 : decode cX2_endEdit 39 = .ok (.invokevirtual 83, 3) := by decide +kernel
theorem dX2_endEdit_42 : decode cX2_endEdit 42 = .ok (.iconst 4, 1) := by decide +kernel
theorem dX2_endEdit_43 : decode cX2_endEdit 43 = .ok (.ireturn, 1) := by decide +kernel
theorem dX2_beginCode_0 : decode cX2_beginCode 0 = .ok (.aload_n 0, 1) := by decide +kernel
theorem dX2_beginCode_1 : decode cX2_beginCode 1 = .ok (.getfield 162, 3) := by decide +kernel
theorem dX2_beginCode_4 : decode cX2_beginCode 4 = .ok (.ifCond .le 6, 3) := by decide +kernel
theorem dX2_beginCode_7 : decode cX2_beginCode 7 = .ok (.bipush 9, 2) := by decide +kernel
theorem dX2_beginCode_9 : decode cX2_beginCode 9 = .ok (.ireturn, 1) := by decide +kernel
theorem dX2_beginCode_10 : decode cX2_beginCode 10 = .ok (.aload_n 0, 1) := by decide +kernel
theorem dX2_beginCode_11 : decode cX2_beginCode 11 = .ok (.iconst 2, 1) := by decide +kernel
theorem dX2_beginCode_12 : decode cX2_beginCode 12 = .ok (.putfield 48, 3) := by decide +kernel
theorem dX2_beginCode_15 : decode cX2_beginCode 15 = .ok (.aload_n 0, 1) := by decide +kernel
theorem dX2_beginCode_16 : decode cX2_beginCode 16 = .ok (.iconst 0, 1) := by decide +kernel
theorem dX2_beginCode_17 : decode cX2_beginCode 17 = .ok (.putfield 68, 3) := by decide +kernel
theorem dX2_beginCode_20 : decode cX2_beginCode 20 = .ok (.iconst 0, 1) := by decide +kernel
theorem dX2_beginCode_21 : decode cX2_beginCode 21 = .ok (.istore_n 1, 1) := by decide +kernel
theorem dX2_beginCode_22 : decode cX2_beginCode 22 = .ok (.iload_n 1, 1) := by decide +kernel
theorem dX2_beginCode_23 : decode cX2_beginCode 23 = .ok (.iconst 4, 1) := by decide +kernel
theorem dX2_beginCode_24 : decode cX2_beginCode 24 = .ok (.if_icmp .ge 15, 3) := by decide +kernel
theorem dX2_beginCode_27 : decode cX2_beginCode 27 = .ok (.aload_n 0, 1) := by decide +kernel
theorem dX2_beginCode_28 : decode cX2_beginCode 28 = .ok (.iload_n 1, 1) := by decide +kernel
theorem dX2_beginCode_29 : decode cX2_beginCode 29 = .ok (.iconst 0, 1) := by decide +kernel
theorem dX2_beginCode_30 : decode cX2_beginCode 30 = .ok (.invokevirtual 71, 3) := by decide +kernel
theorem dX2_beginCode_33 : decode cX2_beginCode 33 = .ok (.iinc 1 1, 3) := by decide +kernel
theorem dX2_beginCode_36 : decode cX2_beginCode 36 = .ok (.goto (-14), 3) := by decide +kernel
theorem dX2_beginCode_39 : decode cX2_beginCode 39 = .ok (.iconst 5, 1) := by decide +kernel
theorem dX2_beginCode_40 : decode cX2_beginCode 40 = .ok (.ireturn, 1) := by decide +kernel
theorem dX2_endDigit_0 : decode cX2_endDigit 0 = .ok (.aload_n 0, 1) := by decide +kernel
theorem dX2_endDigit_1 : decode cX2_endDigit 1 = .ok (.getfield 68, 3) := by decide +kernel
theorem dX2_endDigit_4 : decode cX2_endDigit 4 = .ok (.iconst 3, 1) := by decide +kernel
theorem dX2_endDigit_5 : decode cX2_endDigit 5 = .ok (.if_icmp .ge 16, 3) := by decide +kernel
theorem dX2_endDigit_8 : decode cX2_endDigit 8 = .ok (.aload_n 0, 1) := by decide +kernel
theorem dX2_endDigit_9 : decode cX2_endDigit 9 = .ok (.dup, 1) := by decide +kernel
theorem dX2_endDigit_10 : decode cX2_endDigit 10 = .ok (.getfield 68, 3) := by decide +kernel
theorem dX2_endDigit_13 : decode cX2_endDigit 13 = .ok (.iconst 1, 1) := by decide +kernel
theorem dX2_endDigit_14 : decode cX2_endDigit 14 = .ok (.iadd, 1) := by decide +kernel
theorem dX2_endDigit_15 : decode cX2_endDigit 15 = .ok (.putfield 68, 3) := by decide +kernel
theorem dX2_endDigit_18 : decode cX2_endDigit 18 = .ok (.bipush 6, 2) := by decide +kernel
theorem dX2_endDigit_20 : decode cX2_endDigit 20 = .ok (.ireturn, 1) := by decide +kernel
theorem dX2_endDigit_21 : decode cX2_endDigit 21 = .ok (.aload_n 0, 1) := by decide +kernel
theorem dX2_endDigit_22 : decode cX2_endDigit 22 = .ok (.iconst 0, 1) := by decide +kernel
theorem dX2_endDigit_23 : decode cX2_endDigit 23 = .ok (.putfield 48, 3) := by decide +kernel
theorem dX2_endDigit_26 : decode cX2_endDigit 26 = .ok (.aload_n 0, 1) := by decide +kernel
theorem dX2_endDigit_27 : decode cX2_endDigit 27 = .ok (.invokevirtual 165, 3) := by decide +kernel
theorem dX2_endDigit_30 : decode cX2_endDigit 30 = .ok (.aload_n 1, 1) := by decide +kernel
theorem dX2_endDigit_31 : decode cX2_endDigit 31 = .ok (.getfield 168, 3) := by decide +kernel
theorem dX2_endDigit_34 : decode cX2_endDigit 34 = .ok (.if_icmp .ne 16, 3) := by decide +kernel
theorem dX2_endDigit_37 : decode cX2_endDigit 37 = .ok (.aload_n 1, 1) := by decide +kernel
theorem dX2_endDigit_38 : decode cX2_endDigit 38 = .ok (.iconst 1, 1) := by decide +kernel
theorem dX2_endDigit_39 : decode cX2_endDigit 39 = .ok (.putfield 171, 3) := by decide +kernel
theorem dX2_endDigit_42 : decode cX2_endDigit 42 = .ok (.aload_n 0, 1) := by decide +kernel
theorem dX2_endDigit_43 : decode cX2_endDigit 43 = .ok (.iconst 0, 1) := by decide +kernel
theorem dX2_endDigit_44 : decode cX2_endDigit 44 = .ok (.putfield 175, 3) := by decide +kernel
theorem dX2_endDigit_47 : decode cX2_endDigit 47 = .ok (.bipush 7, 2) := by decide +kernel
theorem dX2_endDigit_49 : decode cX2_endDigit 49 = .ok (.ireturn, 1) := by decide +kernel
theorem dX2_endDigit_50 : decode cX2_endDigit 50 = .ok (.aload_n 0, 1) := by decide +kernel
theorem dX2_endDigit_51 : decode cX2_endDigit 51 = .ok (.invokevirtual 178, 3) := by decide +kernel
theorem dX2_endDigit_54 : decode cX2_endDigit 54 = .ok (.bipush 8, 2) := by decide +kernel
theorem dX2_endDigit_56 : decode cX2_endDigit 56 = .ok (.ireturn, 1) := by decide +kernel
theorem dX2_enteredCode_0 : decode cX2_enteredCode 0 = .ok (.iconst 0, 1) := by decide +kernel
theorem dX2_enteredCode_1 : decode cX2_enteredCode 1 = .ok (.istore_n 1, 1) := by decide +kernel
theorem dX2_enteredCode_2 : decode cX2_enteredCode 2 = .ok (.iconst 0, 1) := by decide +kernel
theorem dX2_enteredCode_3 : decode cX2_enteredCode 3 = .ok (.istore_n 2, 1) := by decide +kernel
theorem dX2_enteredCode_4 : decode cX2_enteredCode 4 = .ok (.iload_n 2, 1) := by decide +kernel
theorem dX2_enteredCode_5 : decode cX2_enteredCode 5 = .ok (.iconst 4, 1) := by decide +kernel
theorem dX2_enteredCode_6 : decode cX2_enteredCode 6 = .ok (.if_icmp .ge 20, 3) := by decide +kernel
theorem dX2_enteredCode_9 : decode cX2_enteredCode 9 = .ok (.bipush 10, 2) := by decide +kernel
theorem dX2_enteredCode_11 : decode cX2_enteredCode 11 = .ok (.iload_n 1, 1) := by decide +kernel
theorem dX2_enteredCode_12 : decode cX2_enteredCode 12 = .ok (.imul, 1) := by decide +kernel
theorem dX2_enteredCode_13 : decode cX2_enteredCode 13 = .ok (.aload_n 0, 1) := by decide +kernel
theorem dX2_enteredCode_14 : decode cX2_enteredCode 14 = .ok (.iload_n 2, 1) := by decide +kernel
theorem dX2_enteredCode_15 : decode cX2_enteredCode 15 = .ok (.invokevirtual 89, 3) := by decide +kernel
theorem dX2_enteredCode_18 : decode cX2_enteredCode 18 = .ok (.iadd, 1) := by decide +kernel
theorem dX2_enteredCode_19 : decode cX2_enteredCode 19 = .ok (.istore_n 1, 1) := by decide +kernel
theorem dX2_enteredCode_20 : decode cX2_enteredCode 20 = .ok (.iinc 2 1, 3) := by decide +kernel
theorem dX2_enteredCode_23 : decode cX2_enteredCode 23 = .ok (.goto (-19), 3) := by decide +kernel
theorem dX2_enteredCode_26 : decode cX2_enteredCode 26 = .ok (.iload_n 1, 1) := by decide +kernel
theorem dX2_enteredCode_27 : decode cX2_enteredCode 27 = .ok (.ireturn, 1) := by decide +kernel
theorem dX2_countWrongCode_0 : decode cX2_countWrongCode 0 = .ok (.aload_n 0, 1) := by decide +kernel
theorem dX2_countWrongCode_1 : decode cX2_countWrongCode 1 = .ok (.iconst 4, 1) := by decide +kernel
theorem dX2_countWrongCode_2 : decode cX2_countWrongCode 2 = .ok (.iconst 1, 1) := by decide +kernel
theorem dX2_countWrongCode_3 : decode cX2_countWrongCode 3 = .ok (.invokevirtual 83, 3) := by decide +kernel
theorem dX2_countWrongCode_6 : decode cX2_countWrongCode 6 = .ok (.aload_n 0, 1) := by decide +kernel
theorem dX2_countWrongCode_7 : decode cX2_countWrongCode 7 = .ok (.dup, 1) := by decide +kernel
theorem dX2_countWrongCode_8 : decode cX2_countWrongCode 8 = .ok (.getfield 175, 3) := by decide +kernel
theorem dX2_countWrongCode_11 : decode cX2_countWrongCode 11 = .ok (.iconst 1, 1) := by decide +kernel
theorem dX2_countWrongCode_12 : decode cX2_countWrongCode 12 = .ok (.iadd, 1) := by decide +kernel
theorem dX2_countWrongCode_13 : decode cX2_countWrongCode 13 = .ok (.putfield 175, 3) := by decide +kernel
theorem dX2_countWrongCode_16 : decode cX2_countWrongCode 16 = .ok (.aload_n 0, 1) := by decide +kernel
theorem dX2_countWrongCode_17 : decode cX2_countWrongCode 17 = .ok (.getfield 175, 3) := by decide +kernel
theorem dX2_countWrongCode_20 : decode cX2_countWrongCode 20 = .ok (.iconst 3, 1) := by decide +kernel
theorem dX2_countWrongCode_21 : decode cX2_countWrongCode 21 = .ok (.if_icmp .lt 20, 3) := by decide +kernel
theorem dX2_countWrongCode_24 : decode cX2_countWrongCode 24 = .ok (.aload_n 0, 1) := by decide +kernel
theorem dX2_countWrongCode_25 : decode cX2_countWrongCode 25 = .ok (.iconst 0, 1) := by decide +kernel
theorem dX2_countWrongCode_26 : decode cX2_countWrongCode 26 = .ok (.putfield 175, 3) := by decide +kernel
theorem dX2_countWrongCode_29 : decode cX2_countWrongCode 29 = .ok (.aload_n 0, 1) := by decide +kernel
theorem dX2_countWrongCode_30 : decode cX2_countWrongCode 30 = .ok (.bipush 30, 2) := by decide +kernel
theorem dX2_countWrongCode_32 : decode cX2_countWrongCode 32 = .ok (.putfield 162, 3) := by decide +kernel
theorem dX2_countWrongCode_35 : decode cX2_countWrongCode 35 = .ok (.aload_n 0, 1) := by decide +kernel
theorem dX2_countWrongCode_36 : decode cX2_countWrongCode 36 = .ok (.iconst 5, 1) := by decide +kernel
theorem dX2_countWrongCode_37 : decode cX2_countWrongCode 37 = .ok (.iconst 1, 1) := by decide +kernel
theorem dX2_countWrongCode_38 : decode cX2_countWrongCode 38 = .ok (.invokevirtual 83, 3) := by decide +kernel
theorem dX2_countWrongCode_41 : decode cX2_countWrongCode 41 = .ok (.return_, 1) := by decide +kernel
theorem dX2_holdKnob_0 : decode cX2_holdKnob 0 = .ok (.aload_n 0, 1) := by decide +kernel
theorem dX2_holdKnob_1 : decode cX2_holdKnob 1 = .ok (.getfield 48, 3) := by decide +kernel
theorem dX2_holdKnob_4 : decode cX2_holdKnob 4 = .ok (.istore_n 1, 1) := by decide +kernel
theorem dX2_holdKnob_5 : decode cX2_holdKnob 5 = .ok (.aload_n 0, 1) := by decide +kernel
theorem dX2_holdKnob_6 : decode cX2_holdKnob 6 = .ok (.iconst 0, 1) := by decide +kernel
theorem dX2_holdKnob_7 : decode cX2_holdKnob 7 = .ok (.putfield 75, 3) := by decide +kernel
theorem dX2_holdKnob_10 : decode cX2_holdKnob 10 = .ok (.iload_n 1, 1) := by decide +kernel
theorem dX2_holdKnob_11 : decode cX2_holdKnob 11 = .ok (.ifCond .ne 7, 3) := by decide +kernel
theorem dX2_holdKnob_14 : decode cX2_holdKnob 14 = .ok (.aload_n 0, 1) := by decide +kernel
theorem dX2_holdKnob_15 : decode cX2_holdKnob 15 = .ok (.invokevirtual 181, 3) := by decide +kernel
theorem dX2_holdKnob_18 : decode cX2_holdKnob 18 = .ok (.aload_n 0, 1) := by decide +kernel
theorem dX2_holdKnob_19 : decode cX2_holdKnob 19 = .ok (.iconst 0, 1) := by decide +kernel
theorem dX2_holdKnob_20 : decode cX2_holdKnob 20 = .ok (.putfield 48, 3) := by decide +kernel
theorem dX2_holdKnob_23 : decode cX2_holdKnob 23 = .ok (.iload_n 1, 1) := by decide +kernel
theorem dX2_holdKnob_24 : decode cX2_holdKnob 24 = .ok (.ireturn, 1) := by decide +kernel
theorem dX2_passTicks_0 : decode cX2_passTicks 0 = .ok (.iconst 0, 1) := by decide +kernel
theorem dX2_passTicks_1 : decode cX2_passTicks 1 = .ok (.istore_n 2, 1) := by decide +kernel
theorem dX2_passTicks_2 : decode cX2_passTicks 2 = .ok (.iconst 0, 1) := by decide +kernel
theorem dX2_passTicks_3 : decode cX2_passTicks 3 = .ok (.istore_n 3, 1) := by decide +kernel
theorem dX2_passTicks_4 : decode cX2_passTicks 4 = .ok (.iload_n 3, 1) := by decide +kernel
theorem dX2_passTicks_5 : decode cX2_passTicks 5 = .ok (.iload_n 1, 1) := by decide +kernel
theorem dX2_passTicks_6 : decode cX2_passTicks 6 = .ok (.if_icmp .ge 16, 3) := by decide +kernel
theorem dX2_passTicks_9 : decode cX2_passTicks 9 = .ok (.iload_n 2, 1) := by decide +kernel
theorem dX2_passTicks_10 : decode cX2_passTicks 10 = .ok (.aload_n 0, 1) := by decide +kernel
theorem dX2_passTicks_11 : decode cX2_passTicks 11 = .ok (.invokevirtual 184, 3) := by decide +kernel
theorem dX2_passTicks_14 : decode cX2_passTicks 14 = .ok (.iadd, 1) := by decide +kernel
theorem dX2_passTicks_15 : decode cX2_passTicks 15 = .ok (.istore_n 2, 1) := by decide +kernel
theorem dX2_passTicks_16 : decode cX2_passTicks 16 = .ok (.iinc 3 1, 3) := by decide +kernel
theorem dX2_passTicks_19 : decode cX2_passTicks 19 = .ok (.goto (-15), 3) := by decide +kernel
theorem dX2_passTicks_22 : decode cX2_passTicks 22 = .ok (.aload_n 0, 1) := by decide +kernel
theorem dX2_passTicks_23 : decode cX2_passTicks 23 = .ok (.bipush 7, 2) := by decide +kernel
theorem dX2_passTicks_25 : decode cX2_passTicks 25 = .ok (.iload_n 1, 1) := by decide +kernel
theorem dX2_passTicks_26 : decode cX2_passTicks 26 = .ok (.invokevirtual 83, 3) := by decide +kernel
theorem dX2_passTicks_29 : decode cX2_passTicks 29 = .ok (.aload_n 0, 1) := by decide +kernel
theorem dX2_passTicks_30 : decode cX2_passTicks 30 = .ok (.bipush 6, 2) := by decide +kernel
theorem dX2_passTicks_32 : decode cX2_passTicks 32 = .ok (.iload_n 2, 1) := by decide +kernel
theorem dX2_passTicks_33 : decode cX2_passTicks 33 = .ok (.invokevirtual 83, 3) := by decide +kernel
theorem dX2_passTicks_36 : decode cX2_passTicks 36 = .ok (.iload_n 2, 1) := by decide +kernel
theorem dX2_passTicks_37 : decode cX2_passTicks 37 = .ok (.ireturn, 1) := by decide +kernel
theorem dX2_passTick_0 : decode cX2_passTick 0 = .ok (.iconst 0, 1) := by decide +kernel
theorem dX2_passTick_1 : decode cX2_passTick 1 = .ok (.istore_n 1, 1) := by decide +kernel
theorem dX2_passTick_2 : decode cX2_passTick 2 = .ok (.aload_n 0, 1) := by decide +kernel
theorem dX2_passTick_3 : decode cX2_passTick 3 = .ok (.dup, 1) := by decide +kernel
theorem dX2_passTick_4 : decode cX2_passTick 4 = .ok (.getfield 75, 3) := by decide +kernel
theorem dX2_passTick_7 : decode cX2_passTick 7 = .ok (.iconst 1, 1) := by decide +kernel
theorem dX2_passTick_8 : decode cX2_passTick 8 = .ok (.iadd, 1) := by decide +kernel
theorem dX2_passTick_9 : decode cX2_passTick 9 = .ok (.putfield 75, 3) := by decide +kernel
theorem dX2_passTick_12 : decode cX2_passTick 12 = .ok (.aload_n 0, 1) := by decide +kernel
theorem dX2_passTick_13 : decode cX2_passTick 13 = .ok (.getfield 162, 3) := by decide +kernel
theorem dX2_passTick_16 : decode cX2_passTick 16 = .ok (.ifCond .le 13, 3) := by decide +kernel
theorem dX2_passTick_19 : decode cX2_passTick 19 = .ok (.aload_n 0, 1) := by decide +kernel
theorem dX2_passTick_20 : decode cX2_passTick 20 = .ok (.dup, 1) := by decide +kernel
theorem dX2_passTick_21 : decode cX2_passTick 21 = .ok (.getfield 162, 3) := by decide +kernel
theorem dX2_passTick_24 : decode cX2_passTick 24 = .ok (.iconst 1, 1) := by decide +kernel
theorem dX2_passTick_25 : decode cX2_passTick 25 = .ok (.isub, 1) := by decide +kernel
theorem dX2_passTick_26 : decode cX2_passTick 26 = .ok (.putfield 162, 3) := by decide +kernel
theorem dX2_passTick_29 : decode cX2_passTick 29 = .ok (.aload_n 0, 1) := by decide +kernel
theorem dX2_passTick_30 : decode cX2_passTick 30 = .ok (.getfield 75, 3) := by decide +kernel
theorem dX2_passTick_33 : decode cX2_passTick 33 = .ok (.aload_n 0, 1) := by decide +kernel
theorem dX2_passTick_34 : decode cX2_passTick 34 = .ok (.iconst 0, 1) := by decide +kernel
theorem dX2_passTick_35 : decode cX2_passTick 35 = .ok (.invokevirtual 100, 3) := by decide +kernel
theorem dX2_passTick_38 : decode cX2_passTick 38 = .ok (.if_icmp .ne 18, 3) := by decide +kernel
theorem dX2_passTick_41 : decode cX2_passTick 41 = .ok (.aload_n 0, 1) := by decide +kernel
theorem dX2_passTick_42 : decode cX2_passTick 42 = .ok (.getfield 48, 3) := by decide +kernel
theorem dX2_passTick_45 : decode cX2_passTick 45 = .ok (.ifCond .eq 11, 3) := by decide +kernel
theorem dX2_passTick_48 : decode cX2_passTick 48 = .ok (.aload_n 0, 1) := by decide +kernel
theorem dX2_passTick_49 : decode cX2_passTick 49 = .ok (.iconst 0, 1) := by decide +kernel
theorem dX2_passTick_50 : decode cX2_passTick 50 = .ok (.putfield 48, 3) := by decide +kernel
theorem dX2_passTick_53 : decode cX2_passTick 53 = .ok (.iinc 1 1, 3) := by decide +kernel
theorem dX2_passTick_56 : decode cX2_passTick 56 = .ok (.aload_n 0, 1) := by decide +kernel
theorem dX2_passTick_57 : decode cX2_passTick 57 = .ok (.getfield 75, 3) := by decide +kernel
theorem dX2_passTick_60 : decode cX2_passTick 60 = .ok (.aload_n 0, 1) := by decide +kernel
theorem dX2_passTick_61 : decode cX2_passTick 61 = .ok (.iconst 1, 1) := by decide +kernel
theorem dX2_passTick_62 : decode cX2_passTick 62 = .ok (.invokevirtual 100, 3) := by decide +kernel
theorem dX2_passTick_65 : decode cX2_passTick 65 = .ok (.if_icmp .ne 17, 3) := by decide +kernel
theorem dX2_passTick_68 : decode cX2_passTick 68 = .ok (.aload_n 0, 1) := by decide +kernel
theorem dX2_passTick_69 : decode cX2_passTick 69 = .ok (.invokevirtual 187, 3) := by decide +kernel
theorem dX2_passTick_72 : decode cX2_passTick 72 = .ok (.ifCond .ne 10, 3) := by decide +kernel
theorem dX2_passTick_75 : decode cX2_passTick 75 = .ok (.aload_n 0, 1) := by decide +kernel
theorem dX2_passTick_76 : decode cX2_passTick 76 = .ok (.invokevirtual 181, 3) := by decide +kernel
theorem dX2_passTick_79 : decode cX2_passTick 79 = .ok (.iinc 1 1, 3) := by decide +kernel
theorem dX2_passTick_82 : decode cX2_passTick 82 = .ok (.iload_n 1, 1) := by decide +kernel
theorem dX2_passTick_83 : decode cX2_passTick 83 = .ok (.ireturn, 1) := by decide +kernel
theorem dX2_ticksUntilHome_0 : decode cX2_ticksUntilHome 0 = .ok (.aload_n 0, 1) := by decide +kernel
theorem dX2_ticksUntilHome_1 : decode cX2_ticksUntilHome 1 = .ok (.invokevirtual 187, 3) := by decide +kernel
theorem dX2_ticksUntilHome_4 : decode cX2_ticksUntilHome 4 = .ok (.ifCond .eq 5, 3) := by decide +kernel
theorem dX2_ticksUntilHome_7 : decode cX2_ticksUntilHome 7 = .ok (.iconst 0, 1) := by decide +kernel
theorem dX2_ticksUntilHome_8 : decode cX2_ticksUntilHome 8 = .ok (.ireturn, 1) := by decide +kernel
theorem dX2_ticksUntilHome_9 : decode cX2_ticksUntilHome 9 = .ok (.aload_n 0, 1) := by decide +kernel
theorem dX2_ticksUntilHome_10 : decode cX2_ticksUntilHome 10 = .ok (.invokevirtual 51, 3) := by decide +kernel
theorem dX2_ticksUntilHome_13 : decode cX2_ticksUntilHome 13 = .ok (.ifCond .eq 16, 3) := by decide +kernel
theorem dX2_ticksUntilHome_16 : decode cX2_ticksUntilHome 16 = .ok (.aload_n 0, 1) := by decide +kernel
theorem dX2_ticksUntilHome_17 : decode cX2_ticksUntilHome 17 = .ok (.iconst 0, 1) := by decide +kernel
theorem dX2_ticksUntilHome_18 : decode cX2_ticksUntilHome 18 = .ok (.invokevirtual 100, 3) := by decide +kernel
theorem dX2_ticksUntilHome_21 : decode cX2_ticksUntilHome 21 = .ok (.aload_n 0, 1) := by decide +kernel
theorem dX2_ticksUntilHome_22 : decode cX2_ticksUntilHome 22 = .ok (.getfield 75, 3) := by decide +kernel
theorem dX2_ticksUntilHome_25 : decode cX2_ticksUntilHome 25 = .ok (.isub, 1) := by decide +kernel
theorem dX2_ticksUntilHome_26 : decode cX2_ticksUntilHome 26 = .ok (.goto 4, 3) := by decide +kernel
theorem dX2_ticksUntilHome_29 : decode cX2_ticksUntilHome 29 = .ok (.iconst 0, 1) := by decide +kernel
theorem dX2_ticksUntilHome_30 : decode cX2_ticksUntilHome 30 = .ok (.istore_n 1, 1) := by decide +kernel
theorem dX2_ticksUntilHome_31 : decode cX2_ticksUntilHome 31 = .ok (.aload_n 0, 1) := by decide +kernel
theorem dX2_ticksUntilHome_32 : decode cX2_ticksUntilHome 32 = .ok (.iconst 1, 1) := by decide +kernel
theorem dX2_ticksUntilHome_33 : decode cX2_ticksUntilHome 33 = .ok (.invokevirtual 100, 3) := by decide +kernel
theorem dX2_ticksUntilHome_36 : decode cX2_ticksUntilHome 36 = .ok (.aload_n 0, 1) := by decide +kernel
theorem dX2_ticksUntilHome_37 : decode cX2_ticksUntilHome 37 = .ok (.getfield 75, 3) := by decide +kernel
theorem dX2_ticksUntilHome_40 : decode cX2_ticksUntilHome 40 = .ok (.isub, 1) := by decide +kernel
theorem dX2_ticksUntilHome_41 : decode cX2_ticksUntilHome 41 = .ok (.istore_n 2, 1) := by decide +kernel
theorem dX2_ticksUntilHome_42 : decode cX2_ticksUntilHome 42 = .ok (.iload_n 1, 1) := by decide +kernel
theorem dX2_ticksUntilHome_43 : decode cX2_ticksUntilHome 43 = .ok (.ifCond .le 13, 3) := by decide +kernel
theorem dX2_ticksUntilHome_46 : decode cX2_ticksUntilHome 46 = .ok (.iload_n 2, 1) := by decide +kernel
theorem dX2_ticksUntilHome_47 : decode cX2_ticksUntilHome 47 = .ok (.ifCond .le 9, 3) := by decide +kernel
theorem dX2_ticksUntilHome_50 : decode cX2_ticksUntilHome 50 = .ok (.iload_n 1, 1) := by decide +kernel
theorem dX2_ticksUntilHome_51 : decode cX2_ticksUntilHome 51 = .ok (.iload_n 2, 1) := by decide +kernel
theorem dX2_ticksUntilHome_52 : decode cX2_ticksUntilHome 52 = .ok (.invokestatic 103, 3) := by decide +kernel
theorem dX2_ticksUntilHome_55 : decode cX2_ticksUntilHome 55 = .ok (.ireturn, 1) := by decide +kernel
theorem dX2_ticksUntilHome_56 : decode cX2_ticksUntilHome 56 = .ok (.iload_n 1, 1) := by decide +kernel
theorem dX2_ticksUntilHome_57 : decode cX2_ticksUntilHome 57 = .ok (.iload_n 2, 1) := by decide +kernel
theorem dX2_ticksUntilHome_58 : decode cX2_ticksUntilHome 58 = .ok (.invokestatic 106, 3) := by decide +kernel
theorem dX2_ticksUntilHome_61 : decode cX2_ticksUntilHome 61 = .ok (.istore_n 3, 1) := by decide +kernel
theorem dX2_ticksUntilHome_62 : decode cX2_ticksUntilHome 62 = .ok (.iload_n 3, 1) := by decide +kernel
theorem dX2_ticksUntilHome_63 : decode cX2_ticksUntilHome 63 = .ok (.ifCond .le 7, 3) := by decide +kernel
theorem dX2_ticksUntilHome_66 : decode cX2_ticksUntilHome 66 = .ok (.iload_n 3, 1) := by decide +kernel
theorem dX2_ticksUntilHome_67 : decode cX2_ticksUntilHome 67 = .ok (.goto 4, 3) := by decide +kernel
theorem dX2_ticksUntilHome_70 : decode cX2_ticksUntilHome 70 = .ok (.iconst (-1), 1) := by decide +kernel
theorem dX2_ticksUntilHome_71 : decode cX2_ticksUntilHome 71 = .ok (.ireturn, 1) := by decide +kernel
theorem dX2_detentsFromHome_0 : decode cX2_detentsFromHome 0 = .ok (.iconst 0, 1) := by decide +kernel
theorem dX2_detentsFromHome_1 : decode cX2_detentsFromHome 1 = .ok (.istore_n 2, 1) := by decide +kernel
theorem dX2_detentsFromHome_2 : decode cX2_detentsFromHome 2 = .ok (.aload_n 1, 1) := by decide +kernel
theorem dX2_detentsFromHome_3 : decode cX2_detentsFromHome 3 = .ok (.astore_n 3, 1) := by decide +kernel
theorem dX2_detentsFromHome_4 : decode cX2_detentsFromHome 4 = .ok (.aload_n 1, 1) := by decide +kernel
theorem dX2_detentsFromHome_5 : decode cX2_detentsFromHome 5 = .ok (.getfield 147, 3) := by decide +kernel
theorem dX2_detentsFromHome_8 : decode cX2_detentsFromHome 8 = .ok (.astore 4, 2) := by decide +kernel
theorem dX2_detentsFromHome_10 : decode cX2_detentsFromHome 10 = .ok (.aload 4, 2) := by decide +kernel
theorem dX2_detentsFromHome_12 : decode cX2_detentsFromHome 12 = .ok (.ifnull 32, 3) := by decide +kernel
theorem dX2_detentsFromHome_15 : decode cX2_detentsFromHome 15 = .ok (.iload_n 2, 1) := by decide +kernel
theorem dX2_detentsFromHome_16 : decode cX2_detentsFromHome 16 = .ok (.aload_n 0, 1) := by decide +kernel
theorem dX2_detentsFromHome_17 : decode cX2_detentsFromHome 17 = .ok (.aload_n 3, 1) := by decide +kernel
theorem dX2_detentsFromHome_18 : decode cX2_detentsFromHome 18 = .ok (.getfield 150, 3) := by decide +kernel
theorem dX2_detentsFromHome_21 : decode cX2_detentsFromHome 21 = .ok (.aload 4, 2) := by decide +kernel
theorem dX2_detentsFromHome_23 : decode cX2_detentsFromHome 23 = .ok (.invokevirtual 96, 3) := by decide +kernel
theorem dX2_detentsFromHome_26 : decode cX2_detentsFromHome 26 = .ok (.invokevirtual 190, 3) := by decide +kernel
theorem dX2_detentsFromHome_29 : decode cX2_detentsFromHome 29 = .ok (.iadd, 1) := by decide +kernel
theorem dX2_detentsFromHome_30 : decode cX2_detentsFromHome 30 = .ok (.istore_n 2, 1) := by decide +kernel
theorem dX2_detentsFromHome_31 : decode cX2_detentsFromHome 31 = .ok (.aload 4, 2) := by decide +kernel
theorem dX2_detentsFromHome_33 : decode cX2_detentsFromHome 33 = .ok (.astore_n 3, 1) := by decide +kernel
theorem dX2_detentsFromHome_34 : decode cX2_detentsFromHome 34 = .ok (.aload 4, 2) := by decide +kernel
theorem dX2_detentsFromHome_36 : decode cX2_detentsFromHome 36 = .ok (.getfield 147, 3) := by decide +kernel
theorem dX2_detentsFromHome_39 : decode cX2_detentsFromHome 39 = .ok (.astore 4, 2) := by decide +kernel
theorem dX2_detentsFromHome_41 : decode cX2_detentsFromHome 41 = .ok (.goto (-31), 3) := by decide +kernel
theorem dX2_detentsFromHome_44 : decode cX2_detentsFromHome 44 = .ok (.iload_n 2, 1) := by decide +kernel
theorem dX2_detentsFromHome_45 : decode cX2_detentsFromHome 45 = .ok (.ireturn, 1) := by decide +kernel
theorem dX2_detentsToEntry_0 : decode cX2_detentsToEntry 0 = .ok (.aload_n 0, 1) := by decide +kernel
theorem dX2_detentsToEntry_1 : decode cX2_detentsToEntry 1 = .ok (.iconst 2, 1) := by decide +kernel
theorem dX2_detentsToEntry_2 : decode cX2_detentsToEntry 2 = .ok (.invokevirtual 100, 3) := by decide +kernel
theorem dX2_detentsToEntry_5 : decode cX2_detentsToEntry 5 = .ok (.iconst 1, 1) := by decide +kernel
theorem dX2_detentsToEntry_6 : decode cX2_detentsToEntry 6 = .ok (.if_icmp .ne 13, 3) := by decide +kernel
theorem dX2_detentsToEntry_9 : decode cX2_detentsToEntry 9 = .ok (.iload_n 1, 1) := by decide +kernel
theorem dX2_detentsToEntry_10 : decode cX2_detentsToEntry 10 = .ok (.iload_n 2, 1) := by decide +kernel
theorem dX2_detentsToEntry_11 : decode cX2_detentsToEntry 11 = .ok (.iload_n 1, 1) := by decide +kernel
theorem dX2_detentsToEntry_12 : decode cX2_detentsToEntry 12 = .ok (.isub, 1) := by decide +kernel
theorem dX2_detentsToEntry_13 : decode cX2_detentsToEntry 13 = .ok (.invokestatic 103, 3) := by decide +kernel
theorem dX2_detentsToEntry_16 : decode cX2_detentsToEntry 16 = .ok (.goto 4, 3) := by decide +kernel
theorem dX2_detentsToEntry_19 : decode cX2_detentsToEntry 19 = .ok (.iload_n 1, 1) := by decide +kernel
theorem dX2_detentsToEntry_20 : decode cX2_detentsToEntry 20 = .ok (.ireturn, 1) := by decide +kernel
theorem dX2_perform_0 : decode cX2_perform 0 = .ok (.iload_n 1, 1) := by decide +kernel
theorem dX2_perform_1 : decode cX2_perform 1 = .ok (.bipush 112, 2) := by decide +kernel
theorem dX2_perform_3 : decode cX2_perform 3 = .ok (.if_icmp .ne 8, 3) := by decide +kernel
theorem dX2_perform_6 : decode cX2_perform 6 = .ok (.aload_n 0, 1) := by decide +kernel
theorem dX2_perform_7 : decode cX2_perform 7 = .ok (.invokevirtual 193, 3) := by decide +kernel
theorem dX2_perform_10 : decode cX2_perform 10 = .ok (.ireturn, 1) := by decide +kernel
theorem dX2_perform_11 : decode cX2_perform 11 = .ok (.iload_n 1, 1) := by decide +kernel
theorem dX2_perform_12 : decode cX2_perform 12 = .ok (.bipush 104, 2) := by decide +kernel
theorem dX2_perform_14 : decode cX2_perform 14 = .ok (.if_icmp .ne 11, 3) := by decide +kernel
theorem dX2_perform_17 : decode cX2_perform 17 = .ok (.aload_n 0, 1) := by decide +kernel
theorem dX2_perform_18 : decode cX2_perform 18 = .ok (.invokevirtual 196, 3) := by decide +kernel
theorem dX2_perform_21 : decode cX2_perform 21 = .ok (.pop, 1) := by decide +kernel
theorem dX2_perform_22 : decode cX2_perform 22 = .ok (.goto 35, 3) := by decide +kernel
theorem dX2_perform_25 : decode cX2_perform 25 = .ok (.iload_n 1, 1) := by decide +kernel
theorem dX2_perform_26 : decode cX2_perform 26 = .ok (.bipush 116, 2) := by decide +kernel
theorem dX2_perform_28 : decode cX2_perform 28 = .ok (.if_icmp .ne 12, 3) := by decide +kernel
theorem dX2_perform_31 : decode cX2_perform 31 = .ok (.aload_n 0, 1) := by decide +kernel
theorem dX2_perform_32 : decode cX2_perform 32 = .ok (.iload_n 2, 1) := by decide +kernel
theorem dX2_perform_33 : decode cX2_perform 33 = .ok (.invokevirtual 199, 3) := by decide +kernel
theorem dX2_perform_36 : decode cX2_perform 36 = .ok (.pop, 1) := by decide +kernel
theorem dX2_perform_37 : decode cX2_perform 37 = .ok (.goto 20, 3) := by decide +kernel
theorem dX2_perform_40 : decode cX2_perform 40 = .ok (.aload_n 0, 1) := by decide +kernel
theorem dX2_perform_41 : decode cX2_perform 41 = .ok (.iload_n 1, 1) := by decide +kernel
theorem dX2_perform_42 : decode cX2_perform 42 = .ok (.bipush 108, 2) := by decide +kernel
theorem dX2_perform_44 : decode cX2_perform 44 = .ok (.if_icmp .ne 8, 3) := by decide +kernel
theorem dX2_perform_47 : decode cX2_perform 47 = .ok (.iload_n 2, 1) := by decide +kernel
theorem dX2_perform_48 : decode cX2_perform 48 = .ok (.ineg, 1) := by decide +kernel
theorem dX2_perform_49 : decode cX2_perform 49 = .ok (.goto 4, 3) := by decide +kernel
theorem dX2_perform_52 : decode cX2_perform 52 = .ok (.iload_n 2, 1) := by decide +kernel
theorem dX2_perform_53 : decode cX2_perform 53 = .ok (.invokevirtual 202, 3) := by decide +kernel
theorem dX2_perform_56 : decode cX2_perform 56 = .ok (.pop, 1) := by decide +kernel
theorem dX2_perform_57 : decode cX2_perform 57 = .ok (.iconst 0, 1) := by decide +kernel
theorem dX2_perform_58 : decode cX2_perform 58 = .ok (.ireturn, 1) := by decide +kernel
theorem dX3_init_0 : decode cX3_init 0 = .ok (.aload_n 0, 1) := by decide +kernel
theorem dX3_init_1 : decode cX3_init 1 = .ok (.invokespecial 3, 3) := by decide +kernel
theorem dX3_init_4 : decode cX3_init 4 = .ok (.aload_n 0, 1) := by decide +kernel
theorem dX3_init_5 : decode cX3_init 5 = .ok (.bipush 8, 2) := by decide +kernel
theorem dX3_init_7 : decode cX3_init 7 = .ok (.anewarray 9, 3) := by decide +kernel
theorem dX3_init_10 : decode cX3_init 10 = .ok (.putfield 11, 3) := by decide +kernel
theorem dX3_init_13 : decode cX3_init 13 = .ok (.aload_n 0, 1) := by decide +kernel
theorem dX3_init_14 : decode cX3_init 14 = .ok (.bipush 8, 2) := by decide +kernel
theorem dX3_init_16 : decode cX3_init 16 = .ok (.newarray .int, 2) := by decide +kernel
theorem dX3_init_18 : decode cX3_init 18 = .ok (.putfield 17, 3) := by decide +kernel
theorem dX3_init_21 : decode cX3_init 21 = .ok (.return_, 1) := by decide +kernel
theorem dX3_keep_0 : decode cX3_keep 0 = .ok (.aload_n 0, 1) := by decide +kernel
theorem dX3_keep_1 : decode cX3_keep 1 = .ok (.getfield 21, 3) := by decide +kernel
theorem dX3_keep_4 : decode cX3_keep 4 = .ok (.bipush 8, 2) := by decide +kernel
theorem dX3_keep_6 : decode cX3_keep 6 = .ok (.if_icmp .lt 7, 3) := by decide +kernel
theorem dX3_keep_9 : decode cX3_keep 9 = .ok (.aload_n 0, 1) := by decide +kernel
theorem dX3_keep_10 : decode cX3_keep 10 = .ok (.invokevirtual 25, 3) := by decide +kernel
theorem dX3_keep_13 : decode cX3_keep 13 = .ok (.aload_n 0, 1) := by decide +kernel
theorem dX3_keep_14 : decode cX3_keep 14 = .ok (.getfield 21, 3) := by decide +kernel
theorem dX3_keep_17 : decode cX3_keep 17 = .ok (.ifCond .lt 57, 3) := by decide +kernel
theorem dX3_keep_20 : decode cX3_keep 20 = .ok (.aload_n 0, 1) := by decide +kernel
theorem dX3_keep_21 : decode cX3_keep 21 = .ok (.getfield 21, 3) := by decide +kernel
theorem dX3_keep_24 : decode cX3_keep 24 = .ok (.aload_n 0, 1) := by decide +kernel
theorem dX3_keep_25 : decode cX3_keep 25 = .ok (.getfield 11, 3) := by decide +kernel
theorem dX3_keep_28 : decode cX3_keep 28 = .ok (.arraylength, 1) := by decide +kernel
theorem dX3_keep_29 : decode cX3_keep 29 = .ok (.if_icmp .ge 45, 3) := by decide +kernel
theorem dX3_keep_32 : decode cX3_keep 32 = .ok (.aload_n 0, 1) := by decide +kernel
theorem dX3_keep_33 : decode cX3_keep 33 = .ok (.getfield 21, 3) := by decide +kernel
theorem dX3_keep_36 : decode cX3_keep 36 = .ok (.aload_n 0, 1) := by decide +kernel
theorem dX3_keep_37 : decode cX3_keep 37 = .ok (.getfield 17, 3) := by decide +kernel
theorem dX3_keep_40 : decode cX3_keep 40 = .ok (.arraylength, 1) := by decide +kernel
theorem dX3_keep_41 : decode cX3_keep 41 = .ok (.if_icmp .ge 33, 3) := by decide +kernel
theorem dX3_keep_44 : decode cX3_keep 44 = .ok (.aload_n 0, 1) := by decide +kernel
theorem dX3_keep_45 : decode cX3_keep 45 = .ok (.getfield 11, 3) := by decide +kernel
theorem dX3_keep_48 : decode cX3_keep 48 = .ok (.aload_n 0, 1) := by decide +kernel
theorem dX3_keep_49 : decode cX3_keep 49 = .ok (.getfield 21, 3) := by decide +kernel
theorem dX3_keep_52 : decode cX3_keep 52 = .ok (.aload_n 1, 1) := by decide +kernel
theorem dX3_keep_53 : decode cX3_keep 53 = .ok (.aastore, 1) := by decide +kernel
theorem dX3_keep_54 : decode cX3_keep 54 = .ok (.aload_n 0, 1) := by decide +kernel
theorem dX3_keep_55 : decode cX3_keep 55 = .ok (.getfield 17, 3) := by decide +kernel
theorem dX3_keep_58 : decode cX3_keep 58 = .ok (.aload_n 0, 1) := by decide +kernel
theorem dX3_keep_59 : decode cX3_keep 59 = .ok (.getfield 21, 3) := by decide +kernel
theorem dX3_keep_62 : decode cX3_keep 62 = .ok (.iload_n 2, 1) := by decide +kernel
theorem dX3_keep_63 : decode cX3_keep 63 = .ok (.iastore, 1) := by decide +kernel
theorem dX3_keep_64 : decode cX3_keep 64 = .ok (.aload_n 0, 1) := by decide +kernel
theorem dX3_keep_65 : decode cX3_keep 65 = .ok (.dup, 1) := by decide +kernel
theorem dX3_keep_66 : decode cX3_keep 66 = .ok (.getfield 21, 3) := by decide +kernel
theorem dX3_keep_69 : decode cX3_keep 69 = .ok (.iconst 1, 1) := by decide +kernel
theorem dX3_keep_70 : decode cX3_keep 70 = .ok (.iadd, 1) := by decide +kernel
theorem dX3_keep_71 : decode cX3_keep 71 = .ok (.putfield 21, 3) := by decide +kernel
theorem dX3_keep_74 : decode cX3_keep 74 = .ok (.return_, 1) := by decide +kernel
theorem dX3_removeOldest_0 : decode cX3_removeOldest 0 = .ok (.iconst 1, 1) := by decide +kernel
theorem dX3_removeOldest_1 : decode cX3_removeOldest 1 = .ok (.istore_n 1, 1) := by decide +kernel
theorem dX3_removeOldest_2 : decode cX3_removeOldest 2 = .ok (.iload_n 1, 1) := by decide +kernel
theorem dX3_removeOldest_3 : decode cX3_removeOldest 3 = .ok (.aload_n 0, 1) := by decide +kernel
theorem dX3_removeOldest_4 : decode cX3_removeOldest 4 = .ok (.getfield 11, 3) := by decide +kernel
theorem dX3_removeOldest_7 : decode cX3_removeOldest 7 = .ok (.arraylength, 1) := by decide +kernel
theorem dX3_removeOldest_8 : decode cX3_removeOldest 8 = .ok (.if_icmp .ge 46, 3) := by decide +kernel
theorem dX3_removeOldest_11 : decode cX3_removeOldest 11 = .ok (.iload_n 1, 1) := by decide +kernel
theorem dX3_removeOldest_12 : decode cX3_removeOldest 12 = .ok (.aload_n 0, 1) := by decide +kernel
theorem dX3_removeOldest_13 : decode cX3_removeOldest 13 = .ok (.getfield 17, 3) := by decide +kernel
theorem dX3_removeOldest_16 : decode cX3_removeOldest 16 = .ok (.arraylength, 1) := by decide +kernel
theorem dX3_removeOldest_17 : decode cX3_removeOldest 17 = .ok (.if_icmp .ge 37, 3) := by decide +kernel
theorem dX3_removeOldest_20 : decode cX3_removeOldest 20 = .ok (.aload_n 0, 1) := by decide +kernel
theorem dX3_removeOldest_21 : decode cX3_removeOldest 21 = .ok (.getfield 11, 3) := by decide +kernel
theorem dX3_removeOldest_24 : decode cX3_removeOldest 24 = .ok (.iload_n 1, 1) := by decide +kernel
theorem dX3_removeOldest_25 : decode cX3_removeOldest 25 = .ok (.iconst 1, 1) := by decide +kernel
theorem dX3_removeOldest_26 : decode cX3_removeOldest 26 = .ok (.isub, 1) := by decide +kernel
theorem dX3_removeOldest_27 : decode cX3_removeOldest 27 = .ok (.aload_n 0, 1) := by decide +kernel
theorem dX3_removeOldest_28 : decode cX3_removeOldest 28 = .ok (.getfield 11, 3) := by decide +kernel
theorem dX3_removeOldest_31 : decode cX3_removeOldest 31 = .ok (.iload_n 1, 1) := by decide +kernel
theorem dX3_removeOldest_32 : decode cX3_removeOldest 32 = .ok (.aaload, 1) := by decide +kernel
theorem dX3_removeOldest_33 : decode cX3_removeOldest 33 = .ok (.aastore, 1) := by decide +kernel
theorem dX3_removeOldest_34 : decode cX3_removeOldest 34 = .ok (.aload_n 0, 1) := by decide +kernel
theorem dX3_removeOldest_35 : decode cX3_removeOldest 35 = .ok (.getfield 17, 3) := by decide +kernel
theorem dX3_removeOldest_38 : decode cX3_removeOldest 38 = .ok (.iload_n 1, 1) := by decide +kernel
theorem dX3_removeOldest_39 : decode cX3_removeOldest 39 = .ok (.iconst 1, 1) := by decide +kernel
theorem dX3_removeOldest_40 : decode cX3_removeOldest 40 = .ok (.isub, 1) := by decide +kernel
theorem dX3_removeOldest_41 : decode cX3_removeOldest 41 = .ok (.aload_n 0, 1) := by decide +kernel
theorem dX3_removeOldest_42 : decode cX3_removeOldest 42 = .ok (.getfield 17, 3) := by decide +kernel
theorem dX3_removeOldest_45 : decode cX3_removeOldest 45 = .ok (.iload_n 1, 1) := by decide +kernel
theorem dX3_removeOldest_46 : decode cX3_removeOldest 46 = .ok (.iaload, 1) := by decide +kernel
theorem dX3_removeOldest_47 : decode cX3_removeOldest 47 = .ok (.iastore, 1) := by decide +kernel
theorem dX3_removeOldest_48 : decode cX3_removeOldest 48 = .ok (.iinc 1 1, 3) := by decide +kernel
theorem dX3_removeOldest_51 : decode cX3_removeOldest 51 = .ok (.goto (-49), 3) := by decide +kernel
theorem dX3_removeOldest_54 : decode cX3_removeOldest 54 = .ok (.aload_n 0, 1) := by decide +kernel
theorem dX3_removeOldest_55 : decode cX3_removeOldest 55 = .ok (.invokevirtual 28, 3) := by decide +kernel
theorem dX3_removeOldest_58 : decode cX3_removeOldest 58 = .ok (.return_, 1) := by decide +kernel
theorem dX3_latestItem_0 : decode cX3_latestItem 0 = .ok (.aload_n 0, 1) := by decide +kernel
theorem dX3_latestItem_1 : decode cX3_latestItem 1 = .ok (.getfield 21, 3) := by decide +kernel
theorem dX3_latestItem_4 : decode cX3_latestItem 4 = .ok (.ifCond .le 29, 3) := by decide +kernel
theorem dX3_latestItem_7 : decode cX3_latestItem 7 = .ok (.aload_n 0, 1) := by decide +kernel
theorem dX3_latestItem_8 : decode cX3_latestItem 8 = .ok (.getfield 21, 3) := by decide +kernel
theorem dX3_latestItem_11 : decode cX3_latestItem 11 = .ok (.aload_n 0, 1) := by decide +kernel
theorem dX3_latestItem_12 : decode cX3_latestItem 12 = .ok (.getfield 11, 3) := by decide +kernel
theorem dX3_latestItem_15 : decode cX3_latestItem 15 = .ok (.arraylength, 1) := by decide +kernel
theorem dX3_latestItem_16 : decode cX3_latestItem 16 = .ok (.if_icmp .gt 17, 3) := by decide +kernel
theorem dX3_latestItem_19 : decode cX3_latestItem 19 = .ok (.aload_n 0, 1) := by decide +kernel
theorem dX3_latestItem_20 : decode cX3_latestItem 20 = .ok (.getfield 11, 3) := by decide +kernel
theorem dX3_latestItem_23 : decode cX3_latestItem 23 = .ok (.aload_n 0, 1) := by decide +kernel
theorem dX3_latestItem_24 : decode cX3_latestItem 24 = .ok (.getfield 21, 3) := by decide +kernel
theorem dX3_latestItem_27 : decode cX3_latestItem 27 = .ok (.iconst 1, 1) := by decide +kernel
theorem dX3_latestItem_28 : decode cX3_latestItem 28 = .ok (.isub, 1) := by decide +kernel
theorem dX3_latestItem_29 : decode cX3_latestItem 29 = .ok (.aaload, 1) := by decide +kernel
theorem dX3_latestItem_30 : decode cX3_latestItem 30 = .ok (.goto 4, 3) := by decide +kernel
theorem dX3_latestItem_33 : decode cX3_latestItem 33 = .ok (.aconst_null, 1) := by decide +kernel
theorem dX3_latestItem_34 : decode cX3_latestItem 34 = .ok (.areturn, 1) := by decide +kernel
theorem dX3_latestValue_0 : decode cX3_latestValue 0 = .ok (.aload_n 0, 1) := by decide +kernel
theorem dX3_latestValue_1 : decode cX3_latestValue 1 = .ok (.getfield 21, 3) := by decide +kernel
theorem dX3_latestValue_4 : decode cX3_latestValue 4 = .ok (.ifCond .le 29, 3) := by decide +kernel
theorem dX3_latestValue_7 : decode cX3_latestValue 7 = .ok (.aload_n 0, 1) := by decide +kernel
theorem dX3_latestValue_8 : decode cX3_latestValue 8 = .ok (.getfield 21, 3) := by decide +kernel
theorem dX3_latestValue_11 : decode cX3_latestValue 11 = .ok (.aload_n 0, 1) := by decide +kernel
theorem dX3_latestValue_12 : decode cX3_latestValue 12 = .ok (.getfield 17, 3) := by decide +kernel
theorem dX3_latestValue_15 : decode cX3_latestValue 15 = .ok (.arraylength, 1) := by decide +kernel
theorem dX3_latestValue_16 : decode cX3_latestValue 16 = .ok (.if_icmp .gt 17, 3) := by decide +kernel
theorem dX3_latestValue_19 : decode cX3_latestValue 19 = .ok (.aload_n 0, 1) := by decide +kernel
theorem dX3_latestValue_20 : decode cX3_latestValue 20 = .ok (.getfield 17, 3) := by decide +kernel
theorem dX3_latestValue_23 : decode cX3_latestValue 23 = .ok (.aload_n 0, 1) := by decide +kernel
theorem dX3_latestValue_24 : decode cX3_latestValue 24 = .ok (.getfield 21, 3) := by decide +kernel
theorem dX3_latestValue_27 : decode cX3_latestValue 27 = .ok (.iconst 1, 1) := by decide +kernel
theorem dX3_latestValue_28 : decode cX3_latestValue 28 = .ok (.isub, 1) := by decide +kernel
theorem dX3_latestValue_29 : decode cX3_latestValue 29 = .ok (.iaload, 1) := by decide +kernel
theorem dX3_latestValue_30 : decode cX3_latestValue 30 = .ok (.goto 4, 3) := by decide +kernel
theorem dX3_latestValue_33 : decode cX3_latestValue 33 = .ok (.iconst 0, 1) := by decide +kernel
theorem dX3_latestValue_34 : decode cX3_latestValue 34 = .ok (.ireturn, 1) := by decide +kernel
theorem dX3_removeLatest_0 : decode cX3_removeLatest 0 = .ok (.aload_n 0, 1) := by decide +kernel
theorem dX3_removeLatest_1 : decode cX3_removeLatest 1 = .ok (.getfield 21, 3) := by decide +kernel
theorem dX3_removeLatest_4 : decode cX3_removeLatest 4 = .ok (.ifCond .le 13, 3) := by decide +kernel
theorem dX3_removeLatest_7 : decode cX3_removeLatest 7 = .ok (.aload_n 0, 1) := by decide +kernel
theorem dX3_removeLatest_8 : decode cX3_removeLatest 8 = .ok (.dup, 1) := by decide +kernel
theorem dX3_removeLatest_9 : decode cX3_removeLatest 9 = .ok (.getfield 21, 3) := by decide +kernel
theorem dX3_removeLatest_12 : decode cX3_removeLatest 12 = .ok (.iconst 1, 1) := by decide +kernel
theorem dX3_removeLatest_13 : decode cX3_removeLatest 13 = .ok (.isub, 1) := by decide +kernel
theorem dX3_removeLatest_14 : decode cX3_removeLatest 14 = .ok (.putfield 21, 3) := by decide +kernel
theorem dX3_removeLatest_17 : decode cX3_removeLatest 17 = .ok (.return_, 1) := by decide +kernel
theorem dX3_removeAll_0 : decode cX3_removeAll 0 = .ok (.aload_n 0, 1) := by decide +kernel
theorem dX3_removeAll_1 : decode cX3_removeAll 1 = .ok (.iconst 0, 1) := by decide +kernel
theorem dX3_removeAll_2 : decode cX3_removeAll 2 = .ok (.putfield 21, 3) := by decide +kernel
theorem dX3_removeAll_5 : decode cX3_removeAll 5 = .ok (.return_, 1) := by decide +kernel
theorem dX4_init_0 : decode cX4_init 0 = .ok (.aload_n 0, 1) := by decide +kernel
theorem dX4_init_1 : decode cX4_init 1 = .ok (.invokespecial 3, 3) := by decide +kernel
theorem dX4_init_4 : decode cX4_init 4 = .ok (.aload_n 0, 1) := by decide +kernel
theorem dX4_init_5 : decode cX4_init 5 = .ok (.iload_n 1, 1) := by decide +kernel
theorem dX4_init_6 : decode cX4_init 6 = .ok (.putfield 9, 3) := by decide +kernel
theorem dX4_init_9 : decode cX4_init 9 = .ok (.aload_n 0, 1) := by decide +kernel
theorem dX4_init_10 : decode cX4_init 10 = .ok (.iload_n 2, 1) := by decide +kernel
theorem dX4_init_11 : decode cX4_init 11 = .ok (.putfield 15, 3) := by decide +kernel
theorem dX4_init_14 : decode cX4_init 14 = .ok (.aload_n 0, 1) := by decide +kernel
theorem dX4_init_15 : decode cX4_init 15 = .ok (.aload_n 3, 1) := by decide +kernel
theorem dX4_init_16 : decode cX4_init 16 = .ok (.putfield 18, 3) := by decide +kernel
theorem dX4_init_19 : decode cX4_init 19 = .ok (.aload_n 0, 1) := by decide +kernel
theorem dX4_init_20 : decode cX4_init 20 = .ok (.aload_n 3, 1) := by decide +kernel
theorem dX4_init_21 : decode cX4_init 21 = .ok (.ifnonnull 7, 3) := by decide +kernel
theorem dX4_init_24 : decode cX4_init 24 = .ok (.iconst 0, 1) := by decide +kernel
theorem dX4_init_25 : decode cX4_init 25 = .ok (.goto 9, 3) := by decide +kernel
theorem dX4_init_28 : decode cX4_init 28 = .ok (.aload_n 3, 1) := by decide +kernel
theorem dX4_init_29 : decode cX4_init 29 = .ok (.getfield 22, 3) := by decide +kernel
theorem dX4_init_32 : decode cX4_init 32 = .ok (.iconst 1, 1) := by decide +kernel
theorem dX4_init_33 : decode cX4_init 33 = .ok (.iadd, 1) := by decide +kernel
theorem dX4_init_34 : decode cX4_init 34 = .ok (.putfield 22, 3) := by decide +kernel
theorem dX4_init_37 : decode cX4_init 37 = .ok (.aload_n 0, 1) := by decide +kernel
theorem dX4_init_38 : decode cX4_init 38 = .ok (.aload_n 3, 1) := by decide +kernel
theorem dX4_init_39 : decode cX4_init 39 = .ok (.ifnonnull 7, 3) := by decide +kernel
theorem dX4_init_42 : decode cX4_init 42 = .ok (.iconst 0, 1) := by decide +kernel
theorem dX4_init_43 : decode cX4_init 43 = .ok (.goto 7, 3) := by decide +kernel
theorem dX4_init_46 : decode cX4_init 46 = .ok (.aload_n 3, 1) := by decide +kernel
theorem dX4_init_47 : decode cX4_init 47 = .ok (.getfield 25, 3) := by decide +kernel
theorem dX4_init_50 : decode cX4_init 50 = .ok (.putfield 28, 3) := by decide +kernel
theorem dX4_init_53 : decode cX4_init 53 = .ok (.aload_n 0, 1) := by decide +kernel
theorem dX4_init_54 : decode cX4_init 54 = .ok (.iload 4, 2) := by decide +kernel
theorem dX4_init_56 : decode cX4_init 56 = .ok (.putfield 31, 3) := by decide +kernel
theorem dX4_init_59 : decode cX4_init 59 = .ok (.aload_n 0, 1) := by decide +kernel
theorem dX4_init_60 : decode cX4_init 60 = .ok (.iload 5, 2) := by decide +kernel
theorem dX4_init_62 : decode cX4_init 62 = .ok (.putfield 34, 3) := by decide +kernel
theorem dX4_init_65 : decode cX4_init 65 = .ok (.aload_n 0, 1) := by decide +kernel
theorem dX4_init_66 : decode cX4_init 66 = .ok (.iload 6, 2) := by decide +kernel
theorem dX4_init_68 : decode cX4_init 68 = .ok (.putfield 37, 3) := by decide +kernel
theorem dX4_init_71 : decode cX4_init 71 = .ok (.aload_n 0, 1) := by decide +kernel
theorem dX4_init_72 : decode cX4_init 72 = .ok (.bipush 8, 2) := by decide +kernel
theorem dX4_init_74 : decode cX4_init 74 = .ok (.anewarray 10, 3) := by decide +kernel
theorem dX4_init_77 : decode cX4_init 77 = .ok (.putfield 40, 3) := by decide +kernel
theorem dX4_init_80 : decode cX4_init 80 = .ok (.aload_n 0, 1) := by decide +kernel
theorem dX4_init_81 : decode cX4_init 81 = .ok (.iload 4, 2) := by decide +kernel
theorem dX4_init_83 : decode cX4_init 83 = .ok (.putfield 44, 3) := by decide +kernel
theorem dX4_init_86 : decode cX4_init 86 = .ok (.aload_n 0, 1) := by decide +kernel
theorem dX4_init_87 : decode cX4_init 87 = .ok (.iconst (-1), 1) := by decide +kernel
theorem dX4_init_88 : decode cX4_init 88 = .ok (.putfield 47, 3) := by decide +kernel
theorem dX4_init_91 : decode cX4_init 91 = .ok (.return_, 1) := by decide +kernel
theorem dX4_locked_0 : decode cX4_locked 0 = .ok (.aload_n 0, 1) := by decide +kernel
theorem dX4_locked_1 : decode cX4_locked 1 = .ok (.getfield 47, 3) := by decide +kernel
theorem dX4_locked_4 : decode cX4_locked 4 = .ok (.iconst (-1), 1) := by decide +kernel
theorem dX4_locked_5 : decode cX4_locked 5 = .ok (.if_icmp .eq 7, 3) := by decide +kernel
theorem dX4_locked_8 : decode cX4_locked 8 = .ok (.iconst 1, 1) := by decide +kernel
theorem dX4_locked_9 : decode cX4_locked 9 = .ok (.goto 4, 3) := by decide +kernel
theorem dX4_locked_12 : decode cX4_locked 12 = .ok (.iconst 0, 1) := by decide +kernel
theorem dX4_locked_13 : decode cX4_locked 13 = .ok (.ireturn, 1) := by decide +kernel
theorem dX4_closed_0 : decode cX4_closed 0 = .ok (.aload_n 0, 1) := by decide +kernel
theorem dX4_closed_1 : decode cX4_closed 1 = .ok (.invokevirtual 50, 3) := by decide +kernel
theorem dX4_closed_4 : decode cX4_closed 4 = .ok (.ifCond .eq 14, 3) := by decide +kernel
theorem dX4_closed_7 : decode cX4_closed 7 = .ok (.aload_n 0, 1) := by decide +kernel
theorem dX4_closed_8 : decode cX4_closed 8 = .ok (.getfield 54, 3) := by decide +kernel
theorem dX4_closed_11 : decode cX4_closed 11 = .ok (.ifCond .ne 7, 3) := by decide +kernel
theorem dX4_closed_14 : decode cX4_closed 14 = .ok (.iconst 1, 1) := by decide +kernel
theorem dX4_closed_15 : decode cX4_closed 15 = .ok (.goto 4, 3) := by decide +kernel
theorem dX4_closed_18 : decode cX4_closed 18 = .ok (.iconst 0, 1) := by decide +kernel
theorem dX4_closed_19 : decode cX4_closed 19 = .ok (.ireturn, 1) := by decide +kernel
theorem dX4_entries_0 : decode cX4_entries 0 = .ok (.aload_n 0, 1) := by decide +kernel
theorem dX4_entries_1 : decode cX4_entries 1 = .ok (.getfield 18, 3) := by decide +kernel
theorem dX4_entries_4 : decode cX4_entries 4 = .ok (.ifnonnull 10, 3) := by decide +kernel
theorem dX4_entries_7 : decode cX4_entries 7 = .ok (.aload_n 0, 1) := by decide +kernel
theorem dX4_entries_8 : decode cX4_entries 8 = .ok (.getfield 25, 3) := by decide +kernel
theorem dX4_entries_11 : decode cX4_entries 11 = .ok (.goto 9, 3) := by decide +kernel
theorem dX4_entries_14 : decode cX4_entries 14 = .ok (.aload_n 0, 1) := by decide +kernel
theorem dX4_entries_15 : decode cX4_entries 15 = .ok (.getfield 25, 3) := by decide +kernel
theorem dX4_entries_18 : decode cX4_entries 18 = .ok (.iconst 1, 1) := by decide +kernel
theorem dX4_entries_19 : decode cX4_entries 19 = .ok (.iadd, 1) := by decide +kernel
theorem dX4_entries_20 : decode cX4_entries 20 = .ok (.ireturn, 1) := by decide +kernel
theorem dX4_childAt_0 : decode cX4_childAt 0 = .ok (.iload_n 1, 1) := by decide +kernel
theorem dX4_childAt_1 : decode cX4_childAt 1 = .ok (.ifCond .lt 29, 3) := by decide +kernel
theorem dX4_childAt_4 : decode cX4_childAt 4 = .ok (.iload_n 1, 1) := by decide +kernel
theorem dX4_childAt_5 : decode cX4_childAt 5 = .ok (.aload_n 0, 1) := by decide +kernel
theorem dX4_childAt_6 : decode cX4_childAt 6 = .ok (.getfield 25, 3) := by decide +kernel
theorem dX4_childAt_9 : decode cX4_childAt 9 = .ok (.if_icmp .ge 21, 3) := by decide +kernel
theorem dX4_childAt_12 : decode cX4_childAt 12 = .ok (.iload_n 1, 1) := by decide +kernel
theorem dX4_childAt_13 : decode cX4_childAt 13 = .ok (.aload_n 0, 1) := by decide +kernel
theorem dX4_childAt_14 : decode cX4_childAt 14 = .ok (.getfield 40, 3) := by decide +kernel
theorem dX4_childAt_17 : decode cX4_childAt 17 = .ok (.arraylength, 1) := by decide +kernel
theorem dX4_childAt_18 : decode cX4_childAt 18 = .ok (.if_icmp .ge 12, 3) := by decide +kernel
theorem dX4_childAt_21 : decode cX4_childAt 21 = .ok (.aload_n 0, 1) := by decide +kernel
theorem dX4_childAt_22 : decode cX4_childAt 22 = .ok (.getfield 40, 3) := by decide +kernel
theorem dX4_childAt_25 : decode cX4_childAt 25 = .ok (.iload_n 1, 1) := by decide +kernel
theorem dX4_childAt_26 : decode cX4_childAt 26 = .ok (.aaload, 1) := by decide +kernel
theorem dX4_childAt_27 : decode cX4_childAt 27 = .ok (.goto 4, 3) := by decide +kernel
theorem dX4_childAt_30 : decode cX4_childAt 30 = .ok (.aconst_null, 1) := by decide +kernel
theorem dX4_childAt_31 : decode cX4_childAt 31 = .ok (.areturn, 1) := by decide +kernel
theorem dX4_keepChild_0 : decode cX4_keepChild 0 = .ok (.aload_n 0, 1) := by decide +kernel
theorem dX4_keepChild_1 : decode cX4_keepChild 1 = .ok (.getfield 25, 3) := by decide +kernel
theorem dX4_keepChild_4 : decode cX4_keepChild 4 = .ok (.ifCond .lt 35, 3) := by decide +kernel
theorem dX4_keepChild_7 : decode cX4_keepChild 7 = .ok (.aload_n 0, 1) := by decide +kernel
theorem dX4_keepChild_8 : decode cX4_keepChild 8 = .ok (.getfield 25, 3) := by decide +kernel
theorem dX4_keepChild_11 : decode cX4_keepChild 11 = .ok (.aload_n 0, 1) := by decide +kernel
theorem dX4_keepChild_12 : decode cX4_keepChild 12 = .ok (.getfield 40, 3) := by decide +kernel
theorem dX4_keepChild_15 : decode cX4_keepChild 15 = .ok (.arraylength, 1) := by decide +kernel
theorem dX4_keepChild_16 : decode cX4_keepChild 16 = .ok (.if_icmp .ge 23, 3) := by decide +kernel
theorem dX4_keepChild_19 : decode cX4_keepChild 19 = .ok (.aload_n 0, 1) := by decide +kernel
theorem dX4_keepChild_20 : decode cX4_keepChild 20 = .ok (.getfield 40, 3) := by decide +kernel
theorem dX4_keepChild_23 : decode cX4_keepChild 23 = .ok (.aload_n 0, 1) := by decide +kernel
theorem dX4_keepChild_24 : decode cX4_keepChild 24 = .ok (.getfield 25, 3) := by decide +kernel
theorem dX4_keepChild_27 : decode cX4_keepChild 27 = .ok (.aload_n 1, 1) := by decide +kernel
theorem dX4_keepChild_28 : decode cX4_keepChild 28 = .ok (.aastore, 1) := by decide +kernel
theorem dX4_keepChild_29 : decode cX4_keepChild 29 = .ok (.aload_n 0, 1) := by decide +kernel
theorem dX4_keepChild_30 : decode cX4_keepChild 30 = .ok (.dup, 1) := by decide +kernel
theorem dX4_keepChild_31 : decode cX4_keepChild 31 = .ok (.getfield 25, 3) := by decide +kernel
theorem dX4_keepChild_34 : decode cX4_keepChild 34 = .ok (.iconst 1, 1) := by decide +kernel
theorem dX4_keepChild_35 : decode cX4_keepChild 35 = .ok (.iadd, 1) := by decide +kernel
theorem dX4_keepChild_36 : decode cX4_keepChild 36 = .ok (.putfield 25, 3) := by decide +kernel
theorem dX4_keepChild_39 : decode cX4_keepChild 39 = .ok (.return_, 1) := by decide +kernel
theorem dX5_init_0 : decode cX5_init 0 = .ok (.aload_n 0, 1) := by decide +kernel
theorem dX5_init_1 : decode cX5_init 1 = .ok (.invokespecial 3, 3) := by decide +kernel
theorem dX5_init_4 : decode cX5_init 4 = .ok (.aload_n 0, 1) := by decide +kernel
theorem dX5_init_5 : decode cX5_init 5 = .ok (.bipush 24, 2) := by decide +kernel
theorem dX5_init_7 : decode cX5_init 7 = .ok (.newarray .int, 2) := by decide +kernel
theorem dX5_init_9 : decode cX5_init 9 = .ok (.putfield 9, 3) := by decide +kernel
theorem dX5_init_12 : decode cX5_init 12 = .ok (.return_, 1) := by decide +kernel
theorem dX5_save_0 : decode cX5_save 0 = .ok (.iconst 0, 1) := by decide +kernel
theorem dX5_save_1 : decode cX5_save 1 = .ok (.istore_n 2, 1) := by decide +kernel
theorem dX5_save_2 : decode cX5_save 2 = .ok (.iconst 0, 1) := by decide +kernel
theorem dX5_save_3 : decode cX5_save 3 = .ok (.istore_n 3, 1) := by decide +kernel
theorem dX5_save_4 : decode cX5_save 4 = .ok (.iload_n 3, 1) := by decide +kernel
theorem dX5_save_5 : decode cX5_save 5 = .ok (.aload_n 1, 1) := by decide +kernel
theorem dX5_save_6 : decode cX5_save 6 = .ok (.getfield 15, 3) := by decide +kernel
theorem dX5_save_9 : decode cX5_save 9 = .ok (.if_icmp .ge 52, 3) := by decide +kernel
theorem dX5_save_12 : decode cX5_save 12 = .ok (.iload_n 3, 1) := by decide +kernel
theorem dX5_save_13 : decode cX5_save 13 = .ok (.aload_n 0, 1) := by decide +kernel
theorem dX5_save_14 : decode cX5_save 14 = .ok (.getfield 9, 3) := by decide +kernel
theorem dX5_save_17 : decode cX5_save 17 = .ok (.arraylength, 1) := by decide +kernel
theorem dX5_save_18 : decode cX5_save 18 = .ok (.if_icmp .ge 43, 3) := by decide +kernel
theorem dX5_save_21 : decode cX5_save 21 = .ok (.aload_n 1, 1) := by decide +kernel
theorem dX5_save_22 : decode cX5_save 22 = .ok (.iload_n 3, 1) := by decide +kernel
theorem dX5_save_23 : decode cX5_save 23 = .ok (.invokevirtual 21, 3) := by decide +kernel
theorem dX5_save_26 : decode cX5_save 26 = .ok (.astore 4, 2) := by decide +kernel
theorem dX5_save_28 : decode cX5_save 28 = .ok (.aload 4, 2) := by decide +kernel
theorem dX5_save_30 : decode cX5_save 30 = .ok (.ifnull 25, 3) := by decide +kernel
theorem dX5_save_33 : decode cX5_save 33 = .ok (.aload 4, 2) := by decide +kernel
theorem dX5_save_35 : decode cX5_save 35 = .ok (.getfield 25, 3) := by decide +kernel
theorem dX5_save_38 : decode cX5_save 38 = .ok (.ifCond .eq 17, 3) := by decide +kernel
theorem dX5_save_41 : decode cX5_save 41 = .ok (.aload_n 0, 1) := by decide +kernel
theorem dX5_save_42 : decode cX5_save 42 = .ok (.getfield 9, 3) := by decide +kernel
theorem dX5_save_45 : decode cX5_save 45 = .ok (.iload_n 3, 1) := by decide +kernel
theorem dX5_save_46 : decode cX5_save 46 = .ok (.aload 4, 2) := by decide +kernel
theorem dX5_save_48 : decode cX5_save 48 = .ok (.getfield 30, 3) := by decide +kernel
theorem dX5_save_51 : decode cX5_save 51 = .ok (.iastore, 1) := by decide +kernel
theorem dX5_save_52 : decode cX5_save 52 = .ok (.iinc 2 1, 3) := by decide +kernel
theorem dX5_save_55 : decode cX5_save 55 = .ok (.iinc 3 1, 3) := by decide +kernel
theorem dX5_save_58 : decode cX5_save 58 = .ok (.goto (-54), 3) := by decide +kernel
theorem dX5_save_61 : decode cX5_save 61 = .ok (.aload_n 0, 1) := by decide +kernel
theorem dX5_save_62 : decode cX5_save 62 = .ok (.aload_n 1, 1) := by decide +kernel
theorem dX5_save_63 : decode cX5_save 63 = .ok (.getfield 15, 3) := by decide +kernel
theorem dX5_save_66 : decode cX5_save 66 = .ok (.putfield 33, 3) := by decide +kernel
theorem dX5_save_69 : decode cX5_save 69 = .ok (.aload_n 0, 1) := by decide +kernel
theorem dX5_save_70 : decode cX5_save 70 = .ok (.iconst 1, 1) := by decide +kernel
theorem dX5_save_71 : decode cX5_save 71 = .ok (.putfield 34, 3) := by decide +kernel
theorem dX5_save_74 : decode cX5_save 74 = .ok (.iload_n 2, 1) := by decide +kernel
theorem dX5_save_75 : decode cX5_save 75 = .ok (.ireturn, 1) := by decide +kernel
theorem dX5_load_0 : decode cX5_load 0 = .ok (.iconst 0, 1) := by decide +kernel
theorem dX5_load_1 : decode cX5_load 1 = .ok (.istore_n 2, 1) := by decide +kernel
theorem dX5_load_2 : decode cX5_load 2 = .ok (.iconst 0, 1) := by decide +kernel
theorem dX5_load_3 : decode cX5_load 3 = .ok (.istore_n 3, 1) := by decide +kernel
theorem dX5_load_4 : decode cX5_load 4 = .ok (.iload_n 3, 1) := by decide +kernel
theorem dX5_load_5 : decode cX5_load 5 = .ok (.aload_n 0, 1) := by decide +kernel
theorem dX5_load_6 : decode cX5_load 6 = .ok (.getfield 33, 3) := by decide +kernel
theorem dX5_load_9 : decode cX5_load 9 = .ok (.if_icmp .ge 66, 3) := by decide +kernel
theorem dX5_load_12 : decode cX5_load 12 = .ok (.iload_n 3, 1) := by decide +kernel
theorem dX5_load_13 : decode cX5_load 13 = .ok (.aload_n 0, 1) := by decide +kernel
theorem dX5_load_14 : decode cX5_load 14 = .ok (.getfield 9, 3) := by decide +kernel
theorem dX5_load_17 : decode cX5_load 17 = .ok (.arraylength, 1) := by decide +kernel
theorem dX5_load_18 : decode cX5_load 18 = .ok (.if_icmp .ge 57, 3) := by decide +kernel
theorem dX5_load_21 : decode cX5_load 21 = .ok (.aload_n 1, 1) := by decide +kernel
theorem dX5_load_22 : decode cX5_load 22 = .ok (.iload_n 3, 1) := by decide +kernel
theorem dX5_load_23 : decode cX5_load 23 = .ok (.invokevirtual 21, 3) := by decide +kernel
theorem dX5_load_26 : decode cX5_load 26 = .ok (.astore 4, 2) := by decide +kernel
theorem dX5_load_28 : decode cX5_load 28 = .ok (.aload 4, 2) := by decide +kernel
theorem dX5_load_30 : decode cX5_load 30 = .ok (.ifnull 39, 3) := by decide +kernel
theorem dX5_load_33 : decode cX5_load 33 = .ok (.aload 4, 2) := by decide +kernel
theorem dX5_load_35 : decode cX5_load 35 = .ok (.getfield 25, 3) := by decide +kernel
theorem dX5_load_38 : decode cX5_load 38 = .ok (.ifCond .eq 31, 3) := by decide +kernel
theorem dX5_load_41 : decode cX5_load 41 = .ok (.aload 4, 2) := by decide +kernel
theorem dX5_load_43 : decode cX5_load 43 = .ok (.getfield 30, 3) := by decide +kernel
theorem dX5_load_46 : decode cX5_load 46 = .ok (.aload_n 0, 1) := by decide +kernel
theorem dX5_load_47 : decode cX5_load 47 = .ok (.getfield 9, 3) := by decide +kernel
theorem dX5_load_50 : decode cX5_load 50 = .ok (.iload_n 3, 1) := by decide +kernel
theorem dX5_load_51 : decode cX5_load 51 = .ok (.iaload, 1) := by decide +kernel
theorem dX5_load_52 : decode cX5_load 52 = .ok (.if_icmp .eq 17, 3) := by decide +kernel
theorem dX5_load_55 : decode cX5_load 55 = .ok (.aload 4, 2) := by decide +kernel
theorem dX5_load_57 : decode cX5_load 57 = .ok (.aload_n 0, 1) := by decide +kernel
theorem dX5_load_58 : decode cX5_load 58 = .ok (.getfield 9, 3) := by decide +kernel
theorem dX5_load_61 : decode cX5_load 61 = .ok (.iload_n 3, 1) := by decide +kernel
theorem dX5_load_62 : decode cX5_load 62 = .ok (.iaload, 1) := by decide +kernel
theorem dX5_load_63 : decode cX5_load 63 = .ok (.putfield 30, 3) := by decide +kernel
theorem dX5_load_66 : decode cX5_load 66 = .ok (.iinc 2 1, 3) := by decide +kernel
theorem dX5_load_69 : decode cX5_load 69 = .ok (.iinc 3 1, 3) := by decide +kernel
theorem dX5_load_72 : decode cX5_load 72 = .ok (.goto (-68), 3) := by decide +kernel
theorem dX5_load_75 : decode cX5_load 75 = .ok (.iload_n 2, 1) := by decide +kernel
theorem dX5_load_76 : decode cX5_load 76 = .ok (.ireturn, 1) := by decide +kernel
theorem dX6_init_0 : decode cX6_init 0 = .ok (.aload_n 0, 1) := by decide +kernel
theorem dX6_init_1 : decode cX6_init 1 = .ok (.invokespecial 3, 3) := by decide +kernel
theorem dX6_init_4 : decode cX6_init 4 = .ok (.aload_n 0, 1) := by decide +kernel
theorem dX6_init_5 : decode cX6_init 5 = .ok (.bipush 32, 2) := by decide +kernel
theorem dX6_init_7 : decode cX6_init 7 = .ok (.newarray .char, 2) := by decide +kernel
theorem dX6_init_9 : decode cX6_init 9 = .ok (.putfield 9, 3) := by decide +kernel
theorem dX6_init_12 : decode cX6_init 12 = .ok (.return_, 1) := by decide +kernel
theorem dX6_draw_0 : decode cX6_draw 0 = .ok (.aload_n 0, 1) := by decide +kernel
theorem dX6_draw_1 : decode cX6_draw 1 = .ok (.invokevirtual 15, 3) := by decide +kernel
theorem dX6_draw_4 : decode cX6_draw 4 = .ok (.aload_n 1, 1) := by decide +kernel
theorem dX6_draw_5 : decode cX6_draw 5 = .ok (.invokevirtual 18, 3) := by decide +kernel
theorem dX6_draw_8 : decode cX6_draw 8 = .ok (.astore_n 2, 1) := by decide +kernel
theorem dX6_draw_9 : decode cX6_draw 9 = .ok (.aload_n 1, 1) := by decide +kernel
theorem dX6_draw_10 : decode cX6_draw 10 = .ok (.getfield 24, 3) := by decide +kernel
theorem dX6_draw_13 : decode cX6_draw 13 = .ok (.iconst 1, 1) := by decide +kernel
theorem dX6_draw_14 : decode cX6_draw 14 = .ok (.if_icmp .ne 22, 3) := by decide +kernel
theorem dX6_draw_17 : decode cX6_draw 17 = .ok (.aload_n 0, 1) := by decide +kernel
theorem dX6_draw_18 : decode cX6_draw 18 = .ok (.ldc 28, 2) := by decide +kernel
theorem dX6_draw_20 : decode cX6_draw 20 = .ok (.aload_n 2, 1) := by decide +kernel
theorem dX6_draw_21 : decode cX6_draw 21 = .ok (.invokevirtual 30, 3) := by decide +kernel
theorem dX6_draw_24 : decode cX6_draw 24 = .ok (.aload_n 0, 1) := by decide +kernel
theorem dX6_draw_25 : decode cX6_draw 25 = .ok (.iconst 1, 1) := by decide +kernel
theorem dX6_draw_26 : decode cX6_draw 26 = .ok (.aload_n 1, 1) := by decide +kernel
theorem dX6_draw_27 : decode cX6_draw 27 = .ok (.getfield 34, 3) := by decide +kernel
theorem dX6_draw_30 : decode cX6_draw 30 = .ok (.invokevirtual 37, 3) := by decide +kernel
theorem dX6_draw_33 : decode cX6_draw 33 = .ok (.goto 44, 3) := by decide +kernel
theorem dX6_draw_36 : decode cX6_draw 36 = .ok (.aload_n 1, 1) := by decide +kernel
theorem dX6_draw_37 : decode cX6_draw 37 = .ok (.getfield 24, 3) := by decide +kernel
theorem dX6_draw_40 : decode cX6_draw 40 = .ok (.iconst 2, 1) := by decide +kernel
theorem dX6_draw_41 : decode cX6_draw 41 = .ok (.if_icmp .ne 18, 3) := by decide +kernel
theorem dX6_draw_44 : decode cX6_draw 44 = .ok (.aload_n 0, 1) := by decide +kernel
theorem dX6_draw_45 : decode cX6_draw 45 = .ok (.ldc 41, 2) := by decide +kernel
theorem dX6_draw_47 : decode cX6_draw 47 = .ok (.aload_n 2, 1) := by decide +kernel
theorem dX6_draw_48 : decode cX6_draw 48 = .ok (.invokevirtual 30, 3) := by decide +kernel
theorem dX6_draw_51 : decode cX6_draw 51 = .ok (.aload_n 0, 1) := by decide +kernel
theorem dX6_draw_52 : decode cX6_draw 52 = .ok (.aload_n 1, 1) := by decide +kernel
theorem dX6_draw_53 : decode cX6_draw 53 = .ok (.invokevirtual 43, 3) := by decide +kernel
theorem dX6_draw_56 : decode cX6_draw 56 = .ok (.goto 21, 3) := by decide +kernel
theorem dX6_draw_59 : decode cX6_draw 59 = .ok (.aload_n 0, 1) := by decide +kernel
theorem dX6_draw_60 : decode cX6_draw 60 = .ok (.iconst 0, 1) := by decide +kernel
theorem dX6_draw_61 : decode cX6_draw 61 = .ok (.aload_n 1, 1) := by decide +kernel
theorem dX6_draw_62 : decode cX6_draw 62 = .ok (.getfield 47, 3) := by decide +kernel
theorem dX6_draw_65 : decode cX6_draw 65 = .ok (.invokevirtual 51, 3) := by decide +kernel
theorem dX6_draw_68 : decode cX6_draw 68 = .ok (.aload_n 0, 1) := by decide +kernel
theorem dX6_draw_69 : decode cX6_draw 69 = .ok (.aload_n 1, 1) := by decide +kernel
theorem dX6_draw_70 : decode cX6_draw 70 = .ok (.getfield 47, 3) := by decide +kernel
theorem dX6_draw_73 : decode cX6_draw 73 = .ok (.aload_n 2, 1) := by decide +kernel
theorem dX6_draw_74 : decode cX6_draw 74 = .ok (.invokevirtual 55, 3) := by decide +kernel
theorem dX6_draw_77 : decode cX6_draw 77 = .ok (.return_, 1) := by decide +kernel
theorem dX6_signAt_0 : decode cX6_signAt 0 = .ok (.iload_n 1, 1) := by decide +kernel
theorem dX6_signAt_1 : decode cX6_signAt 1 = .ok (.bipush 16, 2) := by decide +kernel
theorem dX6_signAt_3 : decode cX6_signAt 3 = .ok (.imul, 1) := by decide +kernel
theorem dX6_signAt_4 : decode cX6_signAt 4 = .ok (.iload_n 2, 1) := by decide +kernel
theorem dX6_signAt_5 : decode cX6_signAt 5 = .ok (.iadd, 1) := by decide +kernel
theorem dX6_signAt_6 : decode cX6_signAt 6 = .ok (.istore_n 3, 1) := by decide +kernel
theorem dX6_signAt_7 : decode cX6_signAt 7 = .ok (.iload_n 3, 1) := by decide +kernel
theorem dX6_signAt_8 : decode cX6_signAt 8 = .ok (.ifCond .lt 21, 3) := by decide +kernel
theorem dX6_signAt_11 : decode cX6_signAt 11 = .ok (.iload_n 3, 1) := by decide +kernel
theorem dX6_signAt_12 : decode cX6_signAt 12 = .ok (.aload_n 0, 1) := by decide +kernel
theorem dX6_signAt_13 : decode cX6_signAt 13 = .ok (.getfield 9, 3) := by decide +kernel
theorem dX6_signAt_16 : decode cX6_signAt 16 = .ok (.arraylength, 1) := by decide +kernel
theorem dX6_signAt_17 : decode cX6_signAt 17 = .ok (.if_icmp .ge 12, 3) := by decide +kernel
theorem dX6_signAt_20 : decode cX6_signAt 20 = .ok (.aload_n 0, 1) := by decide +kernel
theorem dX6_signAt_21 : decode cX6_signAt 21 = .ok (.getfield 9, 3) := by decide +kernel
theorem dX6_signAt_24 : decode cX6_signAt 24 = .ok (.iload_n 3, 1) := by decide +kernel
theorem dX6_signAt_25 : decode cX6_signAt 25 = .ok (.caload, 1) := by decide +kernel
theorem dX6_signAt_26 : decode cX6_signAt 26 = .ok (.goto 5, 3) := by decide +kernel
theorem dX6_signAt_29 : decode cX6_signAt 29 = .ok (.bipush 32, 2) := by decide +kernel
theorem dX6_signAt_31 : decode cX6_signAt 31 = .ok (.ireturn, 1) := by decide +kernel
theorem dX6_clear_0 : decode cX6_clear 0 = .ok (.iconst 0, 1) := by decide +kernel
theorem dX6_clear_1 : decode cX6_clear 1 = .ok (.istore_n 1, 1) := by decide +kernel
theorem dX6_clear_2 : decode cX6_clear 2 = .ok (.iload_n 1, 1) := by decide +kernel
theorem dX6_clear_3 : decode cX6_clear 3 = .ok (.aload_n 0, 1) := by decide +kernel
theorem dX6_clear_4 : decode cX6_clear 4 = .ok (.getfield 9, 3) := by decide +kernel
theorem dX6_clear_7 : decode cX6_clear 7 = .ok (.arraylength, 1) := by decide +kernel
theorem dX6_clear_8 : decode cX6_clear 8 = .ok (.if_icmp .ge 17, 3) := by decide +kernel
theorem dX6_clear_11 : decode cX6_clear 11 = .ok (.aload_n 0, 1) := by decide +kernel
theorem dX6_clear_12 : decode cX6_clear 12 = .ok (.getfield 9, 3) := by decide +kernel
theorem dX6_clear_15 : decode cX6_clear 15 = .ok (.iload_n 1, 1) := by decide +kernel
theorem dX6_clear_16 : decode cX6_clear 16 = .ok (.bipush 32, 2) := by decide +kernel
theorem dX6_clear_18 : decode cX6_clear 18 = .ok (.castore, 1) := by decide +kernel
theorem dX6_clear_19 : decode cX6_clear 19 = .ok (.iinc 1 1, 3) := by decide +kernel
theorem dX6_clear_22 : decode cX6_clear 22 = .ok (.goto (-20), 3) := by decide +kernel
theorem dX6_clear_25 : decode cX6_clear 25 = .ok (.return_, 1) := by decide +kernel
theorem dX6_put_0 : decode cX6_put 0 = .ok (.iload_n 1, 1) := by decide +kernel
theorem dX6_put_1 : decode cX6_put 1 = .ok (.bipush 16, 2) := by decide +kernel
theorem dX6_put_3 : decode cX6_put 3 = .ok (.imul, 1) := by decide +kernel
theorem dX6_put_4 : decode cX6_put 4 = .ok (.iload_n 2, 1) := by decide +kernel
theorem dX6_put_5 : decode cX6_put 5 = .ok (.iadd, 1) := by decide +kernel
theorem dX6_put_6 : decode cX6_put 6 = .ok (.istore 4, 2) := by decide +kernel
theorem dX6_put_8 : decode cX6_put 8 = .ok (.iload 4, 2) := by decide +kernel
theorem dX6_put_10 : decode cX6_put 10 = .ok (.ifCond .lt 21, 3) := by decide +kernel
theorem dX6_put_13 : decode cX6_put 13 = .ok (.iload 4, 2) := by decide +kernel
theorem dX6_put_15 : decode cX6_put 15 = .ok (.aload_n 0, 1) := by decide +kernel
theorem dX6_put_16 : decode cX6_put 16 = .ok (.getfield 9, 3) := by decide +kernel
theorem dX6_put_19 : decode cX6_put 19 = .ok (.arraylength, 1) := by decide +kernel
theorem dX6_put_20 : decode cX6_put 20 = .ok (.if_icmp .ge 11, 3) := by decide +kernel
theorem dX6_put_23 : decode cX6_put 23 = .ok (.aload_n 0, 1) := by decide +kernel
theorem dX6_put_24 : decode cX6_put 24 = .ok (.getfield 9, 3) := by decide +kernel
theorem dX6_put_27 : decode cX6_put 27 = .ok (.iload 4, 2) := by decide +kernel
theorem dX6_put_29 : decode cX6_put 29 = .ok (.iload_n 3, 1) := by decide +kernel
theorem dX6_put_30 : decode cX6_put 30 = .ok (.castore, 1) := by decide +kernel
theorem dX6_put_31 : decode cX6_put 31 = .ok (.return_, 1) := by decide +kernel
theorem dX6_write_0 : decode cX6_write 0 = .ok (.iconst 0, 1) := by decide +kernel
theorem dX6_write_1 : decode cX6_write 1 = .ok (.istore_n 3, 1) := by decide +kernel
theorem dX6_write_2 : decode cX6_write 2 = .ok (.iload_n 3, 1) := by decide +kernel
theorem dX6_write_3 : decode cX6_write 3 = .ok (.aload_n 2, 1) := by decide +kernel
theorem dX6_write_4 : decode cX6_write 4 = .ok (.invokevirtual 59, 3) := by decide +kernel
theorem dX6_write_7 : decode cX6_write 7 = .ok (.if_icmp .ge 20, 3) := by decide +kernel
theorem dX6_write_10 : decode cX6_write 10 = .ok (.aload_n 0, 1) := by decide +kernel
theorem dX6_write_11 : decode cX6_write 11 = .ok (.iload_n 1, 1) := by decide +kernel
theorem dX6_write_12 : decode cX6_write 12 = .ok (.iload_n 3, 1) := by decide +kernel
theorem dX6_write_13 : decode cX6_write 13 = .ok (.aload_n 2, 1) := by decide +kernel
theorem dX6_write_14 : decode cX6_write 14 = .ok (.iload_n 3, 1) := by decide +kernel
theorem dX6_write_15 : decode cX6_write 15 = .ok (.invokevirtual 65, 3) := by decide +kernel
theorem dX6_write_18 : decode cX6_write 18 = .ok (.invokevirtual 69, 3) := by decide +kernel
theorem dX6_write_21 : decode cX6_write 21 = .ok (.iinc 3 1, 3) := by decide +kernel
theorem dX6_write_24 : decode cX6_write 24 = .ok (.goto (-22), 3) := by decide +kernel
theorem dX6_write_27 : decode cX6_write 27 = .ok (.aload_n 2, 1) := by decide +kernel
theorem dX6_write_28 : decode cX6_write 28 = .ok (.invokevirtual 59, 3) := by decide +kernel
theorem dX6_write_31 : decode cX6_write 31 = .ok (.ireturn, 1) := by decide +kernel
theorem dX6_writeEndingAt_0 : decode cX6_writeEndingAt 0 = .ok (.iload_n 3, 1) := by decide +kernel
theorem dX6_writeEndingAt_1 : decode cX6_writeEndingAt 1 = .ok (.invokestatic 73, 3) := by decide +kernel
theorem dX6_writeEndingAt_4 : decode cX6_writeEndingAt 4 = .ok (.istore 4, 2) := by decide +kernel
theorem dX6_writeEndingAt_6 : decode cX6_writeEndingAt 6 = .ok (.iload_n 2, 1) := by decide +kernel
theorem dX6_writeEndingAt_7 : decode cX6_writeEndingAt 7 = .ok (.istore 5, 2) := by decide +kernel
theorem dX6_writeEndingAt_9 : decode cX6_writeEndingAt 9 = .ok (.aload_n 0, 1) := by decide +kernel
theorem dX6_writeEndingAt_10 : decode cX6_writeEndingAt 10 = .ok (.iload_n 1, 1) := by decide +kernel
theorem dX6_writeEndingAt_11 : decode cX6_writeEndingAt 11 = .ok (.iload 5, 2) := by decide +kernel
theorem dX6_writeEndingAt_13 : decode cX6_writeEndingAt 13 = .ok (.bipush 48, 2) := by decide +kernel
theorem dX6_writeEndingAt_15 : decode cX6_writeEndingAt 15 = .ok (.iload 4, 2) := by decide +kernel
theorem dX6_writeEndingAt_17 : decode cX6_writeEndingAt 17 = .ok (.bipush 10, 2) := by decide +kernel
theorem dX6_writeEndingAt_19 : decode cX6_writeEndingAt 19 = .ok (.irem, 1) := by decide +kernel
theorem dX6_writeEndingAt_20 : decode cX6_writeEndingAt 20 = .ok (.iadd, 1) := by decide +kernel
theorem dX6_writeEndingAt_21 : decode cX6_writeEndingAt 21 = .ok (.i2c, 1) := by decide +kernel
theorem dX6_writeEndingAt_22 : decode cX6_writeEndingAt 22 = .ok (.invokevirtual 69, 3) := by decide +kernel
theorem dX6_writeEndingAt_25 : decode cX6_writeEndingAt 25 = .ok (.iload 4, 2) := by decide +kernel
theorem dX6_writeEndingAt_27 : decode cX6_writeEndingAt 27 = .ok (.bipush 10, 2) := by decide +kernel
theorem dX6_writeEndingAt_29 : decode cX6_writeEndingAt 29 = .ok (.idiv, 1) := by decide +kernel
theorem dX6_writeEndingAt_30 : decode cX6_writeEndingAt 30 = .ok (.istore 4, 2) := by decide +kernel
theorem dX6_writeEndingAt_32 : decode cX6_writeEndingAt 32 = .ok (.iinc 5 (-1), 3) := by decide +kernel
theorem dX6_writeEndingAt_35 : decode cX6_writeEndingAt 35 = .ok (.iload 4, 2) := by decide +kernel
theorem dX6_writeEndingAt_37 : decode cX6_writeEndingAt 37 = .ok (.ifCond .le 8, 3) := by decide +kernel
theorem dX6_writeEndingAt_40 : decode cX6_writeEndingAt 40 = .ok (.iload 5, 2) := by decide +kernel
theorem dX6_writeEndingAt_42 : decode cX6_writeEndingAt 42 = .ok (.ifCond .gt (-33), 3) := by decide +kernel
theorem dX6_writeEndingAt_45 : decode cX6_writeEndingAt 45 = .ok (.iload_n 3, 1) := by decide +kernel
theorem dX6_writeEndingAt_46 : decode cX6_writeEndingAt 46 = .ok (.ifCond .ge 12, 3) := by decide +kernel
theorem dX6_writeEndingAt_49 : decode cX6_writeEndingAt 49 = .ok (.aload_n 0, 1) := by decide +kernel
theorem dX6_writeEndingAt_50 : decode cX6_writeEndingAt 50 = .ok (.iload_n 1, 1) := by decide +kernel
theorem dX6_writeEndingAt_51 : decode cX6_writeEndingAt 51 = .ok (.iload 5, 2) := by decide +kernel
theorem dX6_writeEndingAt_53 : decode cX6_writeEndingAt 53 = .ok (.bipush 45, 2) := by decide +kernel
theorem dX6_writeEndingAt_55 : decode cX6_writeEndingAt 55 = .ok (.invokevirtual 69, 3) := by decide +kernel
theorem dX6_writeEndingAt_58 : decode cX6_writeEndingAt 58 = .ok (.return_, 1) := by decide +kernel
theorem dX6_writeAtEnd_0 : decode cX6_writeAtEnd 0 = .ok (.aload_n 0, 1) := by decide +kernel
theorem dX6_writeAtEnd_1 : decode cX6_writeAtEnd 1 = .ok (.iload_n 1, 1) := by decide +kernel
theorem dX6_writeAtEnd_2 : decode cX6_writeAtEnd 2 = .ok (.bipush 15, 2) := by decide +kernel
theorem dX6_writeAtEnd_4 : decode cX6_writeAtEnd 4 = .ok (.iload_n 2, 1) := by decide +kernel
theorem dX6_writeAtEnd_5 : decode cX6_writeAtEnd 5 = .ok (.invokevirtual 79, 3) := by decide +kernel
theorem dX6_writeAtEnd_8 : decode cX6_writeAtEnd 8 = .ok (.return_, 1) := by decide +kernel
theorem dX6_writeNumbered_0 : decode cX6_writeNumbered 0 = .ok (.aload_n 0, 1) := by decide +kernel
theorem dX6_writeNumbered_1 : decode cX6_writeNumbered 1 = .ok (.iload_n 1, 1) := by decide +kernel
theorem dX6_writeNumbered_2 : decode cX6_writeNumbered 2 = .ok (.aload_n 2, 1) := by decide +kernel
theorem dX6_writeNumbered_3 : decode cX6_writeNumbered 3 = .ok (.invokevirtual 83, 3) := by decide +kernel
theorem dX6_writeNumbered_6 : decode cX6_writeNumbered 6 = .ok (.istore 4, 2) := by decide +kernel
theorem dX6_writeNumbered_8 : decode cX6_writeNumbered 8 = .ok (.aload_n 0, 1) := by decide +kernel
theorem dX6_writeNumbered_9 : decode cX6_writeNumbered 9 = .ok (.iload_n 1, 1) := by decide +kernel
theorem dX6_writeNumbered_10 : decode cX6_writeNumbered 10 = .ok (.iload_n 3, 1) := by decide +kernel
theorem dX6_writeNumbered_11 : decode cX6_writeNumbered 11 = .ok (.bipush 10, 2) := by decide +kernel
theorem dX6_writeNumbered_13 : decode cX6_writeNumbered 13 = .ok (.if_icmp .ge 8, 3) := by decide +kernel
theorem dX6_writeNumbered_16 : decode cX6_writeNumbered 16 = .ok (.iload 4, 2) := by decide +kernel
theorem dX6_writeNumbered_18 : decode cX6_writeNumbered 18 = .ok (.goto 7, 3) := by decide +kernel
theorem dX6_writeNumbered_21 : decode cX6_writeNumbered 21 = .ok (.iload 4, 2) := by decide +kernel
theorem dX6_writeNumbered_23 : decode cX6_writeNumbered 23 = .ok (.iconst 1, 1) := by decide +kernel
theorem dX6_writeNumbered_24 : decode cX6_writeNumbered 24 = .ok (.iadd, 1) := by decide +kernel
theorem dX6_writeNumbered_25 : decode cX6_writeNumbered 25 = .ok (.iload_n 3, 1) := by decide +kernel
theorem dX6_writeNumbered_26 : decode cX6_writeNumbered 26 = .ok (.invokevirtual 79, 3) := by decide +kernel
theorem dX6_writeNumbered_29 : decode cX6_writeNumbered 29 = .ok (.return_, 1) := by decide +kernel
theorem dX6_writeTitle_0 : decode cX6_writeTitle 0 = .ok (.aload_n 2, 1) := by decide +kernel
theorem dX6_writeTitle_1 : decode cX6_writeTitle 1 = .ok (.ifnull 13, 3) := by decide +kernel
theorem dX6_writeTitle_4 : decode cX6_writeTitle 4 = .ok (.aload_n 0, 1) := by decide +kernel
theorem dX6_writeTitle_5 : decode cX6_writeTitle 5 = .ok (.iconst 0, 1) := by decide +kernel
theorem dX6_writeTitle_6 : decode cX6_writeTitle 6 = .ok (.aload_n 1, 1) := by decide +kernel
theorem dX6_writeTitle_7 : decode cX6_writeTitle 7 = .ok (.aload_n 2, 1) := by decide +kernel
theorem dX6_writeTitle_8 : decode cX6_writeTitle 8 = .ok (.getfield 87, 3) := by decide +kernel
theorem dX6_writeTitle_11 : decode cX6_writeTitle 11 = .ok (.invokevirtual 92, 3) := by decide +kernel
theorem dX6_writeTitle_14 : decode cX6_writeTitle 14 = .ok (.return_, 1) := by decide +kernel
theorem dX6_writeName_0 : decode cX6_writeName 0 = .ok (.aload_n 2, 1) := by decide +kernel
theorem dX6_writeName_1 : decode cX6_writeName 1 = .ok (.getfield 96, 3) := by decide +kernel
theorem dX6_writeName_4 : decode cX6_writeName 4 = .ok (.ifCond .ne 17, 3) := by decide +kernel
theorem dX6_writeName_7 : decode cX6_writeName 7 = .ok (.aload_n 0, 1) := by decide +kernel
theorem dX6_writeName_8 : decode cX6_writeName 8 = .ok (.iload_n 1, 1) := by decide +kernel
theorem dX6_writeName_9 : decode cX6_writeName 9 = .ok (.ldc 99, 2) := by decide +kernel
theorem dX6_writeName_11 : decode cX6_writeName 11 = .ok (.aload_n 2, 1) := by decide +kernel
theorem dX6_writeName_12 : decode cX6_writeName 12 = .ok (.getfield 87, 3) := by decide +kernel
theorem dX6_writeName_15 : decode cX6_writeName 15 = .ok (.invokevirtual 92, 3) := by decide +kernel
theorem dX6_writeName_18 : decode cX6_writeName 18 = .ok (.goto 36, 3) := by decide +kernel
theorem dX6_writeName_21 : decode cX6_writeName 21 = .ok (.aload_n 2, 1) := by decide +kernel
theorem dX6_writeName_22 : decode cX6_writeName 22 = .ok (.getfield 96, 3) := by decide +kernel
theorem dX6_writeName_25 : decode cX6_writeName 25 = .ok (.iconst 1, 1) := by decide +kernel
theorem dX6_writeName_26 : decode cX6_writeName 26 = .ok (.if_icmp .ne 17, 3) := by decide +kernel
theorem dX6_writeName_29 : decode cX6_writeName 29 = .ok (.aload_n 0, 1) := by decide +kernel
theorem dX6_writeName_30 : decode cX6_writeName 30 = .ok (.iload_n 1, 1) := by decide +kernel
theorem dX6_writeName_31 : decode cX6_writeName 31 = .ok (.ldc 101, 2) := by decide +kernel
theorem dX6_writeName_33 : decode cX6_writeName 33 = .ok (.aload_n 2, 1) := by decide +kernel
theorem dX6_writeName_34 : decode cX6_writeName 34 = .ok (.getfield 87, 3) := by decide +kernel
theorem dX6_writeName_37 : decode cX6_writeName 37 = .ok (.invokevirtual 92, 3) := by decide +kernel
theorem dX6_writeName_40 : decode cX6_writeName 40 = .ok (.goto 14, 3) := by decide +kernel
theorem dX6_writeName_43 : decode cX6_writeName 43 = .ok (.aload_n 0, 1) := by decide +kernel
theorem dX6_writeName_44 : decode cX6_writeName 44 = .ok (.iload_n 1, 1) := by decide +kernel
theorem dX6_writeName_45 : decode cX6_writeName 45 = .ok (.ldc 103, 2) := by decide +kernel
theorem dX6_writeName_47 : decode cX6_writeName 47 = .ok (.aload_n 2, 1) := by decide +kernel
theorem dX6_writeName_48 : decode cX6_writeName 48 = .ok (.getfield 87, 3) := by decide +kernel
theorem dX6_writeName_51 : decode cX6_writeName 51 = .ok (.invokevirtual 92, 3) := by decide +kernel
theorem dX6_writeName_54 : decode cX6_writeName 54 = .ok (.return_, 1) := by decide +kernel
theorem dX6_writeChosen_0 : decode cX6_writeChosen 0 = .ok (.aload_n 2, 1) := by decide +kernel
theorem dX6_writeChosen_1 : decode cX6_writeChosen 1 = .ok (.ifnull 17, 3) := by decide +kernel
theorem dX6_writeChosen_4 : decode cX6_writeChosen 4 = .ok (.aload_n 0, 1) := by decide +kernel
theorem dX6_writeChosen_5 : decode cX6_writeChosen 5 = .ok (.iconst 1, 1) := by decide +kernel
theorem dX6_writeChosen_6 : decode cX6_writeChosen 6 = .ok (.aload_n 2, 1) := by decide +kernel
theorem dX6_writeChosen_7 : decode cX6_writeChosen 7 = .ok (.invokevirtual 51, 3) := by decide +kernel
theorem dX6_writeChosen_10 : decode cX6_writeChosen 10 = .ok (.aload_n 0, 1) := by decide +kernel
theorem dX6_writeChosen_11 : decode cX6_writeChosen 11 = .ok (.aload_n 2, 1) := by decide +kernel
theorem dX6_writeChosen_12 : decode cX6_writeChosen 12 = .ok (.invokevirtual 105, 3) := by decide +kernel
theorem dX6_writeChosen_15 : decode cX6_writeChosen 15 = .ok (.goto 18, 3) := by decide +kernel
theorem dX6_writeChosen_18 : decode cX6_writeChosen 18 = .ok (.aload_n 1, 1) := by decide +kernel
theorem dX6_writeChosen_19 : decode cX6_writeChosen 19 = .ok (.invokevirtual 109, 3) := by decide +kernel
theorem dX6_writeChosen_22 : decode cX6_writeChosen 22 = .ok (.ifCond .le 11, 3) := by decide +kernel
theorem dX6_writeChosen_25 : decode cX6_writeChosen 25 = .ok (.aload_n 0, 1) := by decide +kernel
theorem dX6_writeChosen_26 : decode cX6_writeChosen 26 = .ok (.iconst 1, 1) := by decide +kernel
theorem dX6_writeChosen_27 : decode cX6_writeChosen 27 = .ok (.ldc 112, 2) := by decide +kernel
theorem dX6_writeChosen_29 : decode cX6_writeChosen 29 = .ok (.invokevirtual 83, 3) := by decide +kernel
theorem dX6_writeChosen_32 : decode cX6_writeChosen 32 = .ok (.pop, 1) := by decide +kernel
theorem dX6_writeChosen_33 : decode cX6_writeChosen 33 = .ok (.return_, 1) := by decide +kernel
theorem dX6_writeState_0 : decode cX6_writeState 0 = .ok (.aload_n 1, 1) := by decide +kernel
theorem dX6_writeState_1 : decode cX6_writeState 1 = .ok (.invokevirtual 114, 3) := by decide +kernel
theorem dX6_writeState_4 : decode cX6_writeState 4 = .ok (.ifCond .eq 15, 3) := by decide +kernel
theorem dX6_writeState_7 : decode cX6_writeState 7 = .ok (.aload_n 0, 1) := by decide +kernel
theorem dX6_writeState_8 : decode cX6_writeState 8 = .ok (.iconst 1, 1) := by decide +kernel
theorem dX6_writeState_9 : decode cX6_writeState 9 = .ok (.bipush 15, 2) := by decide +kernel
theorem dX6_writeState_11 : decode cX6_writeState 11 = .ok (.bipush 76, 2) := by decide +kernel
theorem dX6_writeState_13 : decode cX6_writeState 13 = .ok (.invokevirtual 69, 3) := by decide +kernel
theorem dX6_writeState_16 : decode cX6_writeState 16 = .ok (.goto 31, 3) := by decide +kernel
theorem dX6_writeState_19 : decode cX6_writeState 19 = .ok (.aload_n 1, 1) := by decide +kernel
theorem dX6_writeState_20 : decode cX6_writeState 20 = .ok (.getfield 96, 3) := by decide +kernel
theorem dX6_writeState_23 : decode cX6_writeState 23 = .ok (.ifCond .ne 15, 3) := by decide +kernel
theorem dX6_writeState_26 : decode cX6_writeState 26 = .ok (.aload_n 0, 1) := by decide +kernel
theorem dX6_writeState_27 : decode cX6_writeState 27 = .ok (.iconst 1, 1) := by decide +kernel
theorem dX6_writeState_28 : decode cX6_writeState 28 = .ok (.bipush 15, 2) := by decide +kernel
theorem dX6_writeState_30 : decode cX6_writeState 30 = .ok (.bipush 62, 2) := by decide +kernel
theorem dX6_writeState_32 : decode cX6_writeState 32 = .ok (.invokevirtual 69, 3) := by decide +kernel
theorem dX6_writeState_35 : decode cX6_writeState 35 = .ok (.goto 12, 3) := by decide +kernel
theorem dX6_writeState_38 : decode cX6_writeState 38 = .ok (.aload_n 0, 1) := by decide +kernel
theorem dX6_writeState_39 : decode cX6_writeState 39 = .ok (.iconst 1, 1) := by decide +kernel
theorem dX6_writeState_40 : decode cX6_writeState 40 = .ok (.aload_n 1, 1) := by decide +kernel
theorem dX6_writeState_41 : decode cX6_writeState 41 = .ok (.getfield 118, 3) := by decide +kernel
theorem dX6_writeState_44 : decode cX6_writeState 44 = .ok (.invokevirtual 37, 3) := by decide +kernel
theorem dX6_writeState_47 : decode cX6_writeState 47 = .ok (.return_, 1) := by decide +kernel
theorem dX6_writeDigits_0 : decode cX6_writeDigits 0 = .ok (.iconst 0, 1) := by decide +kernel
theorem dX6_writeDigits_1 : decode cX6_writeDigits 1 = .ok (.istore_n 2, 1) := by decide +kernel
theorem dX6_writeDigits_2 : decode cX6_writeDigits 2 = .ok (.iload_n 2, 1) := by decide +kernel
theorem dX6_writeDigits_3 : decode cX6_writeDigits 3 = .ok (.iconst 4, 1) := by decide +kernel
theorem dX6_writeDigits_4 : decode cX6_writeDigits 4 = .ok (.if_icmp .ge 62, 3) := by decide +kernel
theorem dX6_writeDigits_7 : decode cX6_writeDigits 7 = .ok (.iload_n 2, 1) := by decide +kernel
theorem dX6_writeDigits_8 : decode cX6_writeDigits 8 = .ok (.aload_n 1, 1) := by decide +kernel
theorem dX6_writeDigits_9 : decode cX6_writeDigits 9 = .ok (.getfield 121, 3) := by decide +kernel
theorem dX6_writeDigits_12 : decode cX6_writeDigits 12 = .ok (.if_icmp .ge 14, 3) := by decide +kernel
theorem dX6_writeDigits_15 : decode cX6_writeDigits 15 = .ok (.aload_n 0, 1) := by decide +kernel
theorem dX6_writeDigits_16 : decode cX6_writeDigits 16 = .ok (.iconst 1, 1) := by decide +kernel
theorem dX6_writeDigits_17 : decode cX6_writeDigits 17 = .ok (.iload_n 2, 1) := by decide +kernel
theorem dX6_writeDigits_18 : decode cX6_writeDigits 18 = .ok (.bipush 42, 2) := by decide +kernel
theorem dX6_writeDigits_20 : decode cX6_writeDigits 20 = .ok (.invokevirtual 69, 3) := by decide +kernel
theorem dX6_writeDigits_23 : decode cX6_writeDigits 23 = .ok (.goto 37, 3) := by decide +kernel
theorem dX6_writeDigits_26 : decode cX6_writeDigits 26 = .ok (.iload_n 2, 1) := by decide +kernel
theorem dX6_writeDigits_27 : decode cX6_writeDigits 27 = .ok (.aload_n 1, 1) := by decide +kernel
theorem dX6_writeDigits_28 : decode cX6_writeDigits 28 = .ok (.getfield 121, 3) := by decide +kernel
theorem dX6_writeDigits_31 : decode cX6_writeDigits 31 = .ok (.if_icmp .ne 21, 3) := by decide +kernel
theorem dX6_writeDigits_34 : decode cX6_writeDigits 34 = .ok (.aload_n 0, 1) := by decide +kernel
theorem dX6_writeDigits_35 : decode cX6_writeDigits 35 = .ok (.iconst 1, 1) := by decide +kernel
theorem dX6_writeDigits_36 : decode cX6_writeDigits 36 = .ok (.iload_n 2, 1) := by decide +kernel
theorem dX6_writeDigits_37 : decode cX6_writeDigits 37 = .ok (.bipush 48, 2) := by decide +kernel
theorem dX6_writeDigits_39 : decode cX6_writeDigits 39 = .ok (.aload_n 1, 1) := by decide +kernel
theorem dX6_writeDigits_40 : decode cX6_writeDigits 40 = .ok (.iload_n 2, 1) := by decide +kernel
theorem dX6_writeDigits_41 : decode cX6_writeDigits 41 = .ok (.invokevirtual 124, 3) := by decide +kernel
theorem dX6_writeDigits_44 : decode cX6_writeDigits 44 = .ok (.iadd, 1) := by decide +kernel
theorem dX6_writeDigits_45 : decode cX6_writeDigits 45 = .ok (.i2c, 1) := by decide +kernel
theorem dX6_writeDigits_46 : decode cX6_writeDigits 46 = .ok (.invokevirtual 69, 3) := by decide +kernel
theorem dX6_writeDigits_49 : decode cX6_writeDigits 49 = .ok (.goto 11, 3) := by decide +kernel
theorem dX6_writeDigits_52 : decode cX6_writeDigits 52 = .ok (.aload_n 0, 1) := by decide +kernel
theorem dX6_writeDigits_53 : decode cX6_writeDigits 53 = .ok (.iconst 1, 1) := by decide +kernel
theorem dX6_writeDigits_54 : decode cX6_writeDigits 54 = .ok (.iload_n 2, 1) := by decide +kernel
theorem dX6_writeDigits_55 : decode cX6_writeDigits 55 = .ok (.bipush 45, 2) := by decide +kernel
theorem dX6_writeDigits_57 : decode cX6_writeDigits 57 = .ok (.invokevirtual 69, 3) := by decide +kernel
theorem dX6_writeDigits_60 : decode cX6_writeDigits 60 = .ok (.iinc 2 1, 3) := by decide +kernel
theorem dX6_writeDigits_63 : decode cX6_writeDigits 63 = .ok (.goto (-61), 3) := by decide +kernel
theorem dX6_writeDigits_66 : decode cX6_writeDigits 66 = .ok (.return_, 1) := by decide +kernel
theorem dX7_init_0 : decode cX7_init 0 = .ok (.aload_n 0, 1) := by decide +kernel
theorem dX7_init_1 : decode cX7_init 1 = .ok (.invokespecial 3, 3) := by decide +kernel
theorem dX7_init_4 : decode cX7_init 4 = .ok (.aload_n 0, 1) := by decide +kernel
theorem dX7_init_5 : decode cX7_init 5 = .ok (.new 9, 3) := by decide +kernel
theorem dX7_init_8 : decode cX7_init 8 = .ok (.dup, 1) := by decide +kernel
theorem dX7_init_9 : decode cX7_init 9 = .ok (.iconst 0, 1) := by decide +kernel
theorem dX7_init_10 : decode cX7_init 10 = .ok (.iconst 0, 1) := by decide +kernel
theorem dX7_init_11 : decode cX7_init 11 = .ok (.aconst_null, 1) := by decide +kernel
theorem dX7_init_12 : decode cX7_init 12 = .ok (.iconst 0, 1) := by decide +kernel
theorem dX7_init_13 : decode cX7_init 13 = .ok (.iconst 0, 1) := by decide +kernel
theorem dX7_init_14 : decode cX7_init 14 = .ok (.iconst 0, 1) := by decide +kernel
theorem dX7_init_15 : decode cX7_init 15 = .ok (.invokespecial 11, 3) := by decide +kernel
theorem dX7_init_18 : decode cX7_init 18 = .ok (.putfield 14, 3) := by decide +kernel
theorem dX7_init_21 : decode cX7_init 21 = .ok (.aload_n 0, 1) := by decide +kernel
theorem dX7_init_22 : decode cX7_init 22 = .ok (.bipush 24, 2) := by decide +kernel
theorem dX7_init_24 : decode cX7_init 24 = .ok (.anewarray 9, 3) := by decide +kernel
theorem dX7_init_27 : decode cX7_init 27 = .ok (.putfield 20, 3) := by decide +kernel
theorem dX7_init_30 : decode cX7_init 30 = .ok (.aload_n 0, 1) := by decide +kernel
theorem dX7_init_31 : decode cX7_init 31 = .ok (.aload_n 0, 1) := by decide +kernel
theorem dX7_init_32 : decode cX7_init 32 = .ok (.getfield 14, 3) := by decide +kernel
theorem dX7_init_35 : decode cX7_init 35 = .ok (.invokevirtual 24, 3) := by decide +kernel
theorem dX7_init_38 : decode cX7_init 38 = .ok (.return_, 1) := by decide +kernel
theorem dX7_keep_0 : decode cX7_keep 0 = .ok (.aload_n 0, 1) := by decide +kernel
theorem dX7_keep_1 : decode cX7_keep 1 = .ok (.getfield 28, 3) := by decide +kernel
theorem dX7_keep_4 : decode cX7_keep 4 = .ok (.ifCond .lt 35, 3) := by decide +kernel
theorem dX7_keep_7 : decode cX7_keep 7 = .ok (.aload_n 0, 1) := by decide +kernel
theorem dX7_keep_8 : decode cX7_keep 8 = .ok (.getfield 28, 3) := by decide +kernel
theorem dX7_keep_11 : decode cX7_keep 11 = .ok (.aload_n 0, 1) := by decide +kernel
theorem dX7_keep_12 : decode cX7_keep 12 = .ok (.getfield 20, 3) := by decide +kernel
theorem dX7_keep_15 : decode cX7_keep 15 = .ok (.arraylength, 1) := by decide +kernel
theorem dX7_keep_16 : decode cX7_keep 16 = .ok (.if_icmp .ge 23, 3) := by decide +kernel
theorem dX7_keep_19 : decode cX7_keep 19 = .ok (.aload_n 0, 1) := by decide +kernel
theorem dX7_keep_20 : decode cX7_keep 20 = .ok (.getfield 20, 3) := by decide +kernel
theorem dX7_keep_23 : decode cX7_keep 23 = .ok (.aload_n 0, 1) := by decide +kernel
theorem dX7_keep_24 : decode cX7_keep 24 = .ok (.getfield 28, 3) := by decide +kernel
theorem dX7_keep_27 : decode cX7_keep 27 = .ok (.aload_n 1, 1) := by decide +kernel
theorem dX7_keep_28 : decode cX7_keep 28 = .ok (.aastore, 1) := by decide +kernel
theorem dX7_keep_29 : decode cX7_keep 29 = .ok (.aload_n 0, 1) := by decide +kernel
theorem dX7_keep_30 : decode cX7_keep 30 = .ok (.dup, 1) := by decide +kernel
theorem dX7_keep_31 : decode cX7_keep 31 = .ok (.getfield 28, 3) := by decide +kernel
theorem dX7_keep_34 : decode cX7_keep 34 = .ok (.iconst 1, 1) := by decide +kernel
theorem dX7_keep_35 : decode cX7_keep 35 = .ok (.iadd, 1) := by decide +kernel
theorem dX7_keep_36 : decode cX7_keep 36 = .ok (.putfield 28, 3) := by decide +kernel
theorem dX7_keep_39 : decode cX7_keep 39 = .ok (.return_, 1) := by decide +kernel
theorem dX7_find_0 : decode cX7_find 0 = .ok (.iload_n 1, 1) := by decide +kernel
theorem dX7_find_1 : decode cX7_find 1 = .ok (.ifCond .lt 29, 3) := by decide +kernel
theorem dX7_find_4 : decode cX7_find 4 = .ok (.iload_n 1, 1) := by decide +kernel
theorem dX7_find_5 : decode cX7_find 5 = .ok (.aload_n 0, 1) := by decide +kernel
theorem dX7_find_6 : decode cX7_find 6 = .ok (.getfield 28, 3) := by decide +kernel
theorem dX7_find_9 : decode cX7_find 9 = .ok (.if_icmp .ge 21, 3) := by decide +kernel
theorem dX7_find_12 : decode cX7_find 12 = .ok (.iload_n 1, 1) := by decide +kernel
theorem dX7_find_13 : decode cX7_find 13 = .ok (.aload_n 0, 1) := by decide +kernel
theorem dX7_find_14 : decode cX7_find 14 = .ok (.getfield 20, 3) := by decide +kernel
theorem dX7_find_17 : decode cX7_find 17 = .ok (.arraylength, 1) := by decide +kernel
theorem dX7_find_18 : decode cX7_find 18 = .ok (.if_icmp .ge 12, 3) := by decide +kernel
theorem dX7_find_21 : decode cX7_find 21 = .ok (.aload_n 0, 1) := by decide +kernel
theorem dX7_find_22 : decode cX7_find 22 = .ok (.getfield 20, 3) := by decide +kernel
theorem dX7_find_25 : decode cX7_find 25 = .ok (.iload_n 1, 1) := by decide +kernel
theorem dX7_find_26 : decode cX7_find 26 = .ok (.aaload, 1) := by decide +kernel
theorem dX7_find_27 : decode cX7_find 27 = .ok (.goto 4, 3) := by decide +kernel
theorem dX7_find_30 : decode cX7_find 30 = .ok (.aconst_null, 1) := by decide +kernel
theorem dX7_find_31 : decode cX7_find 31 = .ok (.areturn, 1) := by decide +kernel
theorem dX7_anyOpen_0 : decode cX7_anyOpen 0 = .ok (.iconst 0, 1) := by decide +kernel
theorem dX7_anyOpen_1 : decode cX7_anyOpen 1 = .ok (.istore_n 1, 1) := by decide +kernel
theorem dX7_anyOpen_2 : decode cX7_anyOpen 2 = .ok (.iload_n 1, 1) := by decide +kernel
theorem dX7_anyOpen_3 : decode cX7_anyOpen 3 = .ok (.aload_n 0, 1) := by decide +kernel
theorem dX7_anyOpen_4 : decode cX7_anyOpen 4 = .ok (.getfield 28, 3) := by decide +kernel
theorem dX7_anyOpen_7 : decode cX7_anyOpen 7 = .ok (.if_icmp .ge 35, 3) := by decide +kernel
theorem dX7_anyOpen_10 : decode cX7_anyOpen 10 = .ok (.aload_n 0, 1) := by decide +kernel
theorem dX7_anyOpen_11 : decode cX7_anyOpen 11 = .ok (.iload_n 1, 1) := by decide +kernel
theorem dX7_anyOpen_12 : decode cX7_anyOpen 12 = .ok (.invokevirtual 32, 3) := by decide +kernel
theorem dX7_anyOpen_15 : decode cX7_anyOpen 15 = .ok (.astore_n 2, 1) := by decide +kernel
theorem dX7_anyOpen_16 : decode cX7_anyOpen 16 = .ok (.aload_n 2, 1) := by decide +kernel
theorem dX7_anyOpen_17 : decode cX7_anyOpen 17 = .ok (.ifnull 19, 3) := by decide +kernel
theorem dX7_anyOpen_20 : decode cX7_anyOpen 20 = .ok (.aload_n 2, 1) := by decide +kernel
theorem dX7_anyOpen_21 : decode cX7_anyOpen 21 = .ok (.invokevirtual 36, 3) := by decide +kernel
theorem dX7_anyOpen_24 : decode cX7_anyOpen 24 = .ok (.ifCond .eq 12, 3) := by decide +kernel
theorem dX7_anyOpen_27 : decode cX7_anyOpen 27 = .ok (.aload_n 2, 1) := by decide +kernel
theorem dX7_anyOpen_28 : decode cX7_anyOpen 28 = .ok (.getfield 40, 3) := by decide +kernel
theorem dX7_anyOpen_31 : decode cX7_anyOpen 31 = .ok (.ifCond .eq 5, 3) := by decide +kernel
theorem dX7_anyOpen_34 : decode cX7_anyOpen 34 = .ok (.iconst 1, 1) := by decide +kernel
theorem dX7_anyOpen_35 : decode cX7_anyOpen 35 = .ok (.ireturn, 1) := by decide +kernel
theorem dX7_anyOpen_36 : decode cX7_anyOpen 36 = .ok (.iinc 1 1, 3) := by decide +kernel
theorem dX7_anyOpen_39 : decode cX7_anyOpen 39 = .ok (.goto (-37), 3) := by decide +kernel
theorem dX7_anyOpen_42 : decode cX7_anyOpen 42 = .ok (.iconst 0, 1) := by decide +kernel
theorem dX7_anyOpen_43 : decode cX7_anyOpen 43 = .ok (.ireturn, 1) := by decide +kernel
theorem dX7_closeAll_0 : decode cX7_closeAll 0 = .ok (.iconst 0, 1) := by decide +kernel
theorem dX7_closeAll_1 : decode cX7_closeAll 1 = .ok (.istore_n 1, 1) := by decide +kernel
theorem dX7_closeAll_2 : decode cX7_closeAll 2 = .ok (.iload_n 1, 1) := by decide +kernel
theorem dX7_closeAll_3 : decode cX7_closeAll 3 = .ok (.aload_n 0, 1) := by decide +kernel
theorem dX7_closeAll_4 : decode cX7_closeAll 4 = .ok (.getfield 28, 3) := by decide +kernel
theorem dX7_closeAll_7 : decode cX7_closeAll 7 = .ok (.if_icmp .ge 24, 3) := by decide +kernel
theorem dX7_closeAll_10 : decode cX7_closeAll 10 = .ok (.aload_n 0, 1) := by decide +kernel
theorem dX7_closeAll_11 : decode cX7_closeAll 11 = .ok (.iload_n 1, 1) := by decide +kernel
theorem dX7_closeAll_12 : decode cX7_closeAll 12 = .ok (.invokevirtual 32, 3) := by decide +kernel
theorem dX7_closeAll_15 : decode cX7_closeAll 15 = .ok (.astore_n 2, 1) := by decide +kernel
theorem dX7_closeAll_16 : decode cX7_closeAll 16 = .ok (.aload_n 2, 1) := by decide +kernel
theorem dX7_closeAll_17 : decode cX7_closeAll 17 = .ok (.ifnull 8, 3) := by decide +kernel
theorem dX7_closeAll_20 : decode cX7_closeAll 20 = .ok (.aload_n 2, 1) := by decide +kernel
theorem dX7_closeAll_21 : decode cX7_closeAll 21 = .ok (.iconst 0, 1) := by decide +kernel
theorem dX7_closeAll_22 : decode cX7_closeAll 22 = .ok (.putfield 40, 3) := by decide +kernel
theorem dX7_closeAll_25 : decode cX7_closeAll 25 = .ok (.iinc 1 1, 3) := by decide +kernel
theorem dX7_closeAll_28 : decode cX7_closeAll 28 = .ok (.goto (-26), 3) := by decide +kernel
theorem dX7_closeAll_31 : decode cX7_closeAll 31 = .ok (.return_, 1) := by decide +kernel
theorem dX8_init_0 : decode cX8_init 0 = .ok (.aload_n 0, 1) := by decide +kernel
theorem dX8_init_1 : decode cX8_init 1 = .ok (.invokespecial 1, 3) := by decide +kernel
theorem dX8_init_4 : decode cX8_init 4 = .ok (.aload_n 0, 1) := by decide +kernel
theorem dX8_init_5 : decode cX8_init 5 = .ok (.new 7, 3) := by decide +kernel
theorem dX8_init_8 : decode cX8_init 8 = .ok (.dup, 1) := by decide +kernel
theorem dX8_init_9 : decode cX8_init 9 = .ok (.invokespecial 9, 3) := by decide +kernel
theorem dX8_init_12 : decode cX8_init 12 = .ok (.putfield 10, 3) := by decide +kernel
theorem dX8_init_15 : decode cX8_init 15 = .ok (.aload_n 0, 1) := by decide +kernel
theorem dX8_init_16 : decode cX8_init 16 = .ok (.new 16, 3) := by decide +kernel
theorem dX8_init_19 : decode cX8_init 19 = .ok (.dup, 1) := by decide +kernel
theorem dX8_init_20 : decode cX8_init 20 = .ok (.invokespecial 18, 3) := by decide +kernel
theorem dX8_init_23 : decode cX8_init 23 = .ok (.putfield 19, 3) := by decide +kernel
theorem dX8_init_26 : decode cX8_init 26 = .ok (.aload_n 0, 1) := by decide +kernel
theorem dX8_init_27 : decode cX8_init 27 = .ok (.new 23, 3) := by decide +kernel
theorem dX8_init_30 : decode cX8_init 30 = .ok (.dup, 1) := by decide +kernel
theorem dX8_init_31 : decode cX8_init 31 = .ok (.invokespecial 25, 3) := by decide +kernel
theorem dX8_init_34 : decode cX8_init 34 = .ok (.putfield 26, 3) := by decide +kernel
theorem dX8_init_37 : decode cX8_init 37 = .ok (.aload_n 0, 1) := by decide +kernel
theorem dX8_init_38 : decode cX8_init 38 = .ok (.new 23, 3) := by decide +kernel
theorem dX8_init_41 : decode cX8_init 41 = .ok (.dup, 1) := by decide +kernel
theorem dX8_init_42 : decode cX8_init 42 = .ok (.invokespecial 25, 3) := by decide +kernel
theorem dX8_init_45 : decode cX8_init 45 = .ok (.putfield 30, 3) := by decide +kernel
theorem dX8_init_48 : decode cX8_init 48 = .ok (.aload_n 0, 1) := by decide +kernel
theorem dX8_init_49 : decode cX8_init 49 = .ok (.new 33, 3) := by decide +kernel
theorem dX8_init_52 : decode cX8_init 52 = .ok (.dup, 1) := by decide +kernel
theorem dX8_init_53 : decode cX8_init 53 = .ok (.aload_n 0, 1) := by decide +kernel
theorem dX8_init_54 : decode cX8_init 54 = .ok (.getfield 10, 3) := by decide +kernel
theorem dX8_init_57 : decode cX8_init 57 = .ok (.aload_n 0, 1) := by decide +kernel
theorem dX8_init_58 : decode cX8_init 58 = .ok (.getfield 19, 3) := by decide +kernel
theorem dX8_init_61 : decode cX8_init 61 = .ok (.invokespecial 35, 3) := by decide +kernel
theorem dX8_init_64 : decode cX8_init 64 = .ok (.putfield 38, 3) := by decide +kernel
theorem dX8_init_67 : decode cX8_init 67 = .ok (.aload_n 0, 1) := by decide +kernel
theorem dX8_init_68 : decode cX8_init 68 = .ok (.new 42, 3) := by decide +kernel
theorem dX8_init_71 : decode cX8_init 71 = .ok (.dup, 1) := by decide +kernel
theorem dX8_init_72 : decode cX8_init 72 = .ok (.invokespecial 44, 3) := by decide +kernel
theorem dX8_init_75 : decode cX8_init 75 = .ok (.putfield 45, 3) := by decide +kernel
theorem dX8_init_78 : decode cX8_init 78 = .ok (.aload_n 0, 1) := by decide +kernel
theorem dX8_init_79 : decode cX8_init 79 = .ok (.new 49, 3) := by decide +kernel
theorem dX8_init_82 : decode cX8_init 82 = .ok (.dup, 1) := by decide +kernel
theorem dX8_init_83 : decode cX8_init 83 = .ok (.invokespecial 51, 3) := by decide +kernel
theorem dX8_init_86 : decode cX8_init 86 = .ok (.putfield 52, 3) := by decide +kernel
theorem dX8_init_89 : decode cX8_init 89 = .ok (.return_, 1) := by decide +kernel
theorem dX8_addMenu_0 : decode cX8_addMenu 0 = .ok (.aload_n 0, 1) := by decide +kernel
theorem dX8_addMenu_1 : decode cX8_addMenu 1 = .ok (.iload_n 1, 1) := by decide +kernel
theorem dX8_addMenu_2 : decode cX8_addMenu 2 = .ok (.invokevirtual 56, 3) := by decide +kernel
theorem dX8_addMenu_5 : decode cX8_addMenu 5 = .ok (.astore_n 2, 1) := by decide +kernel
theorem dX8_addMenu_6 : decode cX8_addMenu 6 = .ok (.aload_n 2, 1) := by decide +kernel
theorem dX8_addMenu_7 : decode cX8_addMenu 7 = .ok (.getfield 60, 3) := by decide +kernel
theorem dX8_addMenu_10 : decode cX8_addMenu 10 = .ok (.iconst 3, 1) := by decide +kernel
theorem dX8_addMenu_11 : decode cX8_addMenu 11 = .ok (.if_icmp .lt 13, 3) := by decide +kernel
theorem dX8_addMenu_14 : decode cX8_addMenu 14 = .ok (.new 66, 3) := by decide +kernel
theorem dX8_addMenu_17 : decode cX8_addMenu 17 = .ok (.dup, 1) := by decide +kernel
theorem dX8_addMenu_18 : decode cX8_addMenu 18 = .ok (.ldc 68, 2) := by decide +kernel
theorem dX8_addMenu_20 : decode cX8_addMenu 20 = .ok (.invokespecial 70, 3) := by decide +kernel
theorem dX8_addMenu_23 : decode cX8_addMenu 23 = .ok (.athrow, 1) := by decide +kernel
theorem dX8_addMenu_24 : decode cX8_addMenu 24 = .ok (.aload_n 0, 1) := by decide +kernel
theorem dX8_addMenu_25 : decode cX8_addMenu 25 = .ok (.aload_n 2, 1) := by decide +kernel
theorem dX8_addMenu_26 : decode cX8_addMenu 26 = .ok (.iconst 0, 1) := by decide +kernel
theorem dX8_addMenu_27 : decode cX8_addMenu 27 = .ok (.iconst 0, 1) := by decide +kernel
theorem dX8_addMenu_28 : decode cX8_addMenu 28 = .ok (.iconst 0, 1) := by decide +kernel
theorem dX8_addMenu_29 : decode cX8_addMenu 29 = .ok (.iconst 0, 1) := by decide +kernel
theorem dX8_addMenu_30 : decode cX8_addMenu 30 = .ok (.invokevirtual 73, 3) := by decide +kernel
theorem dX8_addMenu_33 : decode cX8_addMenu 33 = .ok (.ireturn, 1) := by decide +kernel
theorem dX8_addNumber_0 : decode cX8_addNumber 0 = .ok (.aload_n 0, 1) := by decide +kernel
theorem dX8_addNumber_1 : decode cX8_addNumber 1 = .ok (.iload_n 1, 1) := by decide +kernel
theorem dX8_addNumber_2 : decode cX8_addNumber 2 = .ok (.invokevirtual 56, 3) := by decide +kernel
theorem dX8_addNumber_5 : decode cX8_addNumber 5 = .ok (.astore 5, 2) := by decide +kernel
theorem dX8_addNumber_7 : decode cX8_addNumber 7 = .ok (.iload_n 2, 1) := by decide +kernel
theorem dX8_addNumber_8 : decode cX8_addNumber 8 = .ok (.sipush (-999), 3) := by decide +kernel
theorem dX8_addNumber_11 : decode cX8_addNumber 11 = .ok (.if_icmp .lt 15, 3) := by decide +kernel
theorem dX8_addNumber_14 : decode cX8_addNumber 14 = .ok (.iload_n 3, 1) := by decide +kernel
theorem dX8_addNumber_15 : decode cX8_addNumber 15 = .ok (.sipush 999, 3) := by decide +kernel
theorem dX8_addNumber_18 : decode cX8_addNumber 18 = .ok (.if_icmp .gt 8, 3) := by decide +kernel
theorem dX8_addNumber_21 : decode cX8_addNumber 21 = .ok (.iload_n 3, 1) := by decide +kernel
theorem dX8_addNumber_22 : decode cX8_addNumber 22 = .ok (.iload_n 2, 1) := by decide +kernel
theorem dX8_addNumber_23 : decode cX8_addNumber 23 = .ok (.if_icmp .gt 13, 3) := by decide +kernel
theorem dX8_addNumber_26 : decode cX8_addNumber 26 = .ok (.new 77, 3) := by decide +kernel
theorem dX8_addNumber_29 : decode cX8_addNumber 29 = .ok (.dup, 1) := by decide +kernel
theorem dX8_addNumber_30 : decode cX8_addNumber 30 = .ok (.ldc 79, 2) := by decide +kernel
theorem dX8_addNumber_32 : decode cX8_addNumber 32 = .ok (.invokespecial 81, 3) := by decide +kernel
theorem dX8_addNumber_35 : decode cX8_addNumber 35 = .ok (.athrow, 1) := by decide +kernel
theorem dX8_addNumber_36 : decode cX8_addNumber 36 = .ok (.iload 4, 2) := by decide +kernel
theorem dX8_addNumber_38 : decode cX8_addNumber 38 = .ok (.iconst 1, 1) := by decide +kernel
theorem dX8_addNumber_39 : decode cX8_addNumber 39 = .ok (.if_icmp .lt 10, 3) := by decide +kernel
theorem dX8_addNumber_42 : decode cX8_addNumber 42 = .ok (.iload 4, 2) := by decide +kernel
theorem dX8_addNumber_44 : decode cX8_addNumber 44 = .ok (.bipush 100, 2) := by decide +kernel
theorem dX8_addNumber_46 : decode cX8_addNumber 46 = .ok (.if_icmp .le 13, 3) := by decide +kernel
theorem dX8_addNumber_49 : decode cX8_addNumber 49 = .ok (.new 77, 3) := by decide +kernel
theorem dX8_addNumber_52 : decode cX8_addNumber 52 = .ok (.dup, 1) := by decide +kernel
theorem dX8_addNumber_53 : decode cX8_addNumber 53 = .ok (.ldc 82, 2) := by decide +kernel
theorem dX8_addNumber_55 : decode cX8_addNumber 55 = .ok (.invokespecial 81, 3) := by decide +kernel
theorem dX8_addNumber_58 : decode cX8_addNumber 58 = .ok (.athrow, 1) := by decide +kernel
theorem dX8_addNumber_59 : decode cX8_addNumber 59 = .ok (.aload_n 0, 1) := by decide +kernel
theorem dX8_addNumber_60 : decode cX8_addNumber 60 = .ok (.aload 5, 2) := by decide +kernel
theorem dX8_addNumber_62 : decode cX8_addNumber 62 = .ok (.iconst 1, 1) := by decide +kernel
theorem dX8_addNumber_63 : decode cX8_addNumber 63 = .ok (.iload_n 2, 1) := by decide +kernel
theorem dX8_addNumber_64 : decode cX8_addNumber 64 = .ok (.iload_n 3, 1) := by decide +kernel
theorem dX8_addNumber_65 : decode cX8_addNumber 65 = .ok (.iload 4, 2) := by decide +kernel
theorem dX8_addNumber_67 : decode cX8_addNumber 67 = .ok (.invokevirtual 73, 3) := by decide +kernel
theorem dX8_addNumber_70 : decode cX8_addNumber 70 = .ok (.ireturn, 1) := by decide +kernel
theorem dX8_addChoice_0 : decode cX8_addChoice 0 = .ok (.aload_n 0, 1) := by decide +kernel
theorem dX8_addChoice_1 : decode cX8_addChoice 1 = .ok (.iload_n 1, 1) := by decide +kernel
theorem dX8_addChoice_2 : decode cX8_addChoice 2 = .ok (.invokevirtual 56, 3) := by decide +kernel
theorem dX8_addChoice_5 : decode cX8_addChoice 5 = .ok (.astore_n 3, 1) := by decide +kernel
theorem dX8_addChoice_6 : decode cX8_addChoice 6 = .ok (.iload_n 2, 1) := by decide +kernel
theorem dX8_addChoice_7 : decode cX8_addChoice 7 = .ok (.iconst 2, 1) := by decide +kernel
theorem dX8_addChoice_8 : decode cX8_addChoice 8 = .ok (.if_icmp .lt 9, 3) := by decide +kernel
theorem dX8_addChoice_11 : decode cX8_addChoice 11 = .ok (.iload_n 2, 1) := by decide +kernel
theorem dX8_addChoice_12 : decode cX8_addChoice 12 = .ok (.bipush 9, 2) := by decide +kernel
theorem dX8_addChoice_14 : decode cX8_addChoice 14 = .ok (.if_icmp .le 13, 3) := by decide +kernel
theorem dX8_addChoice_17 : decode cX8_addChoice 17 = .ok (.new 77, 3) := by decide +kernel
theorem dX8_addChoice_20 : decode cX8_addChoice 20 = .ok (.dup, 1) := by decide +kernel
theorem dX8_addChoice_21 : decode cX8_addChoice 21 = .ok (.ldc 84, 2) := by decide +kernel
theorem dX8_addChoice_23 : decode cX8_addChoice 23 = .ok (.invokespecial 81, 3) := by decide +kernel
theorem dX8_addChoice_26 : decode cX8_addChoice 26 = .ok (.athrow, 1) := by decide +kernel
theorem dX8_addChoice_27 : decode cX8_addChoice 27 = .ok (.aload_n 0, 1) := by decide +kernel
theorem dX8_addChoice_28 : decode cX8_addChoice 28 = .ok (.aload_n 3, 1) := by decide +kernel
theorem dX8_addChoice_29 : decode cX8_addChoice 29 = .ok (.iconst 2, 1) := by decide +kernel
theorem dX8_addChoice_30 : decode cX8_addChoice 30 = .ok (.iconst 0, 1) := by decide +kernel
theorem dX8_addChoice_31 : decode cX8_addChoice 31 = .ok (.iload_n 2, 1) := by decide +kernel
theorem dX8_addChoice_32 : decode cX8_addChoice 32 = .ok (.iconst 1, 1) := by decide +kernel
theorem dX8_addChoice_33 : decode cX8_addChoice 33 = .ok (.isub, 1) := by decide +kernel
theorem dX8_addChoice_34 : decode cX8_addChoice 34 = .ok (.iconst 1, 1) := by decide +kernel
theorem dX8_addChoice_35 : decode cX8_addChoice 35 = .ok (.invokevirtual 73, 3) := by decide +kernel
theorem dX8_addChoice_38 : decode cX8_addChoice 38 = .ok (.ireturn, 1) := by decide +kernel
theorem dX8_lock_0 : decode cX8_lock 0 = .ok (.aload_n 0, 1) := by decide +kernel
theorem dX8_lock_1 : decode cX8_lock 1 = .ok (.iload_n 1, 1) := by decide +kernel
theorem dX8_lock_2 : decode cX8_lock 2 = .ok (.invokevirtual 86, 3) := by decide +kernel
theorem dX8_lock_5 : decode cX8_lock 5 = .ok (.astore_n 3, 1) := by decide +kernel
theorem dX8_lock_6 : decode cX8_lock 6 = .ok (.aload_n 3, 1) := by decide +kernel
theorem dX8_lock_7 : decode cX8_lock 7 = .ok (.getfield 89, 3) := by decide +kernel
theorem dX8_lock_10 : decode cX8_lock 10 = .ok (.ifnonnull 13, 3) := by decide +kernel
theorem dX8_lock_13 : decode cX8_lock 13 = .ok (.new 77, 3) := by decide +kernel
theorem dX8_lock_16 : decode cX8_lock 16 = .ok (.dup, 1) := by decide +kernel
theorem dX8_lock_17 : decode cX8_lock 17 = .ok (.ldc 93, 2) := by decide +kernel
theorem dX8_lock_19 : decode cX8_lock 19 = .ok (.invokespecial 81, 3) := by decide +kernel
theorem dX8_lock_22 : decode cX8_lock 22 = .ok (.athrow, 1) := by decide +kernel
theorem dX8_lock_23 : decode cX8_lock 23 = .ok (.iload_n 2, 1) := by decide +kernel
theorem dX8_lock_24 : decode cX8_lock 24 = .ok (.iconst (-1), 1) := by decide +kernel
theorem dX8_lock_25 : decode cX8_lock 25 = .ok (.if_icmp .lt 10, 3) := by decide +kernel
theorem dX8_lock_28 : decode cX8_lock 28 = .ok (.iload_n 2, 1) := by decide +kernel
theorem dX8_lock_29 : decode cX8_lock 29 = .ok (.sipush 9999, 3) := by decide +kernel
theorem dX8_lock_32 : decode cX8_lock 32 = .ok (.if_icmp .le 13, 3) := by decide +kernel
theorem dX8_lock_35 : decode cX8_lock 35 = .ok (.new 77, 3) := by decide +kernel
theorem dX8_lock_38 : decode cX8_lock 38 = .ok (.dup, 1) := by decide +kernel
theorem dX8_lock_39 : decode cX8_lock 39 = .ok (.ldc 95, 2) := by decide +kernel
theorem dX8_lock_41 : decode cX8_lock 41 = .ok (.invokespecial 81, 3) := by decide +kernel
theorem dX8_lock_44 : decode cX8_lock 44 = .ok (.athrow, 1) := by decide +kernel
theorem dX8_lock_45 : decode cX8_lock 45 = .ok (.aload_n 0, 1) := by decide +kernel
theorem dX8_lock_46 : decode cX8_lock 46 = .ok (.invokevirtual 97, 3) := by decide +kernel
theorem dX8_lock_49 : decode cX8_lock 49 = .ok (.aload_n 3, 1) := by decide +kernel
theorem dX8_lock_50 : decode cX8_lock 50 = .ok (.getfield 100, 3) := by decide +kernel
theorem dX8_lock_53 : decode cX8_lock 53 = .ok (.istore 4, 2) := by decide +kernel
theorem dX8_lock_55 : decode cX8_lock 55 = .ok (.aload_n 3, 1) := by decide +kernel
theorem dX8_lock_56 : decode cX8_lock 56 = .ok (.iload_n 2, 1) := by decide +kernel
theorem dX8_lock_57 : decode cX8_lock 57 = .ok (.putfield 100, 3) := by decide +kernel
theorem dX8_lock_60 : decode cX8_lock 60 = .ok (.aload_n 3, 1) := by decide +kernel
theorem dX8_lock_61 : decode cX8_lock 61 = .ok (.iconst 0, 1) := by decide +kernel
theorem dX8_lock_62 : decode cX8_lock 62 = .ok (.putfield 103, 3) := by decide +kernel
theorem dX8_lock_65 : decode cX8_lock 65 = .ok (.iload 4, 2) := by decide +kernel
theorem dX8_lock_67 : decode cX8_lock 67 = .ok (.ireturn, 1) := by decide +kernel
theorem dX8_items_0 : decode cX8_items 0 = .ok (.aload_n 0, 1) := by decide +kernel
theorem dX8_items_1 : decode cX8_items 1 = .ok (.getfield 10, 3) := by decide +kernel
theorem dX8_items_4 : decode cX8_items 4 = .ok (.getfield 107, 3) := by decide +kernel
theorem dX8_items_7 : decode cX8_items 7 = .ok (.ireturn, 1) := by decide +kernel
theorem dX8_kind_0 : decode cX8_kind 0 = .ok (.aload_n 0, 1) := by decide +kernel
theorem dX8_kind_1 : decode cX8_kind 1 = .ok (.iload_n 1, 1) := by decide +kernel
theorem dX8_kind_2 : decode cX8_kind 2 = .ok (.invokevirtual 86, 3) := by decide +kernel
theorem dX8_kind_5 : decode cX8_kind 5 = .ok (.getfield 110, 3) := by decide +kernel
theorem dX8_kind_8 : decode cX8_kind 8 = .ok (.ireturn, 1) := by decide +kernel
theorem dX8_menuOf_0 : decode cX8_menuOf 0 = .ok (.aload_n 0, 1) := by decide +kernel
theorem dX8_menuOf_1 : decode cX8_menuOf 1 = .ok (.iload_n 1, 1) := by decide +kernel
theorem dX8_menuOf_2 : decode cX8_menuOf 2 = .ok (.invokevirtual 86, 3) := by decide +kernel
theorem dX8_menuOf_5 : decode cX8_menuOf 5 = .ok (.getfield 89, 3) := by decide +kernel
theorem dX8_menuOf_8 : decode cX8_menuOf 8 = .ok (.invokestatic 113, 3) := by decide +kernel
theorem dX8_menuOf_11 : decode cX8_menuOf 11 = .ok (.ireturn, 1) := by decide +kernel
theorem dX8_value_0 : decode cX8_value 0 = .ok (.aload_n 0, 1) := by decide +kernel
theorem dX8_value_1 : decode cX8_value 1 = .ok (.iload_n 1, 1) := by decide +kernel
theorem dX8_value_2 : decode cX8_value 2 = .ok (.invokevirtual 86, 3) := by decide +kernel
theorem dX8_value_5 : decode cX8_value 5 = .ok (.astore_n 2, 1) := by decide +kernel
theorem dX8_value_6 : decode cX8_value 6 = .ok (.aload_n 2, 1) := by decide +kernel
theorem dX8_value_7 : decode cX8_value 7 = .ok (.getfield 110, 3) := by decide +kernel
theorem dX8_value_10 : decode cX8_value 10 = .ok (.ifCond .ne 13, 3) := by decide +kernel
theorem dX8_value_13 : decode cX8_value 13 = .ok (.new 77, 3) := by decide +kernel
theorem dX8_value_16 : decode cX8_value 16 = .ok (.dup, 1) := by decide +kernel
theorem dX8_value_17 : decode cX8_value 17 = .ok (.ldc 117, 2) := by decide +kernel
theorem dX8_value_19 : decode cX8_value 19 = .ok (.invokespecial 81, 3) := by decide +kernel
theorem dX8_value_22 : decode cX8_value 22 = .ok (.athrow, 1) := by decide +kernel
theorem dX8_value_23 : decode cX8_value 23 = .ok (.aload_n 2, 1) := by decide +kernel
theorem dX8_value_24 : decode cX8_value 24 = .ok (.getfield 119, 3) := by decide +kernel
theorem dX8_value_27 : decode cX8_value 27 = .ok (.ireturn, 1) := by decide +kernel
theorem dX8_isClosed_0 : decode cX8_isClosed 0 = .ok (.aload_n 0, 1) := by decide +kernel
theorem dX8_isClosed_1 : decode cX8_isClosed 1 = .ok (.iload_n 1, 1) := by decide +kernel
theorem dX8_isClosed_2 : decode cX8_isClosed 2 = .ok (.invokevirtual 86, 3) := by decide +kernel
theorem dX8_isClosed_5 : decode cX8_isClosed 5 = .ok (.invokevirtual 122, 3) := by decide +kernel
theorem dX8_isClosed_8 : decode cX8_isClosed 8 = .ok (.ireturn, 1) := by decide +kernel
theorem dX8_turn_0 : decode cX8_turn 0 = .ok (.iload_n 1, 1) := by decide +kernel
theorem dX8_turn_1 : decode cX8_turn 1 = .ok (.invokestatic 126, 3) := by decide +kernel
theorem dX8_turn_4 : decode cX8_turn 4 = .ok (.aload_n 0, 1) := by decide +kernel
theorem dX8_turn_5 : decode cX8_turn 5 = .ok (.getfield 38, 3) := by decide +kernel
theorem dX8_turn_8 : decode cX8_turn 8 = .ok (.iload_n 1, 1) := by decide +kernel
theorem dX8_turn_9 : decode cX8_turn 9 = .ok (.invokevirtual 130, 3) := by decide +kernel
theorem dX8_turn_12 : decode cX8_turn 12 = .ok (.ireturn, 1) := by decide +kernel
theorem dX8_press_0 : decode cX8_press 0 = .ok (.aload_n 0, 1) := by decide +kernel
theorem dX8_press_1 : decode cX8_press 1 = .ok (.getfield 38, 3) := by decide +kernel
theorem dX8_press_4 : decode cX8_press 4 = .ok (.invokevirtual 134, 3) := by decide +kernel
theorem dX8_press_7 : decode cX8_press 7 = .ok (.ireturn, 1) := by decide +kernel
theorem dX8_hold_0 : decode cX8_hold 0 = .ok (.aload_n 0, 1) := by decide +kernel
theorem dX8_hold_1 : decode cX8_hold 1 = .ok (.getfield 38, 3) := by decide +kernel
theorem dX8_hold_4 : decode cX8_hold 4 = .ok (.invokevirtual 138, 3) := by decide +kernel
theorem dX8_hold_7 : decode cX8_hold 7 = .ok (.ireturn, 1) := by decide +kernel
theorem dX8_tick_0 : decode cX8_tick 0 = .ok (.iload_n 1, 1) := by decide +kernel
theorem dX8_tick_1 : decode cX8_tick 1 = .ok (.iconst 1, 1) := by decide +kernel
theorem dX8_tick_2 : decode cX8_tick 2 = .ok (.if_icmp .lt 9, 3) := by decide +kernel
theorem dX8_tick_5 : decode cX8_tick 5 = .ok (.iload_n 1, 1) := by decide +kernel
theorem dX8_tick_6 : decode cX8_tick 6 = .ok (.bipush 99, 2) := by decide +kernel
theorem dX8_tick_8 : decode cX8_tick 8 = .ok (.if_icmp .le 13, 3) := by decide +kernel
theorem dX8_tick_11 : decode cX8_tick 11 = .ok (.new 77, 3) := by decide +kernel
theorem dX8_tick_14 : decode cX8_tick 14 = .ok (.dup, 1) := by decide +kernel
theorem dX8_tick_15 : decode cX8_tick 15 = .ok (.ldc 141, 2) := by decide +kernel
theorem dX8_tick_17 : decode cX8_tick 17 = .ok (.invokespecial 81, 3) := by decide +kernel
theorem dX8_tick_20 : decode cX8_tick 20 = .ok (.athrow, 1) := by decide +kernel
theorem dX8_tick_21 : decode cX8_tick 21 = .ok (.aload_n 0, 1) := by decide +kernel
theorem dX8_tick_22 : decode cX8_tick 22 = .ok (.getfield 38, 3) := by decide +kernel
theorem dX8_tick_25 : decode cX8_tick 25 = .ok (.iload_n 1, 1) := by decide +kernel
theorem dX8_tick_26 : decode cX8_tick 26 = .ok (.invokevirtual 143, 3) := by decide +kernel
theorem dX8_tick_29 : decode cX8_tick 29 = .ok (.ireturn, 1) := by decide +kernel
theorem dX8_set_0 : decode cX8_set 0 = .ok (.iload_n 1, 1) := by decide +kernel
theorem dX8_set_1 : decode cX8_set 1 = .ok (.ifCond .lt 8, 3) := by decide +kernel
theorem dX8_set_4 : decode cX8_set 4 = .ok (.iload_n 1, 1) := by decide +kernel
theorem dX8_set_5 : decode cX8_set 5 = .ok (.iconst 3, 1) := by decide +kernel
theorem dX8_set_6 : decode cX8_set 6 = .ok (.if_icmp .lt 13, 3) := by decide +kernel
theorem dX8_set_9 : decode cX8_set 9 = .ok (.new 146, 3) := by decide +kernel
theorem dX8_set_12 : decode cX8_set 12 = .ok (.dup, 1) := by decide +kernel
theorem dX8_set_13 : decode cX8_set 13 = .ok (.ldc 148, 2) := by decide +kernel
theorem dX8_set_15 : decode cX8_set 15 = .ok (.invokespecial 150, 3) := by decide +kernel
theorem dX8_set_18 : decode cX8_set 18 = .ok (.athrow, 1) := by decide +kernel
theorem dX8_set_19 : decode cX8_set 19 = .ok (.iload_n 2, 1) := by decide +kernel
theorem dX8_set_20 : decode cX8_set 20 = .ok (.iload_n 1, 1) := by decide +kernel
theorem dX8_set_21 : decode cX8_set 21 = .ok (.invokestatic 151, 3) := by decide +kernel
theorem dX8_set_24 : decode cX8_set 24 = .ok (.if_icmp .lt 11, 3) := by decide +kernel
theorem dX8_set_27 : decode cX8_set 27 = .ok (.iload_n 2, 1) := by decide +kernel
theorem dX8_set_28 : decode cX8_set 28 = .ok (.iload_n 1, 1) := by decide +kernel
theorem dX8_set_29 : decode cX8_set 29 = .ok (.invokestatic 154, 3) := by decide +kernel
theorem dX8_set_32 : decode cX8_set 32 = .ok (.if_icmp .le 13, 3) := by decide +kernel
theorem dX8_set_35 : decode cX8_set 35 = .ok (.new 77, 3) := by decide +kernel
theorem dX8_set_38 : decode cX8_set 38 = .ok (.dup, 1) := by decide +kernel
theorem dX8_set_39 : decode cX8_set 39 = .ok (.ldc 157, 2) := by decide +kernel
theorem dX8_set_41 : decode cX8_set 41 = .ok (.invokespecial 81, 3) := by decide +kernel
theorem dX8_set_44 : decode cX8_set 44 = .ok (.athrow, 1) := by decide +kernel
theorem dX8_set_45 : decode cX8_set 45 = .ok (.aload_n 0, 1) := by decide +kernel
theorem dX8_set_46 : decode cX8_set 46 = .ok (.getfield 38, 3) := by decide +kernel
theorem dX8_set_49 : decode cX8_set 49 = .ok (.iload_n 1, 1) := by decide +kernel
theorem dX8_set_50 : decode cX8_set 50 = .ok (.invokevirtual 159, 3) := by decide +kernel
theorem dX8_set_53 : decode cX8_set 53 = .ok (.istore_n 3, 1) := by decide +kernel
theorem dX8_set_54 : decode cX8_set 54 = .ok (.aload_n 0, 1) := by decide +kernel
theorem dX8_set_55 : decode cX8_set 55 = .ok (.getfield 38, 3) := by decide +kernel
theorem dX8_set_58 : decode cX8_set 58 = .ok (.iload_n 1, 1) := by decide +kernel
theorem dX8_set_59 : decode cX8_set 59 = .ok (.iload_n 2, 1) := by decide +kernel
theorem dX8_set_60 : decode cX8_set 60 = .ok (.invokevirtual 162, 3) := by decide +kernel
theorem dX8_set_63 : decode cX8_set 63 = .ok (.iload_n 3, 1) := by decide +kernel
theorem dX8_set_64 : decode cX8_set 64 = .ok (.ireturn, 1) := by decide +kernel
theorem dX8_takeBack_0 : decode cX8_takeBack 0 = .ok (.aload_n 0, 1) := by decide +kernel
theorem dX8_takeBack_1 : decode cX8_takeBack 1 = .ok (.getfield 19, 3) := by decide +kernel
theorem dX8_takeBack_4 : decode cX8_takeBack 4 = .ok (.invokevirtual 166, 3) := by decide +kernel
theorem dX8_takeBack_7 : decode cX8_takeBack 7 = .ok (.astore_n 1, 1) := by decide +kernel
theorem dX8_takeBack_8 : decode cX8_takeBack 8 = .ok (.aload_n 1, 1) := by decide +kernel
theorem dX8_takeBack_9 : decode cX8_takeBack 9 = .ok (.ifnonnull 13, 3) := by decide +kernel
theorem dX8_takeBack_12 : decode cX8_takeBack 12 = .ok (.new 66, 3) := by decide +kernel
theorem dX8_takeBack_15 : decode cX8_takeBack 15 = .ok (.dup, 1) := by decide +kernel
theorem dX8_takeBack_16 : decode cX8_takeBack 16 = .ok (.ldc 170, 2) := by decide +kernel
theorem dX8_takeBack_18 : decode cX8_takeBack 18 = .ok (.invokespecial 70, 3) := by decide +kernel
theorem dX8_takeBack_21 : decode cX8_takeBack 21 = .ok (.athrow, 1) := by decide +kernel
theorem dX8_takeBack_22 : decode cX8_takeBack 22 = .ok (.aload_n 1, 1) := by decide +kernel
theorem dX8_takeBack_23 : decode cX8_takeBack 23 = .ok (.aload_n 0, 1) := by decide +kernel
theorem dX8_takeBack_24 : decode cX8_takeBack 24 = .ok (.getfield 19, 3) := by decide +kernel
theorem dX8_takeBack_27 : decode cX8_takeBack 27 = .ok (.invokevirtual 172, 3) := by decide +kernel
theorem dX8_takeBack_30 : decode cX8_takeBack 30 = .ok (.putfield 119, 3) := by decide +kernel
theorem dX8_takeBack_33 : decode cX8_takeBack 33 = .ok (.aload_n 0, 1) := by decide +kernel
theorem dX8_takeBack_34 : decode cX8_takeBack 34 = .ok (.getfield 19, 3) := by decide +kernel
theorem dX8_takeBack_37 : decode cX8_takeBack 37 = .ok (.invokevirtual 175, 3) := by decide +kernel
theorem dX8_takeBack_40 : decode cX8_takeBack 40 = .ok (.aload_n 0, 1) := by decide +kernel
theorem dX8_takeBack_41 : decode cX8_takeBack 41 = .ok (.getfield 38, 3) := by decide +kernel
theorem dX8_takeBack_44 : decode cX8_takeBack 44 = .ok (.iconst 3, 1) := by decide +kernel
theorem dX8_takeBack_45 : decode cX8_takeBack 45 = .ok (.iconst 1, 1) := by decide +kernel
theorem dX8_takeBack_46 : decode cX8_takeBack 46 = .ok (.invokevirtual 178, 3) := by decide +kernel
theorem dX8_takeBack_49 : decode cX8_takeBack 49 = .ok (.aload_n 1, 1) := by decide +kernel
theorem dX8_takeBack_50 : decode cX8_takeBack 50 = .ok (.getfield 180, 3) := by decide +kernel
theorem dX8_takeBack_53 : decode cX8_takeBack 53 = .ok (.ireturn, 1) := by decide +kernel
theorem dX8_savePreset_0 : decode cX8_savePreset 0 = .ok (.aload_n 0, 1) := by decide +kernel
theorem dX8_savePreset_1 : decode cX8_savePreset 1 = .ok (.iload_n 1, 1) := by decide +kernel
theorem dX8_savePreset_2 : decode cX8_savePreset 2 = .ok (.invokevirtual 183, 3) := by decide +kernel
theorem dX8_savePreset_5 : decode cX8_savePreset 5 = .ok (.aload_n 0, 1) := by decide +kernel
theorem dX8_savePreset_6 : decode cX8_savePreset 6 = .ok (.getfield 10, 3) := by decide +kernel
theorem dX8_savePreset_9 : decode cX8_savePreset 9 = .ok (.invokevirtual 187, 3) := by decide +kernel
theorem dX8_savePreset_12 : decode cX8_savePreset 12 = .ok (.ireturn, 1) := by decide +kernel
theorem dX8_loadPreset_0 : decode cX8_loadPreset 0 = .ok (.aload_n 0, 1) := by decide +kernel
theorem dX8_loadPreset_1 : decode cX8_loadPreset 1 = .ok (.iload_n 1, 1) := by decide +kernel
theorem dX8_loadPreset_2 : decode cX8_loadPreset 2 = .ok (.invokevirtual 183, 3) := by decide +kernel
theorem dX8_loadPreset_5 : decode cX8_loadPreset 5 = .ok (.astore_n 2, 1) := by decide +kernel
theorem dX8_loadPreset_6 : decode cX8_loadPreset 6 = .ok (.aload_n 2, 1) := by decide +kernel
theorem dX8_loadPreset_7 : decode cX8_loadPreset 7 = .ok (.getfield 191, 3) := by decide +kernel
theorem dX8_loadPreset_10 : decode cX8_loadPreset 10 = .ok (.ifCond .ne 13, 3) := by decide +kernel
theorem dX8_loadPreset_13 : decode cX8_loadPreset 13 = .ok (.new 66, 3) := by decide +kernel
theorem dX8_loadPreset_16 : decode cX8_loadPreset 16 = .ok (.dup, 1) := by decide +kernel
theorem dX8_loadPreset_17 : decode cX8_loadPreset 17 = .ok (.ldc 194, 2) := by decide +kernel
theorem dX8_loadPreset_19 : decode cX8_loadPreset 19 = .ok (.invokespecial 70, 3) := by decide +kernel
theorem dX8_loadPreset_22 : decode cX8_loadPreset 22 = .ok (.athrow, 1) := by decide +kernel
theorem dX8_loadPreset_23 : decode cX8_loadPreset 23 = .ok (.aload_n 0, 1) := by decide +kernel
theorem dX8_loadPreset_24 : decode cX8_loadPreset 24 = .ok (.getfield 19, 3) := by decide +kernel
theorem dX8_loadPreset_27 : decode cX8_loadPreset 27 = .ok (.invokevirtual 196, 3) := by decide +kernel
theorem dX8_loadPreset_30 : decode cX8_loadPreset 30 = .ok (.aload_n 2, 1) := by decide +kernel
theorem dX8_loadPreset_31 : decode cX8_loadPreset 31 = .ok (.aload_n 0, 1) := by decide +kernel
theorem dX8_loadPreset_32 : decode cX8_loadPreset 32 = .ok (.getfield 10, 3) := by decide +kernel
theorem dX8_loadPreset_35 : decode cX8_loadPreset 35 = .ok (.invokevirtual 199, 3) := by decide +kernel
theorem dX8_loadPreset_38 : decode cX8_loadPreset 38 = .ok (.ireturn, 1) := by decide +kernel
theorem dX8_mode_0 : decode cX8_mode 0 = .ok (.aload_n 0, 1) := by decide +kernel
theorem dX8_mode_1 : decode cX8_mode 1 = .ok (.getfield 38, 3) := by decide +kernel
theorem dX8_mode_4 : decode cX8_mode 4 = .ok (.getfield 202, 3) := by decide +kernel
theorem dX8_mode_7 : decode cX8_mode 7 = .ok (.ireturn, 1) := by decide +kernel
theorem dX8_shown_0 : decode cX8_shown 0 = .ok (.aload_n 0, 1) := by decide +kernel
theorem dX8_shown_1 : decode cX8_shown 1 = .ok (.getfield 38, 3) := by decide +kernel
theorem dX8_shown_4 : decode cX8_shown 4 = .ok (.getfield 205, 3) := by decide +kernel
theorem dX8_shown_7 : decode cX8_shown 7 = .ok (.getfield 180, 3) := by decide +kernel
theorem dX8_shown_10 : decode cX8_shown 10 = .ok (.ireturn, 1) := by decide +kernel
theorem dX8_cursor_0 : decode cX8_cursor 0 = .ok (.aload_n 0, 1) := by decide +kernel
theorem dX8_cursor_1 : decode cX8_cursor 1 = .ok (.getfield 38, 3) := by decide +kernel
theorem dX8_cursor_4 : decode cX8_cursor 4 = .ok (.getfield 208, 3) := by decide +kernel
theorem dX8_cursor_7 : decode cX8_cursor 7 = .ok (.ireturn, 1) := by decide +kernel
theorem dX8_chosen_0 : decode cX8_chosen 0 = .ok (.aload_n 0, 1) := by decide +kernel
theorem dX8_chosen_1 : decode cX8_chosen 1 = .ok (.getfield 38, 3) := by decide +kernel
theorem dX8_chosen_4 : decode cX8_chosen 4 = .ok (.invokevirtual 211, 3) := by decide +kernel
theorem dX8_chosen_7 : decode cX8_chosen 7 = .ok (.invokestatic 113, 3) := by decide +kernel
theorem dX8_chosen_10 : decode cX8_chosen 10 = .ok (.ireturn, 1) := by decide +kernel
theorem dX8_draft_0 : decode cX8_draft 0 = .ok (.aload_n 0, 1) := by decide +kernel
theorem dX8_draft_1 : decode cX8_draft 1 = .ok (.getfield 38, 3) := by decide +kernel
theorem dX8_draft_4 : decode cX8_draft 4 = .ok (.getfield 202, 3) := by decide +kernel
theorem dX8_draft_7 : decode cX8_draft 7 = .ok (.iconst 1, 1) := by decide +kernel
theorem dX8_draft_8 : decode cX8_draft 8 = .ok (.if_icmp .ne 13, 3) := by decide +kernel
theorem dX8_draft_11 : decode cX8_draft 11 = .ok (.aload_n 0, 1) := by decide +kernel
theorem dX8_draft_12 : decode cX8_draft 12 = .ok (.getfield 38, 3) := by decide +kernel
theorem dX8_draft_15 : decode cX8_draft 15 = .ok (.getfield 214, 3) := by decide +kernel
theorem dX8_draft_18 : decode cX8_draft 18 = .ok (.goto 4, 3) := by decide +kernel
theorem dX8_draft_21 : decode cX8_draft 21 = .ok (.iconst 0, 1) := by decide +kernel
theorem dX8_draft_22 : decode cX8_draft 22 = .ok (.ireturn, 1) := by decide +kernel
theorem dX8_idle_0 : decode cX8_idle 0 = .ok (.aload_n 0, 1) := by decide +kernel
theorem dX8_idle_1 : decode cX8_idle 1 = .ok (.getfield 38, 3) := by decide +kernel
theorem dX8_idle_4 : decode cX8_idle 4 = .ok (.getfield 217, 3) := by decide +kernel
theorem dX8_idle_7 : decode cX8_idle 7 = .ok (.ireturn, 1) := by decide +kernel
theorem dX8_barred_0 : decode cX8_barred 0 = .ok (.aload_n 0, 1) := by decide +kernel
theorem dX8_barred_1 : decode cX8_barred 1 = .ok (.getfield 38, 3) := by decide +kernel
theorem dX8_barred_4 : decode cX8_barred 4 = .ok (.getfield 220, 3) := by decide +kernel
theorem dX8_barred_7 : decode cX8_barred 7 = .ok (.ireturn, 1) := by decide +kernel
theorem dX8_logged_0 : decode cX8_logged 0 = .ok (.aload_n 0, 1) := by decide +kernel
theorem dX8_logged_1 : decode cX8_logged 1 = .ok (.getfield 19, 3) := by decide +kernel
theorem dX8_logged_4 : decode cX8_logged 4 = .ok (.getfield 223, 3) := by decide +kernel
theorem dX8_logged_7 : decode cX8_logged 7 = .ok (.ireturn, 1) := by decide +kernel
theorem dX8_isHome_0 : decode cX8_isHome 0 = .ok (.aload_n 0, 1) := by decide +kernel
theorem dX8_isHome_1 : decode cX8_isHome 1 = .ok (.getfield 38, 3) := by decide +kernel
theorem dX8_isHome_4 : decode cX8_isHome 4 = .ok (.invokevirtual 224, 3) := by decide +kernel
theorem dX8_isHome_7 : decode cX8_isHome 7 = .ok (.ireturn, 1) := by decide +kernel
theorem dX8_display_0 : decode cX8_display 0 = .ok (.iload_n 1, 1) := by decide +kernel
theorem dX8_display_1 : decode cX8_display 1 = .ok (.ifCond .lt 18, 3) := by decide +kernel
theorem dX8_display_4 : decode cX8_display 4 = .ok (.iload_n 1, 1) := by decide +kernel
theorem dX8_display_5 : decode cX8_display 5 = .ok (.iconst 2, 1) := by decide +kernel
theorem dX8_display_6 : decode cX8_display 6 = .ok (.if_icmp .ge 13, 3) := by decide +kernel
theorem dX8_display_9 : decode cX8_display 9 = .ok (.iload_n 2, 1) := by decide +kernel
theorem dX8_display_10 : decode cX8_display 10 = .ok (.ifCond .lt 9, 3) := by decide +kernel
theorem dX8_display_13 : decode cX8_display 13 = .ok (.iload_n 2, 1) := by decide +kernel
theorem dX8_display_14 : decode cX8_display 14 = .ok (.bipush 16, 2) := by decide +kernel
theorem dX8_display_16 : decode cX8_display 16 = .ok (.if_icmp .lt 13, 3) := by decide +kernel
theorem dX8_display_19 : decode cX8_display 19 = .ok (.new 146, 3) := by decide +kernel
theorem dX8_display_22 : decode cX8_display 22 = .ok (.dup, 1) := by decide +kernel
theorem dX8_display_23 : decode cX8_display 23 = .ok (.ldc 227, 2) := by decide +kernel
theorem dX8_display_25 : decode cX8_display 25 = .ok (.invokespecial 150, 3) := by decide +kernel
theorem dX8_display_28 : decode cX8_display 28 = .ok (.athrow, 1) := by decide +kernel
theorem dX8_display_29 : decode cX8_display 29 = .ok (.aload_n 0, 1) := by decide +kernel
theorem dX8_display_30 : decode cX8_display 30 = .ok (.getfield 45, 3) := by decide +kernel
theorem dX8_display_33 : decode cX8_display 33 = .ok (.aload_n 0, 1) := by decide +kernel
theorem dX8_display_34 : decode cX8_display 34 = .ok (.getfield 38, 3) := by decide +kernel
theorem dX8_display_37 : decode cX8_display 37 = .ok (.invokevirtual 229, 3) := by decide +kernel
theorem dX8_display_40 : decode cX8_display 40 = .ok (.aload_n 0, 1) := by decide +kernel
theorem dX8_display_41 : decode cX8_display 41 = .ok (.getfield 45, 3) := by decide +kernel
theorem dX8_display_44 : decode cX8_display 44 = .ok (.iload_n 1, 1) := by decide +kernel
theorem dX8_display_45 : decode cX8_display 45 = .ok (.iload_n 2, 1) := by decide +kernel
theorem dX8_display_46 : decode cX8_display 46 = .ok (.invokevirtual 233, 3) := by decide +kernel
theorem dX8_display_49 : decode cX8_display 49 = .ok (.ireturn, 1) := by decide +kernel
theorem dX8_events_0 : decode cX8_events 0 = .ok (.iload_n 1, 1) := by decide +kernel
theorem dX8_events_1 : decode cX8_events 1 = .ok (.ifCond .lt 9, 3) := by decide +kernel
theorem dX8_events_4 : decode cX8_events 4 = .ok (.iload_n 1, 1) := by decide +kernel
theorem dX8_events_5 : decode cX8_events 5 = .ok (.bipush 8, 2) := by decide +kernel
theorem dX8_events_7 : decode cX8_events 7 = .ok (.if_icmp .lt 13, 3) := by decide +kernel
theorem dX8_events_10 : decode cX8_events 10 = .ok (.new 146, 3) := by decide +kernel
theorem dX8_events_13 : decode cX8_events 13 = .ok (.dup, 1) := by decide +kernel
theorem dX8_events_14 : decode cX8_events 14 = .ok (.ldc 237, 2) := by decide +kernel
theorem dX8_events_16 : decode cX8_events 16 = .ok (.invokespecial 150, 3) := by decide +kernel
theorem dX8_events_19 : decode cX8_events 19 = .ok (.athrow, 1) := by decide +kernel
theorem dX8_events_20 : decode cX8_events 20 = .ok (.aload_n 0, 1) := by decide +kernel
theorem dX8_events_21 : decode cX8_events 21 = .ok (.getfield 38, 3) := by decide +kernel
theorem dX8_events_24 : decode cX8_events 24 = .ok (.iload_n 1, 1) := by decide +kernel
theorem dX8_events_25 : decode cX8_events 25 = .ok (.invokevirtual 239, 3) := by decide +kernel
theorem dX8_events_28 : decode cX8_events 28 = .ok (.ireturn, 1) := by decide +kernel
theorem dX8_ifTurned_0 : decode cX8_ifTurned 0 = .ok (.iload_n 1, 1) := by decide +kernel
theorem dX8_ifTurned_1 : decode cX8_ifTurned 1 = .ok (.invokestatic 126, 3) := by decide +kernel
theorem dX8_ifTurned_4 : decode cX8_ifTurned 4 = .ok (.aload_n 0, 1) := by decide +kernel
theorem dX8_ifTurned_5 : decode cX8_ifTurned 5 = .ok (.getfield 38, 3) := by decide +kernel
theorem dX8_ifTurned_8 : decode cX8_ifTurned 8 = .ok (.iload_n 1, 1) := by decide +kernel
theorem dX8_ifTurned_9 : decode cX8_ifTurned 9 = .ok (.invokevirtual 242, 3) := by decide +kernel
theorem dX8_ifTurned_12 : decode cX8_ifTurned 12 = .ok (.ireturn, 1) := by decide +kernel
theorem dX8_pressesTo_0 : decode cX8_pressesTo 0 = .ok (.aload_n 0, 1) := by decide +kernel
theorem dX8_pressesTo_1 : decode cX8_pressesTo 1 = .ok (.iload_n 1, 1) := by decide +kernel
theorem dX8_pressesTo_2 : decode cX8_pressesTo 2 = .ok (.invokevirtual 86, 3) := by decide +kernel
theorem dX8_pressesTo_5 : decode cX8_pressesTo 5 = .ok (.getfield 60, 3) := by decide +kernel
theorem dX8_pressesTo_8 : decode cX8_pressesTo 8 = .ok (.ireturn, 1) := by decide +kernel
theorem dX8_detentsTo_0 : decode cX8_detentsTo 0 = .ok (.aload_n 0, 1) := by decide +kernel
theorem dX8_detentsTo_1 : decode cX8_detentsTo 1 = .ok (.getfield 38, 3) := by decide +kernel
theorem dX8_detentsTo_4 : decode cX8_detentsTo 4 = .ok (.aload_n 0, 1) := by decide +kernel
theorem dX8_detentsTo_5 : decode cX8_detentsTo 5 = .ok (.iload_n 1, 1) := by decide +kernel
theorem dX8_detentsTo_6 : decode cX8_detentsTo 6 = .ok (.invokevirtual 86, 3) := by decide +kernel
theorem dX8_detentsTo_9 : decode cX8_detentsTo 9 = .ok (.invokevirtual 245, 3) := by decide +kernel
theorem dX8_detentsTo_12 : decode cX8_detentsTo 12 = .ok (.ireturn, 1) := by decide +kernel
theorem dX8_codesTo_0 : decode cX8_codesTo 0 = .ok (.iconst 0, 1) := by decide +kernel
theorem dX8_codesTo_1 : decode cX8_codesTo 1 = .ok (.istore_n 2, 1) := by decide +kernel
theorem dX8_codesTo_2 : decode cX8_codesTo 2 = .ok (.aload_n 0, 1) := by decide +kernel
theorem dX8_codesTo_3 : decode cX8_codesTo 3 = .ok (.iload_n 1, 1) := by decide +kernel
theorem dX8_codesTo_4 : decode cX8_codesTo 4 = .ok (.invokevirtual 86, 3) := by decide +kernel
theorem dX8_codesTo_7 : decode cX8_codesTo 7 = .ok (.astore_n 3, 1) := by decide +kernel
theorem dX8_codesTo_8 : decode cX8_codesTo 8 = .ok (.aload_n 3, 1) := by decide +kernel
theorem dX8_codesTo_9 : decode cX8_codesTo 9 = .ok (.ifnull 21, 3) := by decide +kernel
theorem dX8_codesTo_12 : decode cX8_codesTo 12 = .ok (.aload_n 3, 1) := by decide +kernel
theorem dX8_codesTo_13 : decode cX8_codesTo 13 = .ok (.invokevirtual 122, 3) := by decide +kernel
theorem dX8_codesTo_16 : decode cX8_codesTo 16 = .ok (.ifCond .eq 6, 3) := by decide +kernel
theorem dX8_codesTo_19 : decode cX8_codesTo 19 = .ok (.iinc 2 1, 3) := by decide +kernel
theorem dX8_codesTo_22 : decode cX8_codesTo 22 = .ok (.aload_n 3, 1) := by decide +kernel
theorem dX8_codesTo_23 : decode cX8_codesTo 23 = .ok (.getfield 89, 3) := by decide +kernel
theorem dX8_codesTo_26 : decode cX8_codesTo 26 = .ok (.astore_n 3, 1) := by decide +kernel
theorem dX8_codesTo_27 : decode cX8_codesTo 27 = .ok (.goto (-19), 3) := by decide +kernel
theorem dX8_codesTo_30 : decode cX8_codesTo 30 = .ok (.iload_n 2, 1) := by decide +kernel
theorem dX8_codesTo_31 : decode cX8_codesTo 31 = .ok (.ireturn, 1) := by decide +kernel
theorem dX8_ticksToHome_0 : decode cX8_ticksToHome 0 = .ok (.aload_n 0, 1) := by decide +kernel
theorem dX8_ticksToHome_1 : decode cX8_ticksToHome 1 = .ok (.getfield 38, 3) := by decide +kernel
theorem dX8_ticksToHome_4 : decode cX8_ticksToHome 4 = .ok (.invokevirtual 248, 3) := by decide +kernel
theorem dX8_ticksToHome_7 : decode cX8_ticksToHome 7 = .ok (.ireturn, 1) := by decide +kernel
theorem dX8_fraction_0 : decode cX8_fraction 0 = .ok (.iconst 0, 1) := by decide +kernel
theorem dX8_fraction_1 : decode cX8_fraction 1 = .ok (.istore_n 1, 1) := by decide +kernel
theorem dX8_fraction_2 : decode cX8_fraction 2 = .ok (.iconst 0, 1) := by decide +kernel
theorem dX8_fraction_3 : decode cX8_fraction 3 = .ok (.istore_n 2, 1) := by decide +kernel
theorem dX8_fraction_4 : decode cX8_fraction 4 = .ok (.iconst 0, 1) := by decide +kernel
theorem dX8_fraction_5 : decode cX8_fraction 5 = .ok (.istore_n 3, 1) := by decide +kernel
theorem dX8_fraction_6 : decode cX8_fraction 6 = .ok (.iload_n 3, 1) := by decide +kernel
theorem dX8_fraction_7 : decode cX8_fraction 7 = .ok (.aload_n 0, 1) := by decide +kernel
theorem dX8_fraction_8 : decode cX8_fraction 8 = .ok (.getfield 10, 3) := by decide +kernel
theorem dX8_fraction_11 : decode cX8_fraction 11 = .ok (.getfield 107, 3) := by decide +kernel
theorem dX8_fraction_14 : decode cX8_fraction 14 = .ok (.if_icmp .ge 61, 3) := by decide +kernel
theorem dX8_fraction_17 : decode cX8_fraction 17 = .ok (.aload_n 0, 1) := by decide +kernel
theorem dX8_fraction_18 : decode cX8_fraction 18 = .ok (.getfield 10, 3) := by decide +kernel
theorem dX8_fraction_21 : decode cX8_fraction 21 = .ok (.iload_n 3, 1) := by decide +kernel
theorem dX8_fraction_22 : decode cX8_fraction 22 = .ok (.invokevirtual 251, 3) := by decide +kernel
theorem dX8_fraction_25 : decode cX8_fraction 25 = .ok (.astore 4, 2) := by decide +kernel
theorem dX8_fraction_27 : decode cX8_fraction 27 = .ok (.aload 4, 2) := by decide +kernel
theorem dX8_fraction_29 : decode cX8_fraction 29 = .ok (.ifnull 40, 3) := by decide +kernel
theorem dX8_fraction_32 : decode cX8_fraction 32 = .ok (.aload 4, 2) := by decide +kernel
theorem dX8_fraction_34 : decode cX8_fraction 34 = .ok (.getfield 110, 3) := by decide +kernel
theorem dX8_fraction_37 : decode cX8_fraction 37 = .ok (.iconst 1, 1) := by decide +kernel
theorem dX8_fraction_38 : decode cX8_fraction 38 = .ok (.if_icmp .ne 31, 3) := by decide +kernel
theorem dX8_fraction_41 : decode cX8_fraction 41 = .ok (.iload_n 1, 1) := by decide +kernel
theorem dX8_fraction_42 : decode cX8_fraction 42 = .ok (.aload 4, 2) := by decide +kernel
theorem dX8_fraction_44 : decode cX8_fraction 44 = .ok (.getfield 119, 3) := by decide +kernel
theorem dX8_fraction_47 : decode cX8_fraction 47 = .ok (.aload 4, 2) := by decide +kernel
theorem dX8_fraction_49 : decode cX8_fraction 49 = .ok (.getfield 254, 3) := by decide +kernel
theorem dX8_fraction_52 : decode cX8_fraction 52 = .ok (.isub, 1) := by decide +kernel
theorem dX8_fraction_53 : decode cX8_fraction 53 = .ok (.iadd, 1) := by decide +kernel
theorem dX8_fraction_54 : decode cX8_fraction 54 = .ok (.istore_n 1, 1) := by decide +kernel
theorem dX8_fraction_55 : decode cX8_fraction 55 = .ok (.iload_n 2, 1) := by decide +kernel
theorem dX8_fraction_56 : decode cX8_fraction 56 = .ok (.aload 4, 2) := by decide +kernel
theorem dX8_fraction_58 : decode cX8_fraction 58 = .ok (.getfield 257, 3) := by decide +kernel
theorem dX8_fraction_61 : decode cX8_fraction 61 = .ok (.aload 4, 2) := by decide +kernel
theorem dX8_fraction_63 : decode cX8_fraction 63 = .ok (.getfield 254, 3) := by decide +kernel
theorem dX8_fraction_66 : decode cX8_fraction 66 = .ok (.isub, 1) := by decide +kernel
theorem dX8_fraction_67 : decode cX8_fraction 67 = .ok (.iadd, 1) := by decide +kernel
theorem dX8_fraction_68 : decode cX8_fraction 68 = .ok (.istore_n 2, 1) := by decide +kernel
theorem dX8_fraction_69 : decode cX8_fraction 69 = .ok (.iinc 3 1, 3) := by decide +kernel
theorem dX8_fraction_72 : decode cX8_fraction 72 = .ok (.goto (-66), 3) := by decide +kernel
theorem dX8_fraction_75 : decode cX8_fraction 75 = .ok (.iload_n 2, 1) := by decide +kernel
theorem dX8_fraction_76 : decode cX8_fraction 76 = .ok (.ifCond .le 11, 3) := by decide +kernel
theorem dX8_fraction_79 : decode cX8_fraction 79 = .ok (.iload_n 1, 1) := by decide +kernel
theorem dX8_fraction_80 : decode cX8_fraction 80 = .ok (.i2d, 1) := by decide +kernel
theorem dX8_fraction_81 : decode cX8_fraction 81 = .ok (.iload_n 2, 1) := by decide +kernel
theorem dX8_fraction_82 : decode cX8_fraction 82 = .ok (.i2d, 1) := by decide +kernel
theorem dX8_fraction_83 : decode cX8_fraction 83 = .ok (.ddiv, 1) := by decide +kernel
theorem dX8_fraction_84 : decode cX8_fraction 84 = .ok (.goto 4, 3) := by decide +kernel
theorem dX8_fraction_87 : decode cX8_fraction 87 = .ok (.dconst 0, 1) := by decide +kernel
theorem dX8_fraction_88 : decode cX8_fraction 88 = .ok (.dreturn, 1) := by decide +kernel
theorem dX8_append_0 : decode cX8_append 0 = .ok (.iload_n 1, 1) := by decide +kernel
theorem dX8_append_1 : decode cX8_append 1 = .ok (.bipush 33, 2) := by decide +kernel
theorem dX8_append_3 : decode cX8_append 3 = .ok (.if_icmp .lt 9, 3) := by decide +kernel
theorem dX8_append_6 : decode cX8_append 6 = .ok (.iload_n 1, 1) := by decide +kernel
theorem dX8_append_7 : decode cX8_append 7 = .ok (.bipush 126, 2) := by decide +kernel
theorem dX8_append_9 : decode cX8_append 9 = .ok (.if_icmp .le 13, 3) := by decide +kernel
theorem dX8_append_12 : decode cX8_append 12 = .ok (.new 77, 3) := by decide +kernel
theorem dX8_append_15 : decode cX8_append 15 = .ok (.dup, 1) := by decide +kernel
theorem dX8_append_16 : decode cX8_append 16 = .ok (.ldc 95, 2) := by decide +kernel
theorem dX8_append_18 : decode cX8_append 18 = .ok (.invokespecial 81, 3) := by decide +kernel
theorem dX8_append_21 : decode cX8_append 21 = .ok (.athrow, 1) := by decide +kernel
theorem dX8_append_22 : decode cX8_append 22 = .ok (.aload_n 0, 1) := by decide +kernel
theorem dX8_append_23 : decode cX8_append 23 = .ok (.getfield 52, 3) := by decide +kernel
theorem dX8_append_26 : decode cX8_append 26 = .ok (.getfield 260, 3) := by decide +kernel
theorem dX8_append_29 : decode cX8_append 29 = .ok (.bipush 60, 2) := by decide +kernel
theorem dX8_append_31 : decode cX8_append 31 = .ok (.if_icmp .lt 14, 3) := by decide +kernel
theorem dX8_append_34 : decode cX8_append 34 = .ok (.new 66, 3) := by decide +kernel
theorem dX8_append_37 : decode cX8_append 37 = .ok (.dup, 1) := by decide +kernel
theorem dX8_append_38 : decode cX8_append 38 = .ok (.ldc_w 263, 3) := by decide +kernel
theorem dX8_append_41 : decode cX8_append 41 = .ok (.invokespecial 70, 3) := by decide +kernel
theorem dX8_append_44 : decode cX8_append 44 = .ok (.athrow, 1) := by decide +kernel
theorem dX8_append_45 : decode cX8_append 45 = .ok (.aload_n 0, 1) := by decide +kernel
theorem dX8_append_46 : decode cX8_append 46 = .ok (.getfield 52, 3) := by decide +kernel
theorem dX8_append_49 : decode cX8_append 49 = .ok (.iload_n 1, 1) := by decide +kernel
theorem dX8_append_50 : decode cX8_append 50 = .ok (.i2c, 1) := by decide +kernel
theorem dX8_append_51 : decode cX8_append 51 = .ok (.invokevirtual 265, 3) := by decide +kernel
theorem dX8_append_54 : decode cX8_append 54 = .ok (.aload_n 0, 1) := by decide +kernel
theorem dX8_append_55 : decode cX8_append 55 = .ok (.getfield 52, 3) := by decide +kernel
theorem dX8_append_58 : decode cX8_append 58 = .ok (.getfield 260, 3) := by decide +kernel
theorem dX8_append_61 : decode cX8_append 61 = .ok (.ireturn, 1) := by decide +kernel
theorem dX8_clearText_0 : decode cX8_clearText 0 = .ok (.aload_n 0, 1) := by decide +kernel
theorem dX8_clearText_1 : decode cX8_clearText 1 = .ok (.getfield 52, 3) := by decide +kernel
theorem dX8_clearText_4 : decode cX8_clearText 4 = .ok (.getfield 260, 3) := by decide +kernel
theorem dX8_clearText_7 : decode cX8_clearText 7 = .ok (.istore_n 1, 1) := by decide +kernel
theorem dX8_clearText_8 : decode cX8_clearText 8 = .ok (.aload_n 0, 1) := by decide +kernel
theorem dX8_clearText_9 : decode cX8_clearText 9 = .ok (.getfield 52, 3) := by decide +kernel
theorem dX8_clearText_12 : decode cX8_clearText 12 = .ok (.invokevirtual 269, 3) := by decide +kernel
theorem dX8_clearText_15 : decode cX8_clearText 15 = .ok (.iload_n 1, 1) := by decide +kernel
theorem dX8_clearText_16 : decode cX8_clearText 16 = .ok (.ireturn, 1) := by decide +kernel
theorem dX8_firstError_0 : decode cX8_firstError 0 = .ok (.aload_n 0, 1) := by decide +kernel
theorem dX8_firstError_1 : decode cX8_firstError 1 = .ok (.getfield 52, 3) := by decide +kernel
theorem dX8_firstError_4 : decode cX8_firstError 4 = .ok (.invokevirtual 272, 3) := by decide +kernel
theorem dX8_firstError_7 : decode cX8_firstError 7 = .ok (.ireturn, 1) := by decide +kernel
theorem dX8_run_0 : decode cX8_run 0 = .ok (.aload_n 0, 1) := by decide +kernel
theorem dX8_run_1 : decode cX8_run 1 = .ok (.getfield 52, 3) := by decide +kernel
theorem dX8_run_4 : decode cX8_run 4 = .ok (.invokevirtual 275, 3) := by decide +kernel
theorem dX8_run_7 : decode cX8_run 7 = .ok (.ifCond .ne 14, 3) := by decide +kernel
theorem dX8_run_10 : decode cX8_run 10 = .ok (.new 77, 3) := by decide +kernel
theorem dX8_run_13 : decode cX8_run 13 = .ok (.dup, 1) := by decide +kernel
theorem dX8_run_14 : decode cX8_run 14 = .ok (.ldc_w 278, 3) := by decide +kernel
theorem dX8_run_17 : decode cX8_run 17 = .ok (.invokespecial 81, 3) := by decide +kernel
theorem dX8_run_20 : decode cX8_run 20 = .ok (.athrow, 1) := by decide +kernel
theorem dX8_run_21 : decode cX8_run 21 = .ok (.iconst 0, 1) := by decide +kernel
theorem dX8_run_22 : decode cX8_run 22 = .ok (.istore_n 1, 1) := by decide +kernel
theorem dX8_run_23 : decode cX8_run 23 = .ok (.aload_n 0, 1) := by decide +kernel
theorem dX8_run_24 : decode cX8_run 24 = .ok (.getfield 52, 3) := by decide +kernel
theorem dX8_run_27 : decode cX8_run 27 = .ok (.invokevirtual 280, 3) := by decide +kernel
theorem dX8_run_30 : decode cX8_run 30 = .ok (.iconst 0, 1) := by decide +kernel
theorem dX8_run_31 : decode cX8_run 31 = .ok (.istore_n 2, 1) := by decide +kernel
theorem dX8_run_32 : decode cX8_run 32 = .ok (.iload_n 2, 1) := by decide +kernel
theorem dX8_run_33 : decode cX8_run 33 = .ok (.bipush 60, 2) := by decide +kernel
theorem dX8_run_35 : decode cX8_run 35 = .ok (.if_icmp .ge 43, 3) := by decide +kernel
theorem dX8_run_38 : decode cX8_run 38 = .ok (.aload_n 0, 1) := by decide +kernel
theorem dX8_run_39 : decode cX8_run 39 = .ok (.getfield 52, 3) := by decide +kernel
theorem dX8_run_42 : decode cX8_run 42 = .ok (.invokevirtual 283, 3) := by decide +kernel
theorem dX8_run_45 : decode cX8_run 45 = .ok (.ifCond .eq 33, 3) := by decide +kernel
theorem dX8_run_48 : decode cX8_run 48 = .ok (.iload_n 1, 1) := by decide +kernel
theorem dX8_run_49 : decode cX8_run 49 = .ok (.aload_n 0, 1) := by decide +kernel
theorem dX8_run_50 : decode cX8_run 50 = .ok (.getfield 38, 3) := by decide +kernel
theorem dX8_run_53 : decode cX8_run 53 = .ok (.aload_n 0, 1) := by decide +kernel
theorem dX8_run_54 : decode cX8_run 54 = .ok (.getfield 52, 3) := by decide +kernel
theorem dX8_run_57 : decode cX8_run 57 = .ok (.invokevirtual 286, 3) := by decide +kernel
theorem dX8_run_60 : decode cX8_run 60 = .ok (.aload_n 0, 1) := by decide +kernel
theorem dX8_run_61 : decode cX8_run 61 = .ok (.getfield 52, 3) := by decide +kernel
theorem dX8_run_64 : decode cX8_run 64 = .ok (.invokevirtual 290, 3) := by decide +kernel
theorem dX8_run_67 : decode cX8_run 67 = .ok (.invokevirtual 293, 3) := by decide +kernel
theorem dX8_run_70 : decode cX8_run 70 = .ok (.iadd, 1) := by decide +kernel
theorem dX8_run_71 : decode cX8_run 71 = .ok (.istore_n 1, 1) := by decide +kernel
theorem dX8_run_72 : decode cX8_run 72 = .ok (.iinc 2 1, 3) := by decide +kernel
theorem dX8_run_75 : decode cX8_run 75 = .ok (.goto (-43), 3) := by decide +kernel
theorem dX8_run_78 : decode cX8_run 78 = .ok (.aload_n 0, 1) := by decide +kernel
theorem dX8_run_79 : decode cX8_run 79 = .ok (.getfield 52, 3) := by decide +kernel
theorem dX8_run_82 : decode cX8_run 82 = .ok (.invokevirtual 269, 3) := by decide +kernel
theorem dX8_run_85 : decode cX8_run 85 = .ok (.iload_n 1, 1) := by decide +kernel
theorem dX8_run_86 : decode cX8_run 86 = .ok (.ireturn, 1) := by decide +kernel
theorem dX8_digest_0 : decode cX8_digest 0 = .ok (.aload_n 0, 1) := by decide +kernel
theorem dX8_digest_1 : decode cX8_digest 1 = .ok (.ldc2_w 297, 3) := by decide +kernel
theorem dX8_digest_4 : decode cX8_digest 4 = .ok (.invokevirtual 299, 3) := by decide +kernel
theorem dX8_digest_7 : decode cX8_digest 7 = .ok (.lstore_n 1, 1) := by decide +kernel
theorem dX8_digest_8 : decode cX8_digest 8 = .ok (.aload_n 0, 1) := by decide +kernel
theorem dX8_digest_9 : decode cX8_digest 9 = .ok (.lload_n 1, 1) := by decide +kernel
theorem dX8_digest_10 : decode cX8_digest 10 = .ok (.invokevirtual 303, 3) := by decide +kernel
theorem dX8_digest_13 : decode cX8_digest 13 = .ok (.lstore_n 1, 1) := by decide +kernel
theorem dX8_digest_14 : decode cX8_digest 14 = .ok (.iconst 0, 1) := by decide +kernel
theorem dX8_digest_15 : decode cX8_digest 15 = .ok (.istore_n 3, 1) := by decide +kernel
theorem dX8_digest_16 : decode cX8_digest 16 = .ok (.iload_n 3, 1) := by decide +kernel
theorem dX8_digest_17 : decode cX8_digest 17 = .ok (.bipush 8, 2) := by decide +kernel
theorem dX8_digest_19 : decode cX8_digest 19 = .ok (.if_icmp .ge 23, 3) := by decide +kernel
theorem dX8_digest_22 : decode cX8_digest 22 = .ok (.lload_n 1, 1) := by decide +kernel
theorem dX8_digest_23 : decode cX8_digest 23 = .ok (.aload_n 0, 1) := by decide +kernel
theorem dX8_digest_24 : decode cX8_digest 24 = .ok (.getfield 38, 3) := by decide +kernel
theorem dX8_digest_27 : decode cX8_digest 27 = .ok (.iload_n 3, 1) := by decide +kernel
theorem dX8_digest_28 : decode cX8_digest 28 = .ok (.invokevirtual 239, 3) := by decide +kernel
theorem dX8_digest_31 : decode cX8_digest 31 = .ok (.i2l, 1) := by decide +kernel
theorem dX8_digest_32 : decode cX8_digest 32 = .ok (.invokestatic 306, 3) := by decide +kernel
theorem dX8_digest_35 : decode cX8_digest 35 = .ok (.lstore_n 1, 1) := by decide +kernel
theorem dX8_digest_36 : decode cX8_digest 36 = .ok (.iinc 3 1, 3) := by decide +kernel
theorem dX8_digest_39 : decode cX8_digest 39 = .ok (.goto (-23), 3) := by decide +kernel
theorem dX8_digest_42 : decode cX8_digest 42 = .ok (.aload_n 0, 1) := by decide +kernel
theorem dX8_digest_43 : decode cX8_digest 43 = .ok (.getfield 45, 3) := by decide +kernel
theorem dX8_digest_46 : decode cX8_digest 46 = .ok (.aload_n 0, 1) := by decide +kernel
theorem dX8_digest_47 : decode cX8_digest 47 = .ok (.getfield 38, 3) := by decide +kernel
theorem dX8_digest_50 : decode cX8_digest 50 = .ok (.invokevirtual 229, 3) := by decide +kernel
theorem dX8_digest_53 : decode cX8_digest 53 = .ok (.aload_n 0, 1) := by decide +kernel
theorem dX8_digest_54 : decode cX8_digest 54 = .ok (.lload_n 1, 1) := by decide +kernel
theorem dX8_digest_55 : decode cX8_digest 55 = .ok (.invokevirtual 310, 3) := by decide +kernel
theorem dX8_digest_58 : decode cX8_digest 58 = .ok (.lstore_n 1, 1) := by decide +kernel
theorem dX8_digest_59 : decode cX8_digest 59 = .ok (.lload_n 1, 1) := by decide +kernel
theorem dX8_digest_60 : decode cX8_digest 60 = .ok (.aload_n 0, 1) := by decide +kernel
theorem dX8_digest_61 : decode cX8_digest 61 = .ok (.invokevirtual 313, 3) := by decide +kernel
theorem dX8_digest_64 : decode cX8_digest 64 = .ok (.d2f, 1) := by decide +kernel
theorem dX8_digest_65 : decode cX8_digest 65 = .ok (.invokestatic 317, 3) := by decide +kernel
theorem dX8_digest_68 : decode cX8_digest 68 = .ok (.i2l, 1) := by decide +kernel
theorem dX8_digest_69 : decode cX8_digest 69 = .ok (.invokestatic 306, 3) := by decide +kernel
theorem dX8_digest_72 : decode cX8_digest 72 = .ok (.lreturn, 1) := by decide +kernel
theorem dX8_itemNumbered_0 : decode cX8_itemNumbered 0 = .ok (.aload_n 0, 1) := by decide +kernel
theorem dX8_itemNumbered_1 : decode cX8_itemNumbered 1 = .ok (.getfield 10, 3) := by decide +kernel
theorem dX8_itemNumbered_4 : decode cX8_itemNumbered 4 = .ok (.iload_n 1, 1) := by decide +kernel
theorem dX8_itemNumbered_5 : decode cX8_itemNumbered 5 = .ok (.invokevirtual 251, 3) := by decide +kernel
theorem dX8_itemNumbered_8 : decode cX8_itemNumbered 8 = .ok (.astore_n 2, 1) := by decide +kernel
theorem dX8_itemNumbered_9 : decode cX8_itemNumbered 9 = .ok (.aload_n 2, 1) := by decide +kernel
theorem dX8_itemNumbered_10 : decode cX8_itemNumbered 10 = .ok (.ifnonnull 14, 3) := by decide +kernel
theorem dX8_itemNumbered_13 : decode cX8_itemNumbered 13 = .ok (.new 146, 3) := by decide +kernel
theorem dX8_itemNumbered_16 : decode cX8_itemNumbered 16 = .ok (.dup, 1) := by decide +kernel
theorem dX8_itemNumbered_17 : decode cX8_itemNumbered 17 = .ok (.ldc_w 321, 3) := by decide +kernel
theorem dX8_itemNumbered_20 : decode cX8_itemNumbered 20 = .ok (.invokespecial 150, 3) := by decide +kernel
theorem dX8_itemNumbered_23 : decode cX8_itemNumbered 23 = .ok (.athrow, 1) := by decide +kernel
theorem dX8_itemNumbered_24 : decode cX8_itemNumbered 24 = .ok (.aload_n 2, 1) := by decide +kernel
theorem dX8_itemNumbered_25 : decode cX8_itemNumbered 25 = .ok (.areturn, 1) := by decide +kernel
theorem dX8_menuNumbered_0 : decode cX8_menuNumbered 0 = .ok (.aload_n 0, 1) := by decide +kernel
theorem dX8_menuNumbered_1 : decode cX8_menuNumbered 1 = .ok (.iload_n 1, 1) := by decide +kernel
theorem dX8_menuNumbered_2 : decode cX8_menuNumbered 2 = .ok (.invokevirtual 86, 3) := by decide +kernel
theorem dX8_menuNumbered_5 : decode cX8_menuNumbered 5 = .ok (.astore_n 2, 1) := by decide +kernel
theorem dX8_menuNumbered_6 : decode cX8_menuNumbered 6 = .ok (.aload_n 2, 1) := by decide +kernel
theorem dX8_menuNumbered_7 : decode cX8_menuNumbered 7 = .ok (.getfield 110, 3) := by decide +kernel
theorem dX8_menuNumbered_10 : decode cX8_menuNumbered 10 = .ok (.ifCond .eq 14, 3) := by decide +kernel
theorem dX8_menuNumbered_13 : decode cX8_menuNumbered 13 = .ok (.new 77, 3) := by decide +kernel
theorem dX8_menuNumbered_16 : decode cX8_menuNumbered 16 = .ok (.dup, 1) := by decide +kernel
theorem dX8_menuNumbered_17 : decode cX8_menuNumbered 17 = .ok (.ldc_w 323, 3) := by decide +kernel
theorem dX8_menuNumbered_20 : decode cX8_menuNumbered 20 = .ok (.invokespecial 81, 3) := by decide +kernel
theorem dX8_menuNumbered_23 : decode cX8_menuNumbered 23 = .ok (.athrow, 1) := by decide +kernel
theorem dX8_menuNumbered_24 : decode cX8_menuNumbered 24 = .ok (.aload_n 2, 1) := by decide +kernel
theorem dX8_menuNumbered_25 : decode cX8_menuNumbered 25 = .ok (.areturn, 1) := by decide +kernel
theorem dX8_presetNumbered_0 : decode cX8_presetNumbered 0 = .ok (.iload_n 1, 1) := by decide +kernel
theorem dX8_presetNumbered_1 : decode cX8_presetNumbered 1 = .ok (.ifCond .lt 8, 3) := by decide +kernel
theorem dX8_presetNumbered_4 : decode cX8_presetNumbered 4 = .ok (.iload_n 1, 1) := by decide +kernel
theorem dX8_presetNumbered_5 : decode cX8_presetNumbered 5 = .ok (.iconst 1, 1) := by decide +kernel
theorem dX8_presetNumbered_6 : decode cX8_presetNumbered 6 = .ok (.if_icmp .le 14, 3) := by decide +kernel
theorem dX8_presetNumbered_9 : decode cX8_presetNumbered 9 = .ok (.new 77, 3) := by decide +kernel
theorem dX8_presetNumbered_12 : decode cX8_presetNumbered 12 = .ok (.dup, 1) := by decide +kernel
theorem dX8_presetNumbered_13 : decode cX8_presetNumbered 13 = .ok (.ldc_w 325, 3) := by decide +kernel
theorem dX8_presetNumbered_16 : decode cX8_presetNumbered 16 = .ok (.invokespecial 81, 3) := by decide +kernel
theorem dX8_presetNumbered_19 : decode cX8_presetNumbered 19 = .ok (.athrow, 1) := by decide +kernel
theorem dX8_presetNumbered_20 : decode cX8_presetNumbered 20 = .ok (.iload_n 1, 1) := by decide +kernel
theorem dX8_presetNumbered_21 : decode cX8_presetNumbered 21 = .ok (.ifCond .ne 10, 3) := by decide +kernel
theorem dX8_presetNumbered_24 : decode cX8_presetNumbered 24 = .ok (.aload_n 0, 1) := by decide +kernel
theorem dX8_presetNumbered_25 : decode cX8_presetNumbered 25 = .ok (.getfield 26, 3) := by decide +kernel
theorem dX8_presetNumbered_28 : decode cX8_presetNumbered 28 = .ok (.goto 7, 3) := by decide +kernel
theorem dX8_presetNumbered_31 : decode cX8_presetNumbered 31 = .ok (.aload_n 0, 1) := by decide +kernel
theorem dX8_presetNumbered_32 : decode cX8_presetNumbered 32 = .ok (.getfield 30, 3) := by decide +kernel
theorem dX8_presetNumbered_35 : decode cX8_presetNumbered 35 = .ok (.areturn, 1) := by decide +kernel
theorem dX8_numberOf_0 : decode cX8_numberOf 0 = .ok (.aload_n 0, 1) := by decide +kernel
theorem dX8_numberOf_1 : decode cX8_numberOf 1 = .ok (.ifnonnull 7, 3) := by decide +kernel
theorem dX8_numberOf_4 : decode cX8_numberOf 4 = .ok (.iconst (-1), 1) := by decide +kernel
theorem dX8_numberOf_5 : decode cX8_numberOf 5 = .ok (.goto 7, 3) := by decide +kernel
theorem dX8_numberOf_8 : decode cX8_numberOf 8 = .ok (.aload_n 0, 1) := by decide +kernel
theorem dX8_numberOf_9 : decode cX8_numberOf 9 = .ok (.getfield 180, 3) := by decide +kernel
theorem dX8_numberOf_12 : decode cX8_numberOf 12 = .ok (.ireturn, 1) := by decide +kernel
theorem dX8_leastOf_0 : decode cX8_leastOf 0 = .ok (.iload_n 0, 1) := by decide +kernel
theorem dX8_leastOf_1 : decode cX8_leastOf 1 = .ok (.iconst 2, 1) := by decide +kernel
theorem dX8_leastOf_2 : decode cX8_leastOf 2 = .ok (.if_icmp .ne 7, 3) := by decide +kernel
theorem dX8_leastOf_5 : decode cX8_leastOf 5 = .ok (.iconst 0, 1) := by decide +kernel
theorem dX8_leastOf_6 : decode cX8_leastOf 6 = .ok (.goto 4, 3) := by decide +kernel
theorem dX8_leastOf_9 : decode cX8_leastOf 9 = .ok (.iconst 1, 1) := by decide +kernel
theorem dX8_leastOf_10 : decode cX8_leastOf 10 = .ok (.ireturn, 1) := by decide +kernel
theorem dX8_mostOf_0 : decode cX8_mostOf 0 = .ok (.iload_n 0, 1) := by decide +kernel
theorem dX8_mostOf_1 : decode cX8_mostOf 1 = .ok (.ifCond .ne 6, 3) := by decide +kernel
theorem dX8_mostOf_4 : decode cX8_mostOf 4 = .ok (.bipush 60, 2) := by decide +kernel
theorem dX8_mostOf_6 : decode cX8_mostOf 6 = .ok (.ireturn, 1) := by decide +kernel
theorem dX8_mostOf_7 : decode cX8_mostOf 7 = .ok (.iload_n 0, 1) := by decide +kernel
theorem dX8_mostOf_8 : decode cX8_mostOf 8 = .ok (.iconst 1, 1) := by decide +kernel
theorem dX8_mostOf_9 : decode cX8_mostOf 9 = .ok (.if_icmp .ne 8, 3) := by decide +kernel
theorem dX8_mostOf_12 : decode cX8_mostOf 12 = .ok (.bipush 99, 2) := by decide +kernel
theorem dX8_mostOf_14 : decode cX8_mostOf 14 = .ok (.goto 4, 3) := by decide +kernel
theorem dX8_mostOf_17 : decode cX8_mostOf 17 = .ok (.iconst 1, 1) := by decide +kernel
theorem dX8_mostOf_18 : decode cX8_mostOf 18 = .ok (.ireturn, 1) := by decide +kernel
theorem dX8_requireHome_0 : decode cX8_requireHome 0 = .ok (.aload_n 0, 1) := by decide +kernel
theorem dX8_requireHome_1 : decode cX8_requireHome 1 = .ok (.getfield 38, 3) := by decide +kernel
theorem dX8_requireHome_4 : decode cX8_requireHome 4 = .ok (.invokevirtual 224, 3) := by decide +kernel
theorem dX8_requireHome_7 : decode cX8_requireHome 7 = .ok (.ifCond .ne 14, 3) := by decide +kernel
theorem dX8_requireHome_10 : decode cX8_requireHome 10 = .ok (.new 66, 3) := by decide +kernel
theorem dX8_requireHome_13 : decode cX8_requireHome 13 = .ok (.dup, 1) := by decide +kernel
theorem dX8_requireHome_14 : decode cX8_requireHome 14 = .ok (.ldc_w 327, 3) := by decide +kernel
theorem dX8_requireHome_17 : decode cX8_requireHome 17 = .ok (.invokespecial 70, 3) := by decide +kernel
theorem dX8_requireHome_20 : decode cX8_requireHome 20 = .ok (.athrow, 1) := by decide +kernel
theorem dX8_requireHome_21 : decode cX8_requireHome 21 = .ok (.return_, 1) := by decide +kernel
theorem dX8_requireDetents_0 : decode cX8_requireDetents 0 = .ok (.iload_n 0, 1) := by decide +kernel
theorem dX8_requireDetents_1 : decode cX8_requireDetents 1 = .ok (.bipush (-50), 2) := by decide +kernel
theorem dX8_requireDetents_3 : decode cX8_requireDetents 3 = .ok (.if_icmp .lt 9, 3) := by decide +kernel
theorem dX8_requireDetents_6 : decode cX8_requireDetents 6 = .ok (.iload_n 0, 1) := by decide +kernel
theorem dX8_requireDetents_7 : decode cX8_requireDetents 7 = .ok (.bipush 50, 2) := by decide +kernel
theorem dX8_requireDetents_9 : decode cX8_requireDetents 9 = .ok (.if_icmp .le 14, 3) := by decide +kernel
theorem dX8_requireDetents_12 : decode cX8_requireDetents 12 = .ok (.new 77, 3) := by decide +kernel
theorem dX8_requireDetents_15 : decode cX8_requireDetents 15 = .ok (.dup, 1) := by decide +kernel
theorem dX8_requireDetents_16 : decode cX8_requireDetents 16 = .ok (.ldc_w 329, 3) := by decide +kernel
theorem dX8_requireDetents_19 : decode cX8_requireDetents 19 = .ok (.invokespecial 81, 3) := by decide +kernel
theorem dX8_requireDetents_22 : decode cX8_requireDetents 22 = .ok (.athrow, 1) := by decide +kernel
theorem dX8_requireDetents_23 : decode cX8_requireDetents 23 = .ok (.return_, 1) := by decide +kernel
theorem dX8_added_0 : decode cX8_added 0 = .ok (.aload_n 0, 1) := by decide +kernel
theorem dX8_added_1 : decode cX8_added 1 = .ok (.invokevirtual 97, 3) := by decide +kernel
theorem dX8_added_4 : decode cX8_added 4 = .ok (.aload_n 0, 1) := by decide +kernel
theorem dX8_added_5 : decode cX8_added 5 = .ok (.getfield 10, 3) := by decide +kernel
theorem dX8_added_8 : decode cX8_added 8 = .ok (.getfield 107, 3) := by decide +kernel
theorem dX8_added_11 : decode cX8_added 11 = .ok (.bipush 24, 2) := by decide +kernel
theorem dX8_added_13 : decode cX8_added 13 = .ok (.if_icmp .lt 14, 3) := by decide +kernel
theorem dX8_added_16 : decode cX8_added 16 = .ok (.new 66, 3) := by decide +kernel
theorem dX8_added_19 : decode cX8_added 19 = .ok (.dup, 1) := by decide +kernel
theorem dX8_added_20 : decode cX8_added 20 = .ok (.ldc_w 331, 3) := by decide +kernel
theorem dX8_added_23 : decode cX8_added 23 = .ok (.invokespecial 70, 3) := by decide +kernel
theorem dX8_added_26 : decode cX8_added 26 = .ok (.athrow, 1) := by decide +kernel
theorem dX8_added_27 : decode cX8_added 27 = .ok (.aload_n 1, 1) := by decide +kernel
theorem dX8_added_28 : decode cX8_added 28 = .ok (.getfield 333, 3) := by decide +kernel
theorem dX8_added_31 : decode cX8_added 31 = .ok (.bipush 8, 2) := by decide +kernel
theorem dX8_added_33 : decode cX8_added 33 = .ok (.if_icmp .lt 14, 3) := by decide +kernel
theorem dX8_added_36 : decode cX8_added 36 = .ok (.new 66, 3) := by decide +kernel
theorem dX8_added_39 : decode cX8_added 39 = .ok (.dup, 1) := by decide +kernel
theorem dX8_added_40 : decode cX8_added 40 = .ok (.ldc_w 336, 3) := by decide +kernel
theorem dX8_added_43 : decode cX8_added 43 = .ok (.invokespecial 70, 3) := by decide +kernel
theorem dX8_added_46 : decode cX8_added 46 = .ok (.athrow, 1) := by decide +kernel
theorem dX8_added_47 : decode cX8_added 47 = .ok (.new 61, 3) := by decide +kernel
theorem dX8_added_50 : decode cX8_added 50 = .ok (.dup, 1) := by decide +kernel
theorem dX8_added_51 : decode cX8_added 51 = .ok (.aload_n 0, 1) := by decide +kernel
theorem dX8_added_52 : decode cX8_added 52 = .ok (.getfield 10, 3) := by decide +kernel
theorem dX8_added_55 : decode cX8_added 55 = .ok (.getfield 107, 3) := by decide +kernel
theorem dX8_added_58 : decode cX8_added 58 = .ok (.iload_n 2, 1) := by decide +kernel
theorem dX8_added_59 : decode cX8_added 59 = .ok (.aload_n 1, 1) := by decide +kernel
theorem dX8_added_60 : decode cX8_added 60 = .ok (.iload_n 3, 1) := by decide +kernel
theorem dX8_added_61 : decode cX8_added 61 = .ok (.iload 4, 2) := by decide +kernel
theorem dX8_added_63 : decode cX8_added 63 = .ok (.iload 5, 2) := by decide +kernel
theorem dX8_added_65 : decode cX8_added 65 = .ok (.invokespecial 338, 3) := by decide +kernel
theorem dX8_added_68 : decode cX8_added 68 = .ok (.astore 6, 2) := by decide +kernel
theorem dX8_added_70 : decode cX8_added 70 = .ok (.aload_n 1, 1) := by decide +kernel
theorem dX8_added_71 : decode cX8_added 71 = .ok (.aload 6, 2) := by decide +kernel
theorem dX8_added_73 : decode cX8_added 73 = .ok (.invokevirtual 341, 3) := by decide +kernel
theorem dX8_added_76 : decode cX8_added 76 = .ok (.aload_n 0, 1) := by decide +kernel
theorem dX8_added_77 : decode cX8_added 77 = .ok (.getfield 10, 3) := by decide +kernel
theorem dX8_added_80 : decode cX8_added 80 = .ok (.aload 6, 2) := by decide +kernel
theorem dX8_added_82 : decode cX8_added 82 = .ok (.invokevirtual 345, 3) := by decide +kernel
theorem dX8_added_85 : decode cX8_added 85 = .ok (.aload 6, 2) := by decide +kernel
theorem dX8_added_87 : decode cX8_added 87 = .ok (.getfield 180, 3) := by decide +kernel
theorem dX8_added_90 : decode cX8_added 90 = .ok (.ireturn, 1) := by decide +kernel
theorem dX8_mix_0 : decode cX8_mix 0 = .ok (.ldc2_w 347, 3) := by decide +kernel
theorem dX8_mix_3 : decode cX8_mix 3 = .ok (.lload_n 0, 1) := by decide +kernel
theorem dX8_mix_4 : decode cX8_mix 4 = .ok (.lmul, 1) := by decide +kernel
theorem dX8_mix_5 : decode cX8_mix 5 = .ok (.lload_n 2, 1) := by decide +kernel
theorem dX8_mix_6 : decode cX8_mix 6 = .ok (.ladd, 1) := by decide +kernel
theorem dX8_mix_7 : decode cX8_mix 7 = .ok (.lreturn, 1) := by decide +kernel
theorem dX8_mixPosition_0 : decode cX8_mixPosition 0 = .ok (.lload_n 1, 1) := by decide +kernel
theorem dX8_mixPosition_1 : decode cX8_mixPosition 1 = .ok (.aload_n 0, 1) := by decide +kernel
theorem dX8_mixPosition_2 : decode cX8_mixPosition 2 = .ok (.invokevirtual 349, 3) := by decide +kernel
theorem dX8_mixPosition_5 : decode cX8_mixPosition 5 = .ok (.i2l, 1) := by decide +kernel
theorem dX8_mixPosition_6 : decode cX8_mixPosition 6 = .ok (.invokestatic 306, 3) := by decide +kernel
theorem dX8_mixPosition_9 : decode cX8_mixPosition 9 = .ok (.lstore_n 3, 1) := by decide +kernel
theorem dX8_mixPosition_10 : decode cX8_mixPosition 10 = .ok (.lload_n 3, 1) := by decide +kernel
theorem dX8_mixPosition_11 : decode cX8_mixPosition 11 = .ok (.aload_n 0, 1) := by decide +kernel
theorem dX8_mixPosition_12 : decode cX8_mixPosition 12 = .ok (.invokevirtual 352, 3) := by decide +kernel
theorem dX8_mixPosition_15 : decode cX8_mixPosition 15 = .ok (.i2l, 1) := by decide +kernel
theorem dX8_mixPosition_16 : decode cX8_mixPosition 16 = .ok (.invokestatic 306, 3) := by decide +kernel
theorem dX8_mixPosition_19 : decode cX8_mixPosition 19 = .ok (.lstore_n 3, 1) := by decide +kernel
theorem dX8_mixPosition_20 : decode cX8_mixPosition 20 = .ok (.lload_n 3, 1) := by decide +kernel
theorem dX8_mixPosition_21 : decode cX8_mixPosition 21 = .ok (.aload_n 0, 1) := by decide +kernel
theorem dX8_mixPosition_22 : decode cX8_mixPosition 22 = .ok (.invokevirtual 354, 3) := by decide +kernel
theorem dX8_mixPosition_25 : decode cX8_mixPosition 25 = .ok (.i2l, 1) := by decide +kernel
theorem dX8_mixPosition_26 : decode cX8_mixPosition 26 = .ok (.invokestatic 306, 3) := by decide +kernel
theorem dX8_mixPosition_29 : decode cX8_mixPosition 29 = .ok (.lstore_n 3, 1) := by decide +kernel
theorem dX8_mixPosition_30 : decode cX8_mixPosition 30 = .ok (.lload_n 3, 1) := by decide +kernel
theorem dX8_mixPosition_31 : decode cX8_mixPosition 31 = .ok (.aload_n 0, 1) := by decide +kernel
theorem dX8_mixPosition_32 : decode cX8_mixPosition 32 = .ok (.invokevirtual 356, 3) := by decide +kernel
theorem dX8_mixPosition_35 : decode cX8_mixPosition 35 = .ok (.i2l, 1) := by decide +kernel
theorem dX8_mixPosition_36 : decode cX8_mixPosition 36 = .ok (.invokestatic 306, 3) := by decide +kernel
theorem dX8_mixPosition_39 : decode cX8_mixPosition 39 = .ok (.lstore_n 3, 1) := by decide +kernel
theorem dX8_mixPosition_40 : decode cX8_mixPosition 40 = .ok (.lload_n 3, 1) := by decide +kernel
theorem dX8_mixPosition_41 : decode cX8_mixPosition 41 = .ok (.aload_n 0, 1) := by decide +kernel
theorem dX8_mixPosition_42 : decode cX8_mixPosition 42 = .ok (.invokevirtual 358, 3) := by decide +kernel
theorem dX8_mixPosition_45 : decode cX8_mixPosition 45 = .ok (.i2l, 1) := by decide +kernel
theorem dX8_mixPosition_46 : decode cX8_mixPosition 46 = .ok (.invokestatic 306, 3) := by decide +kernel
theorem dX8_mixPosition_49 : decode cX8_mixPosition 49 = .ok (.lstore_n 3, 1) := by decide +kernel
theorem dX8_mixPosition_50 : decode cX8_mixPosition 50 = .ok (.lload_n 3, 1) := by decide +kernel
theorem dX8_mixPosition_51 : decode cX8_mixPosition 51 = .ok (.aload_n 0, 1) := by decide +kernel
theorem dX8_mixPosition_52 : decode cX8_mixPosition 52 = .ok (.invokevirtual 361, 3) := by decide +kernel
theorem dX8_mixPosition_55 : decode cX8_mixPosition 55 = .ok (.i2l, 1) := by decide +kernel
theorem dX8_mixPosition_56 : decode cX8_mixPosition 56 = .ok (.invokestatic 306, 3) := by decide +kernel
theorem dX8_mixPosition_59 : decode cX8_mixPosition 59 = .ok (.lstore_n 3, 1) := by decide +kernel
theorem dX8_mixPosition_60 : decode cX8_mixPosition 60 = .ok (.lload_n 3, 1) := by decide +kernel
theorem dX8_mixPosition_61 : decode cX8_mixPosition 61 = .ok (.aload_n 0, 1) := by decide +kernel
theorem dX8_mixPosition_62 : decode cX8_mixPosition 62 = .ok (.invokevirtual 363, 3) := by decide +kernel
theorem dX8_mixPosition_65 : decode cX8_mixPosition 65 = .ok (.i2l, 1) := by decide +kernel
theorem dX8_mixPosition_66 : decode cX8_mixPosition 66 = .ok (.invokestatic 306, 3) := by decide +kernel
theorem dX8_mixPosition_69 : decode cX8_mixPosition 69 = .ok (.lstore_n 3, 1) := by decide +kernel
theorem dX8_mixPosition_70 : decode cX8_mixPosition 70 = .ok (.lload_n 3, 1) := by decide +kernel
theorem dX8_mixPosition_71 : decode cX8_mixPosition 71 = .ok (.aload_n 0, 1) := by decide +kernel
theorem dX8_mixPosition_72 : decode cX8_mixPosition 72 = .ok (.invokevirtual 365, 3) := by decide +kernel
theorem dX8_mixPosition_75 : decode cX8_mixPosition 75 = .ok (.i2l, 1) := by decide +kernel
theorem dX8_mixPosition_76 : decode cX8_mixPosition 76 = .ok (.invokestatic 306, 3) := by decide +kernel
theorem dX8_mixPosition_79 : decode cX8_mixPosition 79 = .ok (.lstore_n 3, 1) := by decide +kernel
theorem dX8_mixPosition_80 : decode cX8_mixPosition 80 = .ok (.lload_n 3, 1) := by decide +kernel
theorem dX8_mixPosition_81 : decode cX8_mixPosition 81 = .ok (.aload_n 0, 1) := by decide +kernel
theorem dX8_mixPosition_82 : decode cX8_mixPosition 82 = .ok (.invokevirtual 368, 3) := by decide +kernel
theorem dX8_mixPosition_85 : decode cX8_mixPosition 85 = .ok (.i2l, 1) := by decide +kernel
theorem dX8_mixPosition_86 : decode cX8_mixPosition 86 = .ok (.invokestatic 306, 3) := by decide +kernel
theorem dX8_mixPosition_89 : decode cX8_mixPosition 89 = .ok (.lstore_n 3, 1) := by decide +kernel
theorem dX8_mixPosition_90 : decode cX8_mixPosition 90 = .ok (.lload_n 3, 1) := by decide +kernel
theorem dX8_mixPosition_91 : decode cX8_mixPosition 91 = .ok (.aload_n 0, 1) := by decide +kernel
theorem dX8_mixPosition_92 : decode cX8_mixPosition 92 = .ok (.invokevirtual 371, 3) := by decide +kernel
theorem dX8_mixPosition_95 : decode cX8_mixPosition 95 = .ok (.i2l, 1) := by decide +kernel
theorem dX8_mixPosition_96 : decode cX8_mixPosition 96 = .ok (.invokestatic 306, 3) := by decide +kernel
theorem dX8_mixPosition_99 : decode cX8_mixPosition 99 = .ok (.lreturn, 1) := by decide +kernel
theorem dX8_mixItems_0 : decode cX8_mixItems 0 = .ok (.lload_n 1, 1) := by decide +kernel
theorem dX8_mixItems_1 : decode cX8_mixItems 1 = .ok (.lstore_n 3, 1) := by decide +kernel
theorem dX8_mixItems_2 : decode cX8_mixItems 2 = .ok (.iconst 0, 1) := by decide +kernel
theorem dX8_mixItems_3 : decode cX8_mixItems 3 = .ok (.istore 5, 2) := by decide +kernel
theorem dX8_mixItems_5 : decode cX8_mixItems 5 = .ok (.iload 5, 2) := by decide +kernel
theorem dX8_mixItems_7 : decode cX8_mixItems 7 = .ok (.aload_n 0, 1) := by decide +kernel
theorem dX8_mixItems_8 : decode cX8_mixItems 8 = .ok (.getfield 10, 3) := by decide +kernel
theorem dX8_mixItems_11 : decode cX8_mixItems 11 = .ok (.getfield 107, 3) := by decide +kernel
theorem dX8_mixItems_14 : decode cX8_mixItems 14 = .ok (.if_icmp .ge 79, 3) := by decide +kernel
theorem dX8_mixItems_17 : decode cX8_mixItems 17 = .ok (.aload_n 0, 1) := by decide +kernel
theorem dX8_mixItems_18 : decode cX8_mixItems 18 = .ok (.getfield 10, 3) := by decide +kernel
theorem dX8_mixItems_21 : decode cX8_mixItems 21 = .ok (.iload 5, 2) := by decide +kernel
theorem dX8_mixItems_23 : decode cX8_mixItems 23 = .ok (.invokevirtual 251, 3) := by decide +kernel
theorem dX8_mixItems_26 : decode cX8_mixItems 26 = .ok (.astore 6, 2) := by decide +kernel
theorem dX8_mixItems_28 : decode cX8_mixItems 28 = .ok (.aload 6, 2) := by decide +kernel
theorem dX8_mixItems_30 : decode cX8_mixItems 30 = .ok (.ifnull 57, 3) := by decide +kernel
theorem dX8_mixItems_33 : decode cX8_mixItems 33 = .ok (.lload_n 3, 1) := by decide +kernel
theorem dX8_mixItems_34 : decode cX8_mixItems 34 = .ok (.aload 6, 2) := by decide +kernel
theorem dX8_mixItems_36 : decode cX8_mixItems 36 = .ok (.getfield 110, 3) := by decide +kernel
theorem dX8_mixItems_39 : decode cX8_mixItems 39 = .ok (.i2l, 1) := by decide +kernel
theorem dX8_mixItems_40 : decode cX8_mixItems 40 = .ok (.invokestatic 306, 3) := by decide +kernel
theorem dX8_mixItems_43 : decode cX8_mixItems 43 = .ok (.lstore_n 3, 1) := by decide +kernel
theorem dX8_mixItems_44 : decode cX8_mixItems 44 = .ok (.lload_n 3, 1) := by decide +kernel
theorem dX8_mixItems_45 : decode cX8_mixItems 45 = .ok (.aload 6, 2) := by decide +kernel
theorem dX8_mixItems_47 : decode cX8_mixItems 47 = .ok (.getfield 89, 3) := by decide +kernel
theorem dX8_mixItems_50 : decode cX8_mixItems 50 = .ok (.invokestatic 113, 3) := by decide +kernel
theorem dX8_mixItems_53 : decode cX8_mixItems 53 = .ok (.i2l, 1) := by decide +kernel
theorem dX8_mixItems_54 : decode cX8_mixItems 54 = .ok (.invokestatic 306, 3) := by decide +kernel
theorem dX8_mixItems_57 : decode cX8_mixItems 57 = .ok (.lstore_n 3, 1) := by decide +kernel
theorem dX8_mixItems_58 : decode cX8_mixItems 58 = .ok (.lload_n 3, 1) := by decide +kernel
theorem dX8_mixItems_59 : decode cX8_mixItems 59 = .ok (.aload 6, 2) := by decide +kernel
theorem dX8_mixItems_61 : decode cX8_mixItems 61 = .ok (.invokevirtual 122, 3) := by decide +kernel
theorem dX8_mixItems_64 : decode cX8_mixItems 64 = .ok (.ifCond .eq 7, 3) := by decide +kernel
theorem dX8_mixItems_67 : decode cX8_mixItems 67 = .ok (.lconst 1, 1) := by decide +kernel
theorem dX8_mixItems_68 : decode cX8_mixItems 68 = .ok (.goto 4, 3) := by decide +kernel
theorem dX8_mixItems_71 : decode cX8_mixItems 71 = .ok (.lconst 0, 1) := by decide +kernel
theorem dX8_mixItems_72 : decode cX8_mixItems 72 = .ok (.invokestatic 306, 3) := by decide +kernel
theorem dX8_mixItems_75 : decode cX8_mixItems 75 = .ok (.lstore_n 3, 1) := by decide +kernel
theorem dX8_mixItems_76 : decode cX8_mixItems 76 = .ok (.lload_n 3, 1) := by decide +kernel
theorem dX8_mixItems_77 : decode cX8_mixItems 77 = .ok (.aload 6, 2) := by decide +kernel
theorem dX8_mixItems_79 : decode cX8_mixItems 79 = .ok (.getfield 119, 3) := by decide +kernel
theorem dX8_mixItems_82 : decode cX8_mixItems 82 = .ok (.i2l, 1) := by decide +kernel
theorem dX8_mixItems_83 : decode cX8_mixItems 83 = .ok (.invokestatic 306, 3) := by decide +kernel
theorem dX8_mixItems_86 : decode cX8_mixItems 86 = .ok (.lstore_n 3, 1) := by decide +kernel
theorem dX8_mixItems_87 : decode cX8_mixItems 87 = .ok (.iinc 5 1, 3) := by decide +kernel
theorem dX8_mixItems_90 : decode cX8_mixItems 90 = .ok (.goto (-85), 3) := by decide +kernel
theorem dX8_mixItems_93 : decode cX8_mixItems 93 = .ok (.lload_n 3, 1) := by decide +kernel
theorem dX8_mixItems_94 : decode cX8_mixItems 94 = .ok (.lreturn, 1) := by decide +kernel
theorem dX8_mixScreen_0 : decode cX8_mixScreen 0 = .ok (.lload_n 1, 1) := by decide +kernel
theorem dX8_mixScreen_1 : decode cX8_mixScreen 1 = .ok (.lstore_n 3, 1) := by decide +kernel
theorem dX8_mixScreen_2 : decode cX8_mixScreen 2 = .ok (.iconst 0, 1) := by decide +kernel
theorem dX8_mixScreen_3 : decode cX8_mixScreen 3 = .ok (.istore 5, 2) := by decide +kernel
theorem dX8_mixScreen_5 : decode cX8_mixScreen 5 = .ok (.iload 5, 2) := by decide +kernel
theorem dX8_mixScreen_7 : decode cX8_mixScreen 7 = .ok (.iconst 2, 1) := by decide +kernel
theorem dX8_mixScreen_8 : decode cX8_mixScreen 8 = .ok (.if_icmp .ge 42, 3) := by decide +kernel
theorem dX8_mixScreen_11 : decode cX8_mixScreen 11 = .ok (.iconst 0, 1) := by decide +kernel
theorem dX8_mixScreen_12 : decode cX8_mixScreen 12 = .ok (.istore 6, 2) := by decide +kernel
theorem dX8_mixScreen_14 : decode cX8_mixScreen 14 = .ok (.iload 6, 2) := by decide +kernel
theorem dX8_mixScreen_16 : decode cX8_mixScreen 16 = .ok (.bipush 16, 2) := by decide +kernel
theorem dX8_mixScreen_18 : decode cX8_mixScreen 18 = .ok (.if_icmp .ge 26, 3) := by decide +kernel
theorem dX8_mixScreen_21 : decode cX8_mixScreen 21 = .ok (.lload_n 3, 1) := by decide +kernel
theorem dX8_mixScreen_22 : decode cX8_mixScreen 22 = .ok (.aload_n 0, 1) := by decide +kernel
theorem dX8_mixScreen_23 : decode cX8_mixScreen 23 = .ok (.getfield 45, 3) := by decide +kernel
theorem dX8_mixScreen_26 : decode cX8_mixScreen 26 = .ok (.iload 5, 2) := by decide +kernel
theorem dX8_mixScreen_28 : decode cX8_mixScreen 28 = .ok (.iload 6, 2) := by decide +kernel
theorem dX8_mixScreen_30 : decode cX8_mixScreen 30 = .ok (.invokevirtual 233, 3) := by decide +kernel
theorem dX8_mixScreen_33 : decode cX8_mixScreen 33 = .ok (.i2l, 1) := by decide +kernel
theorem dX8_mixScreen_34 : decode cX8_mixScreen 34 = .ok (.invokestatic 306, 3) := by decide +kernel
theorem dX8_mixScreen_37 : decode cX8_mixScreen 37 = .ok (.lstore_n 3, 1) := by decide +kernel
theorem dX8_mixScreen_38 : decode cX8_mixScreen 38 = .ok (.iinc 6 1, 3) := by decide +kernel
theorem dX8_mixScreen_41 : decode cX8_mixScreen 41 = .ok (.goto (-27), 3) := by decide +kernel
theorem dX8_mixScreen_44 : decode cX8_mixScreen 44 = .ok (.iinc 5 1, 3) := by decide +kernel
theorem dX8_mixScreen_47 : decode cX8_mixScreen 47 = .ok (.goto (-42), 3) := by decide +kernel
theorem dX8_mixScreen_50 : decode cX8_mixScreen 50 = .ok (.lload_n 3, 1) := by decide +kernel
theorem dX8_mixScreen_51 : decode cX8_mixScreen 51 = .ok (.lreturn, 1) := by decide +kernel
theorem dX8_floatBits_0 : decode cX8_floatBits 0 = .ok (.fload_n 0, 1) := by decide +kernel
theorem dX8_floatBits_1 : decode cX8_floatBits 1 = .ok (.fconst 0, 1) := by decide +kernel
theorem dX8_floatBits_2 : decode cX8_floatBits 2 = .ok (.fcmp .g, 1) := by decide +kernel
theorem dX8_floatBits_3 : decode cX8_floatBits 3 = .ok (.ifCond .gt 5, 3) := by decide +kernel
theorem dX8_floatBits_6 : decode cX8_floatBits 6 = .ok (.iconst 0, 1) := by decide +kernel
theorem dX8_floatBits_7 : decode cX8_floatBits 7 = .ok (.ireturn, 1) := by decide +kernel
theorem dX8_floatBits_8 : decode cX8_floatBits 8 = .ok (.fload_n 0, 1) := by decide +kernel
theorem dX8_floatBits_9 : decode cX8_floatBits 9 = .ok (.fstore_n 1, 1) := by decide +kernel
theorem dX8_floatBits_10 : decode cX8_floatBits 10 = .ok (.bipush 127, 2) := by decide +kernel
theorem dX8_floatBits_12 : decode cX8_floatBits 12 = .ok (.istore_n 2, 1) := by decide +kernel
theorem dX8_floatBits_13 : decode cX8_floatBits 13 = .ok (.fload_n 1, 1) := by decide +kernel
theorem dX8_floatBits_14 : decode cX8_floatBits 14 = .ok (.fconst 1, 1) := by decide +kernel
theorem dX8_floatBits_15 : decode cX8_floatBits 15 = .ok (.fcmp .g, 1) := by decide +kernel
theorem dX8_floatBits_16 : decode cX8_floatBits 16 = .ok (.ifCond .ge 18, 3) := by decide +kernel
theorem dX8_floatBits_19 : decode cX8_floatBits 19 = .ok (.iload_n 2, 1) := by decide +kernel
theorem dX8_floatBits_20 : decode cX8_floatBits 20 = .ok (.iconst 1, 1) := by decide +kernel
theorem dX8_floatBits_21 : decode cX8_floatBits 21 = .ok (.if_icmp .le 13, 3) := by decide +kernel
theorem dX8_floatBits_24 : decode cX8_floatBits 24 = .ok (.fload_n 1, 1) := by decide +kernel
theorem dX8_floatBits_25 : decode cX8_floatBits 25 = .ok (.fconst 2, 1) := by decide +kernel
theorem dX8_floatBits_26 : decode cX8_floatBits 26 = .ok (.fmul, 1) := by decide +kernel
theorem dX8_floatBits_27 : decode cX8_floatBits 27 = .ok (.fstore_n 1, 1) := by decide +kernel
theorem dX8_floatBits_28 : decode cX8_floatBits 28 = .ok (.iinc 2 (-1), 3) := by decide +kernel
theorem dX8_floatBits_31 : decode cX8_floatBits 31 = .ok (.goto (-18), 3) := by decide +kernel
theorem dX8_floatBits_34 : decode cX8_floatBits 34 = .ok (.iload_n 2, 1) := by decide +kernel
theorem dX8_floatBits_35 : decode cX8_floatBits 35 = .ok (.bipush 23, 2) := by decide +kernel
theorem dX8_floatBits_37 : decode cX8_floatBits 37 = .ok (.ishl, 1) := by decide +kernel
theorem dX8_floatBits_38 : decode cX8_floatBits 38 = .ok (.fload_n 1, 1) := by decide +kernel
theorem dX8_floatBits_39 : decode cX8_floatBits 39 = .ok (.fconst 1, 1) := by decide +kernel
theorem dX8_floatBits_40 : decode cX8_floatBits 40 = .ok (.fsub, 1) := by decide +kernel
theorem dX8_floatBits_41 : decode cX8_floatBits 41 = .ok (.ldc_w 374, 3) := by decide +kernel
theorem dX8_floatBits_44 : decode cX8_floatBits 44 = .ok (.fmul, 1) := by decide +kernel
theorem dX8_floatBits_45 : decode cX8_floatBits 45 = .ok (.f2i, 1) := by decide +kernel
theorem dX8_floatBits_46 : decode cX8_floatBits 46 = .ok (.iadd, 1) := by decide +kernel
theorem dX8_floatBits_47 : decode cX8_floatBits 47 = .ok (.ireturn, 1) := by decide +kernel
end
section
theorem dL_addMenu_0 : decode cL_addMenu 0 = .ok (.aload_n 2, 1) := by decide +kernel
theorem dL_addMenu_1 : decode cL_addMenu 1 = .ok (.iconst 0, 1) := by decide +kernel
theorem dL_addMenu_2 : decode cL_addMenu 2 = .ok (.aload_n 0, 1) := by decide +kernel
theorem dL_addMenu_3 : decode cL_addMenu 3 = .ok (.iload_n 1, 1) := by decide +kernel
theorem dL_addMenu_4 : decode cL_addMenu 4 = .ok (.invokevirtual 7, 3) := by decide +kernel
theorem dL_addMenu_7 : decode cL_addMenu 7 = .ok (.i2l, 1) := by decide +kernel
theorem dL_addMenu_8 : decode cL_addMenu 8 = .ok (.lastore, 1) := by decide +kernel
theorem dL_addMenu_9 : decode cL_addMenu 9 = .ok (.goto 12, 3) := by decide +kernel
theorem dL_addMenu_12 : decode cL_addMenu 12 = .ok (.astore_n 3, 1) := by decide +kernel
theorem dL_addMenu_13 : decode cL_addMenu 13 = .ok (.iconst 1, 1) := by decide +kernel
theorem dL_addMenu_14 : decode cL_addMenu 14 = .ok (.ireturn, 1) := by decide +kernel
theorem dL_addMenu_15 : decode cL_addMenu 15 = .ok (.astore_n 3, 1) := by decide +kernel
theorem dL_addMenu_16 : decode cL_addMenu 16 = .ok (.iconst 2, 1) := by decide +kernel
theorem dL_addMenu_17 : decode cL_addMenu 17 = .ok (.ireturn, 1) := by decide +kernel
theorem dL_addMenu_18 : decode cL_addMenu 18 = .ok (.astore_n 3, 1) := by decide +kernel
theorem dL_addMenu_19 : decode cL_addMenu 19 = .ok (.iconst 3, 1) := by decide +kernel
theorem dL_addMenu_20 : decode cL_addMenu 20 = .ok (.ireturn, 1) := by decide +kernel
theorem dL_addMenu_21 : decode cL_addMenu 21 = .ok (.iconst 0, 1) := by decide +kernel
theorem dL_addMenu_22 : decode cL_addMenu 22 = .ok (.ireturn, 1) := by decide +kernel
theorem dL_addNumber_0 : decode cL_addNumber 0 = .ok (.aload 5, 2) := by decide +kernel
theorem dL_addNumber_2 : decode cL_addNumber 2 = .ok (.iconst 0, 1) := by decide +kernel
theorem dL_addNumber_3 : decode cL_addNumber 3 = .ok (.aload_n 0, 1) := by decide +kernel
theorem dL_addNumber_4 : decode cL_addNumber 4 = .ok (.iload_n 1, 1) := by decide +kernel
theorem dL_addNumber_5 : decode cL_addNumber 5 = .ok (.iload_n 2, 1) := by decide +kernel
theorem dL_addNumber_6 : decode cL_addNumber 6 = .ok (.iload_n 3, 1) := by decide +kernel
theorem dL_addNumber_7 : decode cL_addNumber 7 = .ok (.iload 4, 2) := by decide +kernel
theorem dL_addNumber_9 : decode cL_addNumber 9 = .ok (.invokevirtual 19, 3) := by decide +kernel
theorem dL_addNumber_12 : decode cL_addNumber 12 = .ok (.i2l, 1) := by decide +kernel
theorem dL_addNumber_13 : decode cL_addNumber 13 = .ok (.lastore, 1) := by decide +kernel
theorem dL_addNumber_14 : decode cL_addNumber 14 = .ok (.goto 15, 3) := by decide +kernel
theorem dL_addNumber_17 : decode cL_addNumber 17 = .ok (.astore 6, 2) := by decide +kernel
theorem dL_addNumber_19 : decode cL_addNumber 19 = .ok (.iconst 1, 1) := by decide +kernel
theorem dL_addNumber_20 : decode cL_addNumber 20 = .ok (.ireturn, 1) := by decide +kernel
theorem dL_addNumber_21 : decode cL_addNumber 21 = .ok (.astore 6, 2) := by decide +kernel
theorem dL_addNumber_23 : decode cL_addNumber 23 = .ok (.iconst 2, 1) := by decide +kernel
theorem dL_addNumber_24 : decode cL_addNumber 24 = .ok (.ireturn, 1) := by decide +kernel
theorem dL_addNumber_25 : decode cL_addNumber 25 = .ok (.astore 6, 2) := by decide +kernel
theorem dL_addNumber_27 : decode cL_addNumber 27 = .ok (.iconst 3, 1) := by decide +kernel
theorem dL_addNumber_28 : decode cL_addNumber 28 = .ok (.ireturn, 1) := by decide +kernel
theorem dL_addNumber_29 : decode cL_addNumber 29 = .ok (.iconst 0, 1) := by decide +kernel
theorem dL_addNumber_30 : decode cL_addNumber 30 = .ok (.ireturn, 1) := by decide +kernel
theorem dL_addChoice_0 : decode cL_addChoice 0 = .ok (.aload_n 3, 1) := by decide +kernel
theorem dL_addChoice_1 : decode cL_addChoice 1 = .ok (.iconst 0, 1) := by decide +kernel
theorem dL_addChoice_2 : decode cL_addChoice 2 = .ok (.aload_n 0, 1) := by decide +kernel
theorem dL_addChoice_3 : decode cL_addChoice 3 = .ok (.iload_n 1, 1) := by decide +kernel
theorem dL_addChoice_4 : decode cL_addChoice 4 = .ok (.iload_n 2, 1) := by decide +kernel
theorem dL_addChoice_5 : decode cL_addChoice 5 = .ok (.invokevirtual 23, 3) := by decide +kernel
theorem dL_addChoice_8 : decode cL_addChoice 8 = .ok (.i2l, 1) := by decide +kernel
theorem dL_addChoice_9 : decode cL_addChoice 9 = .ok (.lastore, 1) := by decide +kernel
theorem dL_addChoice_10 : decode cL_addChoice 10 = .ok (.goto 15, 3) := by decide +kernel
theorem dL_addChoice_13 : decode cL_addChoice 13 = .ok (.astore 4, 2) := by decide +kernel
theorem dL_addChoice_15 : decode cL_addChoice 15 = .ok (.iconst 1, 1) := by decide +kernel
theorem dL_addChoice_16 : decode cL_addChoice 16 = .ok (.ireturn, 1) := by decide +kernel
theorem dL_addChoice_17 : decode cL_addChoice 17 = .ok (.astore 4, 2) := by decide +kernel
theorem dL_addChoice_19 : decode cL_addChoice 19 = .ok (.iconst 2, 1) := by decide +kernel
theorem dL_addChoice_20 : decode cL_addChoice 20 = .ok (.ireturn, 1) := by decide +kernel
theorem dL_addChoice_21 : decode cL_addChoice 21 = .ok (.astore 4, 2) := by decide +kernel
theorem dL_addChoice_23 : decode cL_addChoice 23 = .ok (.iconst 3, 1) := by decide +kernel
theorem dL_addChoice_24 : decode cL_addChoice 24 = .ok (.ireturn, 1) := by decide +kernel
theorem dL_addChoice_25 : decode cL_addChoice 25 = .ok (.iconst 0, 1) := by decide +kernel
theorem dL_addChoice_26 : decode cL_addChoice 26 = .ok (.ireturn, 1) := by decide +kernel
theorem dL_lock_0 : decode cL_lock 0 = .ok (.aload_n 3, 1) := by decide +kernel
theorem dL_lock_1 : decode cL_lock 1 = .ok (.iconst 0, 1) := by decide +kernel
theorem dL_lock_2 : decode cL_lock 2 = .ok (.aload_n 0, 1) := by decide +kernel
theorem dL_lock_3 : decode cL_lock 3 = .ok (.iload_n 1, 1) := by decide +kernel
theorem dL_lock_4 : decode cL_lock 4 = .ok (.iload_n 2, 1) := by decide +kernel
theorem dL_lock_5 : decode cL_lock 5 = .ok (.invokevirtual 27, 3) := by decide +kernel
theorem dL_lock_8 : decode cL_lock 8 = .ok (.i2l, 1) := by decide +kernel
theorem dL_lock_9 : decode cL_lock 9 = .ok (.lastore, 1) := by decide +kernel
theorem dL_lock_10 : decode cL_lock 10 = .ok (.goto 15, 3) := by decide +kernel
theorem dL_lock_13 : decode cL_lock 13 = .ok (.astore 4, 2) := by decide +kernel
theorem dL_lock_15 : decode cL_lock 15 = .ok (.iconst 1, 1) := by decide +kernel
theorem dL_lock_16 : decode cL_lock 16 = .ok (.ireturn, 1) := by decide +kernel
theorem dL_lock_17 : decode cL_lock 17 = .ok (.astore 4, 2) := by decide +kernel
theorem dL_lock_19 : decode cL_lock 19 = .ok (.iconst 2, 1) := by decide +kernel
theorem dL_lock_20 : decode cL_lock 20 = .ok (.ireturn, 1) := by decide +kernel
theorem dL_lock_21 : decode cL_lock 21 = .ok (.astore 4, 2) := by decide +kernel
theorem dL_lock_23 : decode cL_lock 23 = .ok (.iconst 3, 1) := by decide +kernel
theorem dL_lock_24 : decode cL_lock 24 = .ok (.ireturn, 1) := by decide +kernel
theorem dL_lock_25 : decode cL_lock 25 = .ok (.iconst 0, 1) := by decide +kernel
theorem dL_lock_26 : decode cL_lock 26 = .ok (.ireturn, 1) := by decide +kernel
theorem dL_kind_0 : decode cL_kind 0 = .ok (.aload_n 2, 1) := by decide +kernel
theorem dL_kind_1 : decode cL_kind 1 = .ok (.iconst 0, 1) := by decide +kernel
theorem dL_kind_2 : decode cL_kind 2 = .ok (.aload_n 0, 1) := by decide +kernel
theorem dL_kind_3 : decode cL_kind 3 = .ok (.iload_n 1, 1) := by decide +kernel
theorem dL_kind_4 : decode cL_kind 4 = .ok (.invokevirtual 30, 3) := by decide +kernel
theorem dL_kind_7 : decode cL_kind 7 = .ok (.i2l, 1) := by decide +kernel
theorem dL_kind_8 : decode cL_kind 8 = .ok (.lastore, 1) := by decide +kernel
theorem dL_kind_9 : decode cL_kind 9 = .ok (.goto 6, 3) := by decide +kernel
theorem dL_kind_12 : decode cL_kind 12 = .ok (.astore_n 3, 1) := by decide +kernel
theorem dL_kind_13 : decode cL_kind 13 = .ok (.iconst 1, 1) := by decide +kernel
theorem dL_kind_14 : decode cL_kind 14 = .ok (.ireturn, 1) := by decide +kernel
theorem dL_kind_15 : decode cL_kind 15 = .ok (.iconst 0, 1) := by decide +kernel
theorem dL_kind_16 : decode cL_kind 16 = .ok (.ireturn, 1) := by decide +kernel
theorem dL_menuOf_0 : decode cL_menuOf 0 = .ok (.aload_n 2, 1) := by decide +kernel
theorem dL_menuOf_1 : decode cL_menuOf 1 = .ok (.iconst 0, 1) := by decide +kernel
theorem dL_menuOf_2 : decode cL_menuOf 2 = .ok (.aload_n 0, 1) := by decide +kernel
theorem dL_menuOf_3 : decode cL_menuOf 3 = .ok (.iload_n 1, 1) := by decide +kernel
theorem dL_menuOf_4 : decode cL_menuOf 4 = .ok (.invokevirtual 33, 3) := by decide +kernel
theorem dL_menuOf_7 : decode cL_menuOf 7 = .ok (.i2l, 1) := by decide +kernel
theorem dL_menuOf_8 : decode cL_menuOf 8 = .ok (.lastore, 1) := by decide +kernel
theorem dL_menuOf_9 : decode cL_menuOf 9 = .ok (.goto 6, 3) := by decide +kernel
theorem dL_menuOf_12 : decode cL_menuOf 12 = .ok (.astore_n 3, 1) := by decide +kernel
theorem dL_menuOf_13 : decode cL_menuOf 13 = .ok (.iconst 1, 1) := by decide +kernel
theorem dL_menuOf_14 : decode cL_menuOf 14 = .ok (.ireturn, 1) := by decide +kernel
theorem dL_menuOf_15 : decode cL_menuOf 15 = .ok (.iconst 0, 1) := by decide +kernel
theorem dL_menuOf_16 : decode cL_menuOf 16 = .ok (.ireturn, 1) := by decide +kernel
theorem dL_value_0 : decode cL_value 0 = .ok (.aload_n 2, 1) := by decide +kernel
theorem dL_value_1 : decode cL_value 1 = .ok (.iconst 0, 1) := by decide +kernel
theorem dL_value_2 : decode cL_value 2 = .ok (.aload_n 0, 1) := by decide +kernel
theorem dL_value_3 : decode cL_value 3 = .ok (.iload_n 1, 1) := by decide +kernel
theorem dL_value_4 : decode cL_value 4 = .ok (.invokevirtual 36, 3) := by decide +kernel
theorem dL_value_7 : decode cL_value 7 = .ok (.i2l, 1) := by decide +kernel
theorem dL_value_8 : decode cL_value 8 = .ok (.lastore, 1) := by decide +kernel
theorem dL_value_9 : decode cL_value 9 = .ok (.goto 9, 3) := by decide +kernel
theorem dL_value_12 : decode cL_value 12 = .ok (.astore_n 3, 1) := by decide +kernel
theorem dL_value_13 : decode cL_value 13 = .ok (.iconst 1, 1) := by decide +kernel
theorem dL_value_14 : decode cL_value 14 = .ok (.ireturn, 1) := by decide +kernel
theorem dL_value_15 : decode cL_value 15 = .ok (.astore_n 3, 1) := by decide +kernel
theorem dL_value_16 : decode cL_value 16 = .ok (.iconst 2, 1) := by decide +kernel
theorem dL_value_17 : decode cL_value 17 = .ok (.ireturn, 1) := by decide +kernel
theorem dL_value_18 : decode cL_value 18 = .ok (.iconst 0, 1) := by decide +kernel
theorem dL_value_19 : decode cL_value 19 = .ok (.ireturn, 1) := by decide +kernel
theorem dL_isClosed_0 : decode cL_isClosed 0 = .ok (.aload_n 2, 1) := by decide +kernel
theorem dL_isClosed_1 : decode cL_isClosed 1 = .ok (.iconst 0, 1) := by decide +kernel
theorem dL_isClosed_2 : decode cL_isClosed 2 = .ok (.aload_n 0, 1) := by decide +kernel
theorem dL_isClosed_3 : decode cL_isClosed 3 = .ok (.iload_n 1, 1) := by decide +kernel
theorem dL_isClosed_4 : decode cL_isClosed 4 = .ok (.invokevirtual 39, 3) := by decide +kernel
theorem dL_isClosed_7 : decode cL_isClosed 7 = .ok (.ifCond .eq 7, 3) := by decide +kernel
theorem dL_isClosed_10 : decode cL_isClosed 10 = .ok (.lconst 1, 1) := by decide +kernel
theorem dL_isClosed_11 : decode cL_isClosed 11 = .ok (.goto 4, 3) := by decide +kernel
theorem dL_isClosed_14 : decode cL_isClosed 14 = .ok (.lconst 0, 1) := by decide +kernel
theorem dL_isClosed_15 : decode cL_isClosed 15 = .ok (.lastore, 1) := by decide +kernel
theorem dL_isClosed_16 : decode cL_isClosed 16 = .ok (.goto 6, 3) := by decide +kernel
theorem dL_isClosed_19 : decode cL_isClosed 19 = .ok (.astore_n 3, 1) := by decide +kernel
theorem dL_isClosed_20 : decode cL_isClosed 20 = .ok (.iconst 1, 1) := by decide +kernel
theorem dL_isClosed_21 : decode cL_isClosed 21 = .ok (.ireturn, 1) := by decide +kernel
theorem dL_isClosed_22 : decode cL_isClosed 22 = .ok (.iconst 0, 1) := by decide +kernel
theorem dL_isClosed_23 : decode cL_isClosed 23 = .ok (.ireturn, 1) := by decide +kernel
theorem dL_turn_0 : decode cL_turn 0 = .ok (.aload_n 2, 1) := by decide +kernel
theorem dL_turn_1 : decode cL_turn 1 = .ok (.iconst 0, 1) := by decide +kernel
theorem dL_turn_2 : decode cL_turn 2 = .ok (.aload_n 0, 1) := by decide +kernel
theorem dL_turn_3 : decode cL_turn 3 = .ok (.iload_n 1, 1) := by decide +kernel
theorem dL_turn_4 : decode cL_turn 4 = .ok (.invokevirtual 43, 3) := by decide +kernel
theorem dL_turn_7 : decode cL_turn 7 = .ok (.i2l, 1) := by decide +kernel
theorem dL_turn_8 : decode cL_turn 8 = .ok (.lastore, 1) := by decide +kernel
theorem dL_turn_9 : decode cL_turn 9 = .ok (.goto 6, 3) := by decide +kernel
theorem dL_turn_12 : decode cL_turn 12 = .ok (.astore_n 3, 1) := by decide +kernel
theorem dL_turn_13 : decode cL_turn 13 = .ok (.iconst 1, 1) := by decide +kernel
theorem dL_turn_14 : decode cL_turn 14 = .ok (.ireturn, 1) := by decide +kernel
theorem dL_turn_15 : decode cL_turn 15 = .ok (.iconst 0, 1) := by decide +kernel
theorem dL_turn_16 : decode cL_turn 16 = .ok (.ireturn, 1) := by decide +kernel
theorem dL_tick_0 : decode cL_tick 0 = .ok (.aload_n 2, 1) := by decide +kernel
theorem dL_tick_1 : decode cL_tick 1 = .ok (.iconst 0, 1) := by decide +kernel
theorem dL_tick_2 : decode cL_tick 2 = .ok (.aload_n 0, 1) := by decide +kernel
theorem dL_tick_3 : decode cL_tick 3 = .ok (.iload_n 1, 1) := by decide +kernel
theorem dL_tick_4 : decode cL_tick 4 = .ok (.invokevirtual 46, 3) := by decide +kernel
theorem dL_tick_7 : decode cL_tick 7 = .ok (.i2l, 1) := by decide +kernel
theorem dL_tick_8 : decode cL_tick 8 = .ok (.lastore, 1) := by decide +kernel
theorem dL_tick_9 : decode cL_tick 9 = .ok (.goto 6, 3) := by decide +kernel
theorem dL_tick_12 : decode cL_tick 12 = .ok (.astore_n 3, 1) := by decide +kernel
theorem dL_tick_13 : decode cL_tick 13 = .ok (.iconst 1, 1) := by decide +kernel
theorem dL_tick_14 : decode cL_tick 14 = .ok (.ireturn, 1) := by decide +kernel
theorem dL_tick_15 : decode cL_tick 15 = .ok (.iconst 0, 1) := by decide +kernel
theorem dL_tick_16 : decode cL_tick 16 = .ok (.ireturn, 1) := by decide +kernel
theorem dL_set_0 : decode cL_set 0 = .ok (.aload_n 3, 1) := by decide +kernel
theorem dL_set_1 : decode cL_set 1 = .ok (.iconst 0, 1) := by decide +kernel
theorem dL_set_2 : decode cL_set 2 = .ok (.aload_n 0, 1) := by decide +kernel
theorem dL_set_3 : decode cL_set 3 = .ok (.iload_n 1, 1) := by decide +kernel
theorem dL_set_4 : decode cL_set 4 = .ok (.iload_n 2, 1) := by decide +kernel
theorem dL_set_5 : decode cL_set 5 = .ok (.invokevirtual 49, 3) := by decide +kernel
theorem dL_set_8 : decode cL_set 8 = .ok (.i2l, 1) := by decide +kernel
theorem dL_set_9 : decode cL_set 9 = .ok (.lastore, 1) := by decide +kernel
theorem dL_set_10 : decode cL_set 10 = .ok (.goto 11, 3) := by decide +kernel
theorem dL_set_13 : decode cL_set 13 = .ok (.astore 4, 2) := by decide +kernel
theorem dL_set_15 : decode cL_set 15 = .ok (.iconst 1, 1) := by decide +kernel
theorem dL_set_16 : decode cL_set 16 = .ok (.ireturn, 1) := by decide +kernel
theorem dL_set_17 : decode cL_set 17 = .ok (.astore 4, 2) := by decide +kernel
theorem dL_set_19 : decode cL_set 19 = .ok (.iconst 2, 1) := by decide +kernel
theorem dL_set_20 : decode cL_set 20 = .ok (.ireturn, 1) := by decide +kernel
theorem dL_set_21 : decode cL_set 21 = .ok (.iconst 0, 1) := by decide +kernel
theorem dL_set_22 : decode cL_set 22 = .ok (.ireturn, 1) := by decide +kernel
theorem dL_takeBack_0 : decode cL_takeBack 0 = .ok (.aload_n 1, 1) := by decide +kernel
theorem dL_takeBack_1 : decode cL_takeBack 1 = .ok (.iconst 0, 1) := by decide +kernel
theorem dL_takeBack_2 : decode cL_takeBack 2 = .ok (.aload_n 0, 1) := by decide +kernel
theorem dL_takeBack_3 : decode cL_takeBack 3 = .ok (.invokevirtual 52, 3) := by decide +kernel
theorem dL_takeBack_6 : decode cL_takeBack 6 = .ok (.i2l, 1) := by decide +kernel
theorem dL_takeBack_7 : decode cL_takeBack 7 = .ok (.lastore, 1) := by decide +kernel
theorem dL_takeBack_8 : decode cL_takeBack 8 = .ok (.goto 6, 3) := by decide +kernel
theorem dL_takeBack_11 : decode cL_takeBack 11 = .ok (.astore_n 2, 1) := by decide +kernel
theorem dL_takeBack_12 : decode cL_takeBack 12 = .ok (.iconst 1, 1) := by decide +kernel
theorem dL_takeBack_13 : decode cL_takeBack 13 = .ok (.ireturn, 1) := by decide +kernel
theorem dL_takeBack_14 : decode cL_takeBack 14 = .ok (.iconst 0, 1) := by decide +kernel
theorem dL_takeBack_15 : decode cL_takeBack 15 = .ok (.ireturn, 1) := by decide +kernel
theorem dL_savePreset_0 : decode cL_savePreset 0 = .ok (.aload_n 2, 1) := by decide +kernel
theorem dL_savePreset_1 : decode cL_savePreset 1 = .ok (.iconst 0, 1) := by decide +kernel
theorem dL_savePreset_2 : decode cL_savePreset 2 = .ok (.aload_n 0, 1) := by decide +kernel
theorem dL_savePreset_3 : decode cL_savePreset 3 = .ok (.iload_n 1, 1) := by decide +kernel
theorem dL_savePreset_4 : decode cL_savePreset 4 = .ok (.invokevirtual 56, 3) := by decide +kernel
theorem dL_savePreset_7 : decode cL_savePreset 7 = .ok (.i2l, 1) := by decide +kernel
theorem dL_savePreset_8 : decode cL_savePreset 8 = .ok (.lastore, 1) := by decide +kernel
theorem dL_savePreset_9 : decode cL_savePreset 9 = .ok (.goto 6, 3) := by decide +kernel
theorem dL_savePreset_12 : decode cL_savePreset 12 = .ok (.astore_n 3, 1) := by decide +kernel
theorem dL_savePreset_13 : decode cL_savePreset 13 = .ok (.iconst 1, 1) := by decide +kernel
theorem dL_savePreset_14 : decode cL_savePreset 14 = .ok (.ireturn, 1) := by decide +kernel
theorem dL_savePreset_15 : decode cL_savePreset 15 = .ok (.iconst 0, 1) := by decide +kernel
theorem dL_savePreset_16 : decode cL_savePreset 16 = .ok (.ireturn, 1) := by decide +kernel
theorem dL_loadPreset_0 : decode cL_loadPreset 0 = .ok (.aload_n 2, 1) := by decide +kernel
theorem dL_loadPreset_1 : decode cL_loadPreset 1 = .ok (.iconst 0, 1) := by decide +kernel
theorem dL_loadPreset_2 : decode cL_loadPreset 2 = .ok (.aload_n 0, 1) := by decide +kernel
theorem dL_loadPreset_3 : decode cL_loadPreset 3 = .ok (.iload_n 1, 1) := by decide +kernel
theorem dL_loadPreset_4 : decode cL_loadPreset 4 = .ok (.invokevirtual 59, 3) := by decide +kernel
theorem dL_loadPreset_7 : decode cL_loadPreset 7 = .ok (.i2l, 1) := by decide +kernel
theorem dL_loadPreset_8 : decode cL_loadPreset 8 = .ok (.lastore, 1) := by decide +kernel
theorem dL_loadPreset_9 : decode cL_loadPreset 9 = .ok (.goto 9, 3) := by decide +kernel
theorem dL_loadPreset_12 : decode cL_loadPreset 12 = .ok (.astore_n 3, 1) := by decide +kernel
theorem dL_loadPreset_13 : decode cL_loadPreset 13 = .ok (.iconst 1, 1) := by decide +kernel
theorem dL_loadPreset_14 : decode cL_loadPreset 14 = .ok (.ireturn, 1) := by decide +kernel
theorem dL_loadPreset_15 : decode cL_loadPreset 15 = .ok (.astore_n 3, 1) := by decide +kernel
theorem dL_loadPreset_16 : decode cL_loadPreset 16 = .ok (.iconst 2, 1) := by decide +kernel
theorem dL_loadPreset_17 : decode cL_loadPreset 17 = .ok (.ireturn, 1) := by decide +kernel
theorem dL_loadPreset_18 : decode cL_loadPreset 18 = .ok (.iconst 0, 1) := by decide +kernel
theorem dL_loadPreset_19 : decode cL_loadPreset 19 = .ok (.ireturn, 1) := by decide +kernel
theorem dL_display_0 : decode cL_display 0 = .ok (.aload_n 3, 1) := by decide +kernel
theorem dL_display_1 : decode cL_display 1 = .ok (.iconst 0, 1) := by decide +kernel
theorem dL_display_2 : decode cL_display 2 = .ok (.aload_n 0, 1) := by decide +kernel
theorem dL_display_3 : decode cL_display 3 = .ok (.iload_n 1, 1) := by decide +kernel
theorem dL_display_4 : decode cL_display 4 = .ok (.iload_n 2, 1) := by decide +kernel
theorem dL_display_5 : decode cL_display 5 = .ok (.invokevirtual 62, 3) := by decide +kernel
theorem dL_display_8 : decode cL_display 8 = .ok (.i2l, 1) := by decide +kernel
theorem dL_display_9 : decode cL_display 9 = .ok (.lastore, 1) := by decide +kernel
theorem dL_display_10 : decode cL_display 10 = .ok (.goto 7, 3) := by decide +kernel
theorem dL_display_13 : decode cL_display 13 = .ok (.astore 4, 2) := by decide +kernel
theorem dL_display_15 : decode cL_display 15 = .ok (.iconst 1, 1) := by decide +kernel
theorem dL_display_16 : decode cL_display 16 = .ok (.ireturn, 1) := by decide +kernel
theorem dL_display_17 : decode cL_display 17 = .ok (.iconst 0, 1) := by decide +kernel
theorem dL_display_18 : decode cL_display 18 = .ok (.ireturn, 1) := by decide +kernel
theorem dL_events_0 : decode cL_events 0 = .ok (.aload_n 2, 1) := by decide +kernel
theorem dL_events_1 : decode cL_events 1 = .ok (.iconst 0, 1) := by decide +kernel
theorem dL_events_2 : decode cL_events 2 = .ok (.aload_n 0, 1) := by decide +kernel
theorem dL_events_3 : decode cL_events 3 = .ok (.iload_n 1, 1) := by decide +kernel
theorem dL_events_4 : decode cL_events 4 = .ok (.invokevirtual 65, 3) := by decide +kernel
theorem dL_events_7 : decode cL_events 7 = .ok (.i2l, 1) := by decide +kernel
theorem dL_events_8 : decode cL_events 8 = .ok (.lastore, 1) := by decide +kernel
theorem dL_events_9 : decode cL_events 9 = .ok (.goto 6, 3) := by decide +kernel
theorem dL_events_12 : decode cL_events 12 = .ok (.astore_n 3, 1) := by decide +kernel
theorem dL_events_13 : decode cL_events 13 = .ok (.iconst 1, 1) := by decide +kernel
theorem dL_events_14 : decode cL_events 14 = .ok (.ireturn, 1) := by decide +kernel
theorem dL_events_15 : decode cL_events 15 = .ok (.iconst 0, 1) := by decide +kernel
theorem dL_events_16 : decode cL_events 16 = .ok (.ireturn, 1) := by decide +kernel
theorem dL_ifTurned_0 : decode cL_ifTurned 0 = .ok (.aload_n 2, 1) := by decide +kernel
theorem dL_ifTurned_1 : decode cL_ifTurned 1 = .ok (.iconst 0, 1) := by decide +kernel
theorem dL_ifTurned_2 : decode cL_ifTurned 2 = .ok (.aload_n 0, 1) := by decide +kernel
theorem dL_ifTurned_3 : decode cL_ifTurned 3 = .ok (.iload_n 1, 1) := by decide +kernel
theorem dL_ifTurned_4 : decode cL_ifTurned 4 = .ok (.invokevirtual 68, 3) := by decide +kernel
theorem dL_ifTurned_7 : decode cL_ifTurned 7 = .ok (.i2l, 1) := by decide +kernel
theorem dL_ifTurned_8 : decode cL_ifTurned 8 = .ok (.lastore, 1) := by decide +kernel
theorem dL_ifTurned_9 : decode cL_ifTurned 9 = .ok (.goto 6, 3) := by decide +kernel
theorem dL_ifTurned_12 : decode cL_ifTurned 12 = .ok (.astore_n 3, 1) := by decide +kernel
theorem dL_ifTurned_13 : decode cL_ifTurned 13 = .ok (.iconst 1, 1) := by decide +kernel
theorem dL_ifTurned_14 : decode cL_ifTurned 14 = .ok (.ireturn, 1) := by decide +kernel
theorem dL_ifTurned_15 : decode cL_ifTurned 15 = .ok (.iconst 0, 1) := by decide +kernel
theorem dL_ifTurned_16 : decode cL_ifTurned 16 = .ok (.ireturn, 1) := by decide +kernel
theorem dL_pressesTo_0 : decode cL_pressesTo 0 = .ok (.aload_n 2, 1) := by decide +kernel
theorem dL_pressesTo_1 : decode cL_pressesTo 1 = .ok (.iconst 0, 1) := by decide +kernel
theorem dL_pressesTo_2 : decode cL_pressesTo 2 = .ok (.aload_n 0, 1) := by decide +kernel
theorem dL_pressesTo_3 : decode cL_pressesTo 3 = .ok (.iload_n 1, 1) := by decide +kernel
theorem dL_pressesTo_4 : decode cL_pressesTo 4 = .ok (.invokevirtual 71, 3) := by decide +kernel
theorem dL_pressesTo_7 : decode cL_pressesTo 7 = .ok (.i2l, 1) := by decide +kernel
theorem dL_pressesTo_8 : decode cL_pressesTo 8 = .ok (.lastore, 1) := by decide +kernel
theorem dL_pressesTo_9 : decode cL_pressesTo 9 = .ok (.goto 6, 3) := by decide +kernel
theorem dL_pressesTo_12 : decode cL_pressesTo 12 = .ok (.astore_n 3, 1) := by decide +kernel
theorem dL_pressesTo_13 : decode cL_pressesTo 13 = .ok (.iconst 1, 1) := by decide +kernel
theorem dL_pressesTo_14 : decode cL_pressesTo 14 = .ok (.ireturn, 1) := by decide +kernel
theorem dL_pressesTo_15 : decode cL_pressesTo 15 = .ok (.iconst 0, 1) := by decide +kernel
theorem dL_pressesTo_16 : decode cL_pressesTo 16 = .ok (.ireturn, 1) := by decide +kernel
theorem dL_detentsTo_0 : decode cL_detentsTo 0 = .ok (.aload_n 2, 1) := by decide +kernel
theorem dL_detentsTo_1 : decode cL_detentsTo 1 = .ok (.iconst 0, 1) := by decide +kernel
theorem dL_detentsTo_2 : decode cL_detentsTo 2 = .ok (.aload_n 0, 1) := by decide +kernel
theorem dL_detentsTo_3 : decode cL_detentsTo 3 = .ok (.iload_n 1, 1) := by decide +kernel
theorem dL_detentsTo_4 : decode cL_detentsTo 4 = .ok (.invokevirtual 74, 3) := by decide +kernel
theorem dL_detentsTo_7 : decode cL_detentsTo 7 = .ok (.i2l, 1) := by decide +kernel
theorem dL_detentsTo_8 : decode cL_detentsTo 8 = .ok (.lastore, 1) := by decide +kernel
theorem dL_detentsTo_9 : decode cL_detentsTo 9 = .ok (.goto 6, 3) := by decide +kernel
theorem dL_detentsTo_12 : decode cL_detentsTo 12 = .ok (.astore_n 3, 1) := by decide +kernel
theorem dL_detentsTo_13 : decode cL_detentsTo 13 = .ok (.iconst 1, 1) := by decide +kernel
theorem dL_detentsTo_14 : decode cL_detentsTo 14 = .ok (.ireturn, 1) := by decide +kernel
theorem dL_detentsTo_15 : decode cL_detentsTo 15 = .ok (.iconst 0, 1) := by decide +kernel
theorem dL_detentsTo_16 : decode cL_detentsTo 16 = .ok (.ireturn, 1) := by decide +kernel
theorem dL_codesTo_0 : decode cL_codesTo 0 = .ok (.aload_n 2, 1) := by decide +kernel
theorem dL_codesTo_1 : decode cL_codesTo 1 = .ok (.iconst 0, 1) := by decide +kernel
theorem dL_codesTo_2 : decode cL_codesTo 2 = .ok (.aload_n 0, 1) := by decide +kernel
theorem dL_codesTo_3 : decode cL_codesTo 3 = .ok (.iload_n 1, 1) := by decide +kernel
theorem dL_codesTo_4 : decode cL_codesTo 4 = .ok (.invokevirtual 77, 3) := by decide +kernel
theorem dL_codesTo_7 : decode cL_codesTo 7 = .ok (.i2l, 1) := by decide +kernel
theorem dL_codesTo_8 : decode cL_codesTo 8 = .ok (.lastore, 1) := by decide +kernel
theorem dL_codesTo_9 : decode cL_codesTo 9 = .ok (.goto 6, 3) := by decide +kernel
theorem dL_codesTo_12 : decode cL_codesTo 12 = .ok (.astore_n 3, 1) := by decide +kernel
theorem dL_codesTo_13 : decode cL_codesTo 13 = .ok (.iconst 1, 1) := by decide +kernel
theorem dL_codesTo_14 : decode cL_codesTo 14 = .ok (.ireturn, 1) := by decide +kernel
theorem dL_codesTo_15 : decode cL_codesTo 15 = .ok (.iconst 0, 1) := by decide +kernel
theorem dL_codesTo_16 : decode cL_codesTo 16 = .ok (.ireturn, 1) := by decide +kernel
theorem dL_append_0 : decode cL_append 0 = .ok (.aload_n 2, 1) := by decide +kernel
theorem dL_append_1 : decode cL_append 1 = .ok (.iconst 0, 1) := by decide +kernel
theorem dL_append_2 : decode cL_append 2 = .ok (.aload_n 0, 1) := by decide +kernel
theorem dL_append_3 : decode cL_append 3 = .ok (.iload_n 1, 1) := by decide +kernel
theorem dL_append_4 : decode cL_append 4 = .ok (.invokevirtual 80, 3) := by decide +kernel
theorem dL_append_7 : decode cL_append 7 = .ok (.i2l, 1) := by decide +kernel
theorem dL_append_8 : decode cL_append 8 = .ok (.lastore, 1) := by decide +kernel
theorem dL_append_9 : decode cL_append 9 = .ok (.goto 9, 3) := by decide +kernel
theorem dL_append_12 : decode cL_append 12 = .ok (.astore_n 3, 1) := by decide +kernel
theorem dL_append_13 : decode cL_append 13 = .ok (.iconst 1, 1) := by decide +kernel
theorem dL_append_14 : decode cL_append 14 = .ok (.ireturn, 1) := by decide +kernel
theorem dL_append_15 : decode cL_append 15 = .ok (.astore_n 3, 1) := by decide +kernel
theorem dL_append_16 : decode cL_append 16 = .ok (.iconst 2, 1) := by decide +kernel
theorem dL_append_17 : decode cL_append 17 = .ok (.ireturn, 1) := by decide +kernel
theorem dL_append_18 : decode cL_append 18 = .ok (.iconst 0, 1) := by decide +kernel
theorem dL_append_19 : decode cL_append 19 = .ok (.ireturn, 1) := by decide +kernel
theorem dL_run_0 : decode cL_run 0 = .ok (.aload_n 1, 1) := by decide +kernel
theorem dL_run_1 : decode cL_run 1 = .ok (.iconst 0, 1) := by decide +kernel
theorem dL_run_2 : decode cL_run 2 = .ok (.aload_n 0, 1) := by decide +kernel
theorem dL_run_3 : decode cL_run 3 = .ok (.invokevirtual 83, 3) := by decide +kernel
theorem dL_run_6 : decode cL_run 6 = .ok (.i2l, 1) := by decide +kernel
theorem dL_run_7 : decode cL_run 7 = .ok (.lastore, 1) := by decide +kernel
theorem dL_run_8 : decode cL_run 8 = .ok (.goto 6, 3) := by decide +kernel
theorem dL_run_11 : decode cL_run 11 = .ok (.astore_n 2, 1) := by decide +kernel
theorem dL_run_12 : decode cL_run 12 = .ok (.iconst 1, 1) := by decide +kernel
theorem dL_run_13 : decode cL_run 13 = .ok (.ireturn, 1) := by decide +kernel
theorem dL_run_14 : decode cL_run 14 = .ok (.iconst 0, 1) := by decide +kernel
theorem dL_run_15 : decode cL_run 15 = .ok (.ireturn, 1) := by decide +kernel
theorem dL_law_0 : decode cL_law 0 = .ok (.new 8, 3) := by decide +kernel
theorem dL_law_3 : decode cL_law 3 = .ok (.dup, 1) := by decide +kernel
theorem dL_law_4 : decode cL_law 4 = .ok (.invokespecial 86, 3) := by decide +kernel
theorem dL_law_7 : decode cL_law 7 = .ok (.astore_n 1, 1) := by decide +kernel
theorem dL_law_8 : decode cL_law 8 = .ok (.new 87, 3) := by decide +kernel
theorem dL_law_11 : decode cL_law 11 = .ok (.dup, 1) := by decide +kernel
theorem dL_law_12 : decode cL_law 12 = .ok (.invokespecial 89, 3) := by decide +kernel
theorem dL_law_15 : decode cL_law 15 = .ok (.astore_n 2, 1) := by decide +kernel
theorem dL_law_16 : decode cL_law 16 = .ok (.iconst 1, 1) := by decide +kernel
theorem dL_law_17 : decode cL_law 17 = .ok (.newarray .long, 2) := by decide +kernel
theorem dL_law_19 : decode cL_law 19 = .ok (.astore_n 3, 1) := by decide +kernel
theorem dL_law_20 : decode cL_law 20 = .ok (.iconst 0, 1) := by decide +kernel
theorem dL_law_21 : decode cL_law 21 = .ok (.istore 4, 2) := by decide +kernel
theorem dL_law_23 : decode cL_law 23 = .ok (.iload 4, 2) := by decide +kernel
theorem dL_law_25 : decode cL_law 25 = .ok (.aload_n 0, 1) := by decide +kernel
theorem dL_law_26 : decode cL_law 26 = .ok (.arraylength, 1) := by decide +kernel
theorem dL_law_27 : decode cL_law 27 = .ok (.iconst 5, 1) := by decide +kernel
theorem dL_law_28 : decode cL_law 28 = .ok (.isub, 1) := by decide +kernel
theorem dL_law_29 : decode cL_law 29 = .ok (.if_icmp .gt 1734, 3) := by decide +kernel
theorem dL_law_32 : decode cL_law 32 = .ok (.aload_n 0, 1) := by decide +kernel
theorem dL_law_33 : decode cL_law 33 = .ok (.iload 4, 2) := by decide +kernel
theorem dL_law_35 : decode cL_law 35 = .ok (.iaload, 1) := by decide +kernel
theorem dL_law_36 : decode cL_law 36 = .ok (.bipush 63, 2) := by decide +kernel
theorem dL_law_38 : decode cL_law 38 = .ok (.iand, 1) := by decide +kernel
theorem dL_law_39 : decode cL_law 39 = .ok (.tableswitch 1718 0 38 #[169, 225, 317, 385, 453, 466, 522, 578, 634, 697, 753, 766, 779, 835, 903, 947, 1003, 1059, 1072, 1085, 1098, 1111, 1124, 1137, 1150, 1163, 1176, 1244, 1300, 1356, 1412, 1468, 1524, 1537, 1578, 1634, 1647, 1660, 1704], 169) := by decide +kernel
theorem dL_law_208 : decode cL_law 208 = .ok (.aload_n 1, 1) := by decide +kernel
theorem dL_law_209 : decode cL_law 209 = .ok (.aload_n 0, 1) := by decide +kernel
theorem dL_law_210 : decode cL_law 210 = .ok (.iload 4, 2) := by decide +kernel
theorem dL_law_212 : decode cL_law 212 = .ok (.iconst 1, 1) := by decide +kernel
theorem dL_law_213 : decode cL_law 213 = .ok (.iadd, 1) := by decide +kernel
theorem dL_law_214 : decode cL_law 214 = .ok (.iaload, 1) := by decide +kernel
theorem dL_law_215 : decode cL_law 215 = .ok (.aload_n 3, 1) := by decide +kernel
theorem dL_law_216 : decode cL_law 216 = .ok (.invokestatic 90, 3) := by decide +kernel
theorem dL_law_219 : decode cL_law 219 = .ok (.istore 5, 2) := by decide +kernel
theorem dL_law_221 : decode cL_law 221 = .ok (.aload_n 2, 1) := by decide +kernel
theorem dL_law_222 : decode cL_law 222 = .ok (.aload_n 0, 1) := by decide +kernel
theorem dL_law_223 : decode cL_law 223 = .ok (.iload 4, 2) := by decide +kernel
theorem dL_law_225 : decode cL_law 225 = .ok (.iconst 1, 1) := by decide +kernel
theorem dL_law_226 : decode cL_law 226 = .ok (.iadd, 1) := by decide +kernel
theorem dL_law_227 : decode cL_law 227 = .ok (.iaload, 1) := by decide +kernel
theorem dL_law_228 : decode cL_law 228 = .ok (.invokevirtual 95, 3) := by decide +kernel
theorem dL_law_231 : decode cL_law 231 = .ok (.istore 6, 2) := by decide +kernel
theorem dL_law_233 : decode cL_law 233 = .ok (.aload_n 2, 1) := by decide +kernel
theorem dL_law_234 : decode cL_law 234 = .ok (.invokevirtual 96, 3) := by decide +kernel
theorem dL_law_237 : decode cL_law 237 = .ok (.iload 5, 2) := by decide +kernel
theorem dL_law_239 : decode cL_law 239 = .ok (.if_icmp .eq 5, 3) := by decide +kernel
theorem dL_law_242 : decode cL_law 242 = .ok (.iconst 0, 1) := by decide +kernel
theorem dL_law_243 : decode cL_law 243 = .ok (.ireturn, 1) := by decide +kernel
theorem dL_law_244 : decode cL_law 244 = .ok (.iload 5, 2) := by decide +kernel
theorem dL_law_246 : decode cL_law 246 = .ok (.ifCond .ne 15, 3) := by decide +kernel
theorem dL_law_249 : decode cL_law 249 = .ok (.aload_n 3, 1) := by decide +kernel
theorem dL_law_250 : decode cL_law 250 = .ok (.iconst 0, 1) := by decide +kernel
theorem dL_law_251 : decode cL_law 251 = .ok (.laload, 1) := by decide +kernel
theorem dL_law_252 : decode cL_law 252 = .ok (.iload 6, 2) := by decide +kernel
theorem dL_law_254 : decode cL_law 254 = .ok (.i2l, 1) := by decide +kernel
theorem dL_law_255 : decode cL_law 255 = .ok (.lcmp, 1) := by decide +kernel
theorem dL_law_256 : decode cL_law 256 = .ok (.ifCond .eq 5, 3) := by decide +kernel
theorem dL_law_259 : decode cL_law 259 = .ok (.iconst 0, 1) := by decide +kernel
theorem dL_law_260 : decode cL_law 260 = .ok (.ireturn, 1) := by decide +kernel
theorem dL_law_261 : decode cL_law 261 = .ok (.goto 1496, 3) := by decide +kernel
theorem dL_law_264 : decode cL_law 264 = .ok (.aload_n 1, 1) := by decide +kernel
theorem dL_law_265 : decode cL_law 265 = .ok (.aload_n 0, 1) := by decide +kernel
theorem dL_law_266 : decode cL_law 266 = .ok (.iload 4, 2) := by decide +kernel
theorem dL_law_268 : decode cL_law 268 = .ok (.iconst 1, 1) := by decide +kernel
theorem dL_law_269 : decode cL_law 269 = .ok (.iadd, 1) := by decide +kernel
theorem dL_law_270 : decode cL_law 270 = .ok (.iaload, 1) := by decide +kernel
theorem dL_law_271 : decode cL_law 271 = .ok (.aload_n 0, 1) := by decide +kernel
theorem dL_law_272 : decode cL_law 272 = .ok (.iload 4, 2) := by decide +kernel
theorem dL_law_274 : decode cL_law 274 = .ok (.iconst 2, 1) := by decide +kernel
theorem dL_law_275 : decode cL_law 275 = .ok (.iadd, 1) := by decide +kernel
theorem dL_law_276 : decode cL_law 276 = .ok (.iaload, 1) := by decide +kernel
theorem dL_law_277 : decode cL_law 277 = .ok (.aload_n 0, 1) := by decide +kernel
theorem dL_law_278 : decode cL_law 278 = .ok (.iload 4, 2) := by decide +kernel
theorem dL_law_280 : decode cL_law 280 = .ok (.iconst 3, 1) := by decide +kernel
theorem dL_law_281 : decode cL_law 281 = .ok (.iadd, 1) := by decide +kernel
theorem dL_law_282 : decode cL_law 282 = .ok (.iaload, 1) := by decide +kernel
theorem dL_law_283 : decode cL_law 283 = .ok (.aload_n 0, 1) := by decide +kernel
theorem dL_law_284 : decode cL_law 284 = .ok (.iload 4, 2) := by decide +kernel
theorem dL_law_286 : decode cL_law 286 = .ok (.iconst 4, 1) := by decide +kernel
theorem dL_law_287 : decode cL_law 287 = .ok (.iadd, 1) := by decide +kernel
theorem dL_law_288 : decode cL_law 288 = .ok (.iaload, 1) := by decide +kernel
theorem dL_law_289 : decode cL_law 289 = .ok (.aload_n 3, 1) := by decide +kernel
theorem dL_law_290 : decode cL_law 290 = .ok (.invokestatic 99, 3) := by decide +kernel
theorem dL_law_293 : decode cL_law 293 = .ok (.istore 5, 2) := by decide +kernel
theorem dL_law_295 : decode cL_law 295 = .ok (.aload_n 2, 1) := by decide +kernel
theorem dL_law_296 : decode cL_law 296 = .ok (.aload_n 0, 1) := by decide +kernel
theorem dL_law_297 : decode cL_law 297 = .ok (.iload 4, 2) := by decide +kernel
theorem dL_law_299 : decode cL_law 299 = .ok (.iconst 1, 1) := by decide +kernel
theorem dL_law_300 : decode cL_law 300 = .ok (.iadd, 1) := by decide +kernel
theorem dL_law_301 : decode cL_law 301 = .ok (.iaload, 1) := by decide +kernel
theorem dL_law_302 : decode cL_law 302 = .ok (.aload_n 0, 1) := by decide +kernel
theorem dL_law_303 : decode cL_law 303 = .ok (.iload 4, 2) := by decide +kernel
theorem dL_law_305 : decode cL_law 305 = .ok (.iconst 2, 1) := by decide +kernel
theorem dL_law_306 : decode cL_law 306 = .ok (.iadd, 1) := by decide +kernel
theorem dL_law_307 : decode cL_law 307 = .ok (.iaload, 1) := by decide +kernel
theorem dL_law_308 : decode cL_law 308 = .ok (.aload_n 0, 1) := by decide +kernel
theorem dL_law_309 : decode cL_law 309 = .ok (.iload 4, 2) := by decide +kernel
theorem dL_law_311 : decode cL_law 311 = .ok (.iconst 3, 1) := by decide +kernel
theorem dL_law_312 : decode cL_law 312 = .ok (.iadd, 1) := by decide +kernel
theorem dL_law_313 : decode cL_law 313 = .ok (.iaload, 1) := by decide +kernel
theorem dL_law_314 : decode cL_law 314 = .ok (.aload_n 0, 1) := by decide +kernel
theorem dL_law_315 : decode cL_law 315 = .ok (.iload 4, 2) := by decide +kernel
theorem dL_law_317 : decode cL_law 317 = .ok (.iconst 4, 1) := by decide +kernel
theorem dL_law_318 : decode cL_law 318 = .ok (.iadd, 1) := by decide +kernel
theorem dL_law_319 : decode cL_law 319 = .ok (.iaload, 1) := by decide +kernel
theorem dL_law_320 : decode cL_law 320 = .ok (.invokevirtual 102, 3) := by decide +kernel
theorem dL_law_323 : decode cL_law 323 = .ok (.istore 6, 2) := by decide +kernel
theorem dL_law_325 : decode cL_law 325 = .ok (.aload_n 2, 1) := by decide +kernel
theorem dL_law_326 : decode cL_law 326 = .ok (.invokevirtual 96, 3) := by decide +kernel
theorem dL_law_329 : decode cL_law 329 = .ok (.iload 5, 2) := by decide +kernel
theorem dL_law_331 : decode cL_law 331 = .ok (.if_icmp .eq 5, 3) := by decide +kernel
theorem dL_law_334 : decode cL_law 334 = .ok (.iconst 0, 1) := by decide +kernel
theorem dL_law_335 : decode cL_law 335 = .ok (.ireturn, 1) := by decide +kernel
theorem dL_law_336 : decode cL_law 336 = .ok (.iload 5, 2) := by decide +kernel
theorem dL_law_338 : decode cL_law 338 = .ok (.ifCond .ne 15, 3) := by decide +kernel
theorem dL_law_341 : decode cL_law 341 = .ok (.aload_n 3, 1) := by decide +kernel
theorem dL_law_342 : decode cL_law 342 = .ok (.iconst 0, 1) := by decide +kernel
theorem dL_law_343 : decode cL_law 343 = .ok (.laload, 1) := by decide +kernel
theorem dL_law_344 : decode cL_law 344 = .ok (.iload 6, 2) := by decide +kernel
theorem dL_law_346 : decode cL_law 346 = .ok (.i2l, 1) := by decide +kernel
theorem dL_law_347 : decode cL_law 347 = .ok (.lcmp, 1) := by decide +kernel
theorem dL_law_348 : decode cL_law 348 = .ok (.ifCond .eq 5, 3) := by decide +kernel
theorem dL_law_351 : decode cL_law 351 = .ok (.iconst 0, 1) := by decide +kernel
theorem dL_law_352 : decode cL_law 352 = .ok (.ireturn, 1) := by decide +kernel
theorem dL_law_353 : decode cL_law 353 = .ok (.goto 1404, 3) := by decide +kernel
theorem dL_law_356 : decode cL_law 356 = .ok (.aload_n 1, 1) := by decide +kernel
theorem dL_law_357 : decode cL_law 357 = .ok (.aload_n 0, 1) := by decide +kernel
theorem dL_law_358 : decode cL_law 358 = .ok (.iload 4, 2) := by decide +kernel
theorem dL_law_360 : decode cL_law 360 = .ok (.iconst 1, 1) := by decide +kernel
theorem dL_law_361 : decode cL_law 361 = .ok (.iadd, 1) := by decide +kernel
theorem dL_law_362 : decode cL_law 362 = .ok (.iaload, 1) := by decide +kernel
theorem dL_law_363 : decode cL_law 363 = .ok (.aload_n 0, 1) := by decide +kernel
theorem dL_law_364 : decode cL_law 364 = .ok (.iload 4, 2) := by decide +kernel
theorem dL_law_366 : decode cL_law 366 = .ok (.iconst 2, 1) := by decide +kernel
theorem dL_law_367 : decode cL_law 367 = .ok (.iadd, 1) := by decide +kernel
theorem dL_law_368 : decode cL_law 368 = .ok (.iaload, 1) := by decide +kernel
theorem dL_law_369 : decode cL_law 369 = .ok (.aload_n 3, 1) := by decide +kernel
theorem dL_law_370 : decode cL_law 370 = .ok (.invokestatic 103, 3) := by decide +kernel
theorem dL_law_373 : decode cL_law 373 = .ok (.istore 5, 2) := by decide +kernel
theorem dL_law_375 : decode cL_law 375 = .ok (.aload_n 2, 1) := by decide +kernel
theorem dL_law_376 : decode cL_law 376 = .ok (.aload_n 0, 1) := by decide +kernel
theorem dL_law_377 : decode cL_law 377 = .ok (.iload 4, 2) := by decide +kernel
theorem dL_law_379 : decode cL_law 379 = .ok (.iconst 1, 1) := by decide +kernel
theorem dL_law_380 : decode cL_law 380 = .ok (.iadd, 1) := by decide +kernel
theorem dL_law_381 : decode cL_law 381 = .ok (.iaload, 1) := by decide +kernel
theorem dL_law_382 : decode cL_law 382 = .ok (.aload_n 0, 1) := by decide +kernel
theorem dL_law_383 : decode cL_law 383 = .ok (.iload 4, 2) := by decide +kernel
theorem dL_law_385 : decode cL_law 385 = .ok (.iconst 2, 1) := by decide +kernel
theorem dL_law_386 : decode cL_law 386 = .ok (.iadd, 1) := by decide +kernel
theorem dL_law_387 : decode cL_law 387 = .ok (.iaload, 1) := by decide +kernel
theorem dL_law_388 : decode cL_law 388 = .ok (.invokevirtual 106, 3) := by decide +kernel
theorem dL_law_391 : decode cL_law 391 = .ok (.istore 6, 2) := by decide +kernel
theorem dL_law_393 : decode cL_law 393 = .ok (.aload_n 2, 1) := by decide +kernel
theorem dL_law_394 : decode cL_law 394 = .ok (.invokevirtual 96, 3) := by decide +kernel
theorem dL_law_397 : decode cL_law 397 = .ok (.iload 5, 2) := by decide +kernel
theorem dL_law_399 : decode cL_law 399 = .ok (.if_icmp .eq 5, 3) := by decide +kernel
theorem dL_law_402 : decode cL_law 402 = .ok (.iconst 0, 1) := by decide +kernel
theorem dL_law_403 : decode cL_law 403 = .ok (.ireturn, 1) := by decide +kernel
theorem dL_law_404 : decode cL_law 404 = .ok (.iload 5, 2) := by decide +kernel
theorem dL_law_406 : decode cL_law 406 = .ok (.ifCond .ne 15, 3) := by decide +kernel
theorem dL_law_409 : decode cL_law 409 = .ok (.aload_n 3, 1) := by decide +kernel
theorem dL_law_410 : decode cL_law 410 = .ok (.iconst 0, 1) := by decide +kernel
theorem dL_law_411 : decode cL_law 411 = .ok (.laload, 1) := by decide +kernel
theorem dL_law_412 : decode cL_law 412 = .ok (.iload 6, 2) := by decide +kernel
theorem dL_law_414 : decode cL_law 414 = .ok (.i2l, 1) := by decide +kernel
theorem dL_law_415 : decode cL_law 415 = .ok (.lcmp, 1) := by decide +kernel
theorem dL_law_416 : decode cL_law 416 = .ok (.ifCond .eq 5, 3) := by decide +kernel
theorem dL_law_419 : decode cL_law 419 = .ok (.iconst 0, 1) := by decide +kernel
theorem dL_law_420 : decode cL_law 420 = .ok (.ireturn, 1) := by decide +kernel
theorem dL_law_421 : decode cL_law 421 = .ok (.goto 1336, 3) := by decide +kernel
theorem dL_law_424 : decode cL_law 424 = .ok (.aload_n 1, 1) := by decide +kernel
theorem dL_law_425 : decode cL_law 425 = .ok (.aload_n 0, 1) := by decide +kernel
theorem dL_law_426 : decode cL_law 426 = .ok (.iload 4, 2) := by decide +kernel
theorem dL_law_428 : decode cL_law 428 = .ok (.iconst 1, 1) := by decide +kernel
theorem dL_law_429 : decode cL_law 429 = .ok (.iadd, 1) := by decide +kernel
theorem dL_law_430 : decode cL_law 430 = .ok (.iaload, 1) := by decide +kernel
theorem dL_law_431 : decode cL_law 431 = .ok (.aload_n 0, 1) := by decide +kernel
theorem dL_law_432 : decode cL_law 432 = .ok (.iload 4, 2) := by decide +kernel
theorem dL_law_434 : decode cL_law 434 = .ok (.iconst 2, 1) := by decide +kernel
theorem dL_law_435 : decode cL_law 435 = .ok (.iadd, 1) := by decide +kernel
theorem dL_law_436 : decode cL_law 436 = .ok (.iaload, 1) := by decide +kernel
theorem dL_law_437 : decode cL_law 437 = .ok (.aload_n 3, 1) := by decide +kernel
theorem dL_law_438 : decode cL_law 438 = .ok (.invokestatic 107, 3) := by decide +kernel
theorem dL_law_441 : decode cL_law 441 = .ok (.istore 5, 2) := by decide +kernel
theorem dL_law_443 : decode cL_law 443 = .ok (.aload_n 2, 1) := by decide +kernel
theorem dL_law_444 : decode cL_law 444 = .ok (.aload_n 0, 1) := by decide +kernel
theorem dL_law_445 : decode cL_law 445 = .ok (.iload 4, 2) := by decide +kernel
theorem dL_law_447 : decode cL_law 447 = .ok (.iconst 1, 1) := by decide +kernel
theorem dL_law_448 : decode cL_law 448 = .ok (.iadd, 1) := by decide +kernel
theorem dL_law_449 : decode cL_law 449 = .ok (.iaload, 1) := by decide +kernel
theorem dL_law_450 : decode cL_law 450 = .ok (.aload_n 0, 1) := by decide +kernel
theorem dL_law_451 : decode cL_law 451 = .ok (.iload 4, 2) := by decide +kernel
theorem dL_law_453 : decode cL_law 453 = .ok (.iconst 2, 1) := by decide +kernel
theorem dL_law_454 : decode cL_law 454 = .ok (.iadd, 1) := by decide +kernel
theorem dL_law_455 : decode cL_law 455 = .ok (.iaload, 1) := by decide +kernel
theorem dL_law_456 : decode cL_law 456 = .ok (.invokevirtual 109, 3) := by decide +kernel
theorem dL_law_459 : decode cL_law 459 = .ok (.istore 6, 2) := by decide +kernel
theorem dL_law_461 : decode cL_law 461 = .ok (.aload_n 2, 1) := by decide +kernel
theorem dL_law_462 : decode cL_law 462 = .ok (.invokevirtual 96, 3) := by decide +kernel
theorem dL_law_465 : decode cL_law 465 = .ok (.iload 5, 2) := by decide +kernel
theorem dL_law_467 : decode cL_law 467 = .ok (.if_icmp .eq 5, 3) := by decide +kernel
theorem dL_law_470 : decode cL_law 470 = .ok (.iconst 0, 1) := by decide +kernel
theorem dL_law_471 : decode cL_law 471 = .ok (.ireturn, 1) := by decide +kernel
theorem dL_law_472 : decode cL_law 472 = .ok (.iload 5, 2) := by decide +kernel
theorem dL_law_474 : decode cL_law 474 = .ok (.ifCond .ne 15, 3) := by decide +kernel
theorem dL_law_477 : decode cL_law 477 = .ok (.aload_n 3, 1) := by decide +kernel
theorem dL_law_478 : decode cL_law 478 = .ok (.iconst 0, 1) := by decide +kernel
theorem dL_law_479 : decode cL_law 479 = .ok (.laload, 1) := by decide +kernel
theorem dL_law_480 : decode cL_law 480 = .ok (.iload 6, 2) := by decide +kernel
theorem dL_law_482 : decode cL_law 482 = .ok (.i2l, 1) := by decide +kernel
theorem dL_law_483 : decode cL_law 483 = .ok (.lcmp, 1) := by decide +kernel
theorem dL_law_484 : decode cL_law 484 = .ok (.ifCond .eq 5, 3) := by decide +kernel
theorem dL_law_487 : decode cL_law 487 = .ok (.iconst 0, 1) := by decide +kernel
theorem dL_law_488 : decode cL_law 488 = .ok (.ireturn, 1) := by decide +kernel
theorem dL_law_489 : decode cL_law 489 = .ok (.goto 1268, 3) := by decide +kernel
theorem dL_law_492 : decode cL_law 492 = .ok (.aload_n 1, 1) := by decide +kernel
theorem dL_law_493 : decode cL_law 493 = .ok (.invokevirtual 110, 3) := by decide +kernel
theorem dL_law_496 : decode cL_law 496 = .ok (.aload_n 2, 1) := by decide +kernel
theorem dL_law_497 : decode cL_law 497 = .ok (.invokevirtual 113, 3) := by decide +kernel
theorem dL_law_500 : decode cL_law 500 = .ok (.if_icmp .eq 1257, 3) := by decide +kernel
theorem dL_law_503 : decode cL_law 503 = .ok (.iconst 0, 1) := by decide +kernel
theorem dL_law_504 : decode cL_law 504 = .ok (.ireturn, 1) := by decide +kernel
theorem dL_law_505 : decode cL_law 505 = .ok (.aload_n 1, 1) := by decide +kernel
theorem dL_law_506 : decode cL_law 506 = .ok (.aload_n 0, 1) := by decide +kernel
theorem dL_law_507 : decode cL_law 507 = .ok (.iload 4, 2) := by decide +kernel
theorem dL_law_509 : decode cL_law 509 = .ok (.iconst 1, 1) := by decide +kernel
theorem dL_law_510 : decode cL_law 510 = .ok (.iadd, 1) := by decide +kernel
theorem dL_law_511 : decode cL_law 511 = .ok (.iaload, 1) := by decide +kernel
theorem dL_law_512 : decode cL_law 512 = .ok (.aload_n 3, 1) := by decide +kernel
theorem dL_law_513 : decode cL_law 513 = .ok (.invokestatic 114, 3) := by decide +kernel
theorem dL_law_516 : decode cL_law 516 = .ok (.istore 5, 2) := by decide +kernel
theorem dL_law_518 : decode cL_law 518 = .ok (.aload_n 2, 1) := by decide +kernel
theorem dL_law_519 : decode cL_law 519 = .ok (.aload_n 0, 1) := by decide +kernel
theorem dL_law_520 : decode cL_law 520 = .ok (.iload 4, 2) := by decide +kernel
theorem dL_law_522 : decode cL_law 522 = .ok (.iconst 1, 1) := by decide +kernel
theorem dL_law_523 : decode cL_law 523 = .ok (.iadd, 1) := by decide +kernel
theorem dL_law_524 : decode cL_law 524 = .ok (.iaload, 1) := by decide +kernel
theorem dL_law_525 : decode cL_law 525 = .ok (.invokevirtual 116, 3) := by decide +kernel
theorem dL_law_528 : decode cL_law 528 = .ok (.istore 6, 2) := by decide +kernel
theorem dL_law_530 : decode cL_law 530 = .ok (.aload_n 2, 1) := by decide +kernel
theorem dL_law_531 : decode cL_law 531 = .ok (.invokevirtual 96, 3) := by decide +kernel
theorem dL_law_534 : decode cL_law 534 = .ok (.iload 5, 2) := by decide +kernel
theorem dL_law_536 : decode cL_law 536 = .ok (.if_icmp .eq 5, 3) := by decide +kernel
theorem dL_law_539 : decode cL_law 539 = .ok (.iconst 0, 1) := by decide +kernel
theorem dL_law_540 : decode cL_law 540 = .ok (.ireturn, 1) := by decide +kernel
theorem dL_law_541 : decode cL_law 541 = .ok (.iload 5, 2) := by decide +kernel
theorem dL_law_543 : decode cL_law 543 = .ok (.ifCond .ne 15, 3) := by decide +kernel
theorem dL_law_546 : decode cL_law 546 = .ok (.aload_n 3, 1) := by decide +kernel
theorem dL_law_547 : decode cL_law 547 = .ok (.iconst 0, 1) := by decide +kernel
theorem dL_law_548 : decode cL_law 548 = .ok (.laload, 1) := by decide +kernel
theorem dL_law_549 : decode cL_law 549 = .ok (.iload 6, 2) := by decide +kernel
theorem dL_law_551 : decode cL_law 551 = .ok (.i2l, 1) := by decide +kernel
theorem dL_law_552 : decode cL_law 552 = .ok (.lcmp, 1) := by decide +kernel
theorem dL_law_553 : decode cL_law 553 = .ok (.ifCond .eq 5, 3) := by decide +kernel
theorem dL_law_556 : decode cL_law 556 = .ok (.iconst 0, 1) := by decide +kernel
theorem dL_law_557 : decode cL_law 557 = .ok (.ireturn, 1) := by decide +kernel
theorem dL_law_558 : decode cL_law 558 = .ok (.goto 1199, 3) := by decide +kernel
theorem dL_law_561 : decode cL_law 561 = .ok (.aload_n 1, 1) := by decide +kernel
theorem dL_law_562 : decode cL_law 562 = .ok (.aload_n 0, 1) := by decide +kernel
theorem dL_law_563 : decode cL_law 563 = .ok (.iload 4, 2) := by decide +kernel
theorem dL_law_565 : decode cL_law 565 = .ok (.iconst 1, 1) := by decide +kernel
theorem dL_law_566 : decode cL_law 566 = .ok (.iadd, 1) := by decide +kernel
theorem dL_law_567 : decode cL_law 567 = .ok (.iaload, 1) := by decide +kernel
theorem dL_law_568 : decode cL_law 568 = .ok (.aload_n 3, 1) := by decide +kernel
theorem dL_law_569 : decode cL_law 569 = .ok (.invokestatic 117, 3) := by decide +kernel
theorem dL_law_572 : decode cL_law 572 = .ok (.istore 5, 2) := by decide +kernel
theorem dL_law_574 : decode cL_law 574 = .ok (.aload_n 2, 1) := by decide +kernel
theorem dL_law_575 : decode cL_law 575 = .ok (.aload_n 0, 1) := by decide +kernel
theorem dL_law_576 : decode cL_law 576 = .ok (.iload 4, 2) := by decide +kernel
theorem dL_law_578 : decode cL_law 578 = .ok (.iconst 1, 1) := by decide +kernel
theorem dL_law_579 : decode cL_law 579 = .ok (.iadd, 1) := by decide +kernel
theorem dL_law_580 : decode cL_law 580 = .ok (.iaload, 1) := by decide +kernel
theorem dL_law_581 : decode cL_law 581 = .ok (.invokevirtual 119, 3) := by decide +kernel
theorem dL_law_584 : decode cL_law 584 = .ok (.istore 6, 2) := by decide +kernel
theorem dL_law_586 : decode cL_law 586 = .ok (.aload_n 2, 1) := by decide +kernel
theorem dL_law_587 : decode cL_law 587 = .ok (.invokevirtual 96, 3) := by decide +kernel
theorem dL_law_590 : decode cL_law 590 = .ok (.iload 5, 2) := by decide +kernel
theorem dL_law_592 : decode cL_law 592 = .ok (.if_icmp .eq 5, 3) := by decide +kernel
theorem dL_law_595 : decode cL_law 595 = .ok (.iconst 0, 1) := by decide +kernel
theorem dL_law_596 : decode cL_law 596 = .ok (.ireturn, 1) := by decide +kernel
theorem dL_law_597 : decode cL_law 597 = .ok (.iload 5, 2) := by decide +kernel
theorem dL_law_599 : decode cL_law 599 = .ok (.ifCond .ne 15, 3) := by decide +kernel
theorem dL_law_602 : decode cL_law 602 = .ok (.aload_n 3, 1) := by decide +kernel
theorem dL_law_603 : decode cL_law 603 = .ok (.iconst 0, 1) := by decide +kernel
theorem dL_law_604 : decode cL_law 604 = .ok (.laload, 1) := by decide +kernel
theorem dL_law_605 : decode cL_law 605 = .ok (.iload 6, 2) := by decide +kernel
theorem dL_law_607 : decode cL_law 607 = .ok (.i2l, 1) := by decide +kernel
theorem dL_law_608 : decode cL_law 608 = .ok (.lcmp, 1) := by decide +kernel
theorem dL_law_609 : decode cL_law 609 = .ok (.ifCond .eq 5, 3) := by decide +kernel
theorem dL_law_612 : decode cL_law 612 = .ok (.iconst 0, 1) := by decide +kernel
theorem dL_law_613 : decode cL_law 613 = .ok (.ireturn, 1) := by decide +kernel
theorem dL_law_614 : decode cL_law 614 = .ok (.goto 1143, 3) := by decide +kernel
theorem dL_law_617 : decode cL_law 617 = .ok (.aload_n 1, 1) := by decide +kernel
theorem dL_law_618 : decode cL_law 618 = .ok (.aload_n 0, 1) := by decide +kernel
theorem dL_law_619 : decode cL_law 619 = .ok (.iload 4, 2) := by decide +kernel
theorem dL_law_621 : decode cL_law 621 = .ok (.iconst 1, 1) := by decide +kernel
theorem dL_law_622 : decode cL_law 622 = .ok (.iadd, 1) := by decide +kernel
theorem dL_law_623 : decode cL_law 623 = .ok (.iaload, 1) := by decide +kernel
theorem dL_law_624 : decode cL_law 624 = .ok (.aload_n 3, 1) := by decide +kernel
theorem dL_law_625 : decode cL_law 625 = .ok (.invokestatic 120, 3) := by decide +kernel
theorem dL_law_628 : decode cL_law 628 = .ok (.istore 5, 2) := by decide +kernel
theorem dL_law_630 : decode cL_law 630 = .ok (.aload_n 2, 1) := by decide +kernel
theorem dL_law_631 : decode cL_law 631 = .ok (.aload_n 0, 1) := by decide +kernel
theorem dL_law_632 : decode cL_law 632 = .ok (.iload 4, 2) := by decide +kernel
theorem dL_law_634 : decode cL_law 634 = .ok (.iconst 1, 1) := by decide +kernel
theorem dL_law_635 : decode cL_law 635 = .ok (.iadd, 1) := by decide +kernel
theorem dL_law_636 : decode cL_law 636 = .ok (.iaload, 1) := by decide +kernel
theorem dL_law_637 : decode cL_law 637 = .ok (.invokevirtual 122, 3) := by decide +kernel
theorem dL_law_640 : decode cL_law 640 = .ok (.istore 6, 2) := by decide +kernel
theorem dL_law_642 : decode cL_law 642 = .ok (.aload_n 2, 1) := by decide +kernel
theorem dL_law_643 : decode cL_law 643 = .ok (.invokevirtual 96, 3) := by decide +kernel
theorem dL_law_646 : decode cL_law 646 = .ok (.iload 5, 2) := by decide +kernel
theorem dL_law_648 : decode cL_law 648 = .ok (.if_icmp .eq 5, 3) := by decide +kernel
theorem dL_law_651 : decode cL_law 651 = .ok (.iconst 0, 1) := by decide +kernel
theorem dL_law_652 : decode cL_law 652 = .ok (.ireturn, 1) := by decide +kernel
theorem dL_law_653 : decode cL_law 653 = .ok (.iload 5, 2) := by decide +kernel
theorem dL_law_655 : decode cL_law 655 = .ok (.ifCond .ne 15, 3) := by decide +kernel
theorem dL_law_658 : decode cL_law 658 = .ok (.aload_n 3, 1) := by decide +kernel
theorem dL_law_659 : decode cL_law 659 = .ok (.iconst 0, 1) := by decide +kernel
theorem dL_law_660 : decode cL_law 660 = .ok (.laload, 1) := by decide +kernel
theorem dL_law_661 : decode cL_law 661 = .ok (.iload 6, 2) := by decide +kernel
theorem dL_law_663 : decode cL_law 663 = .ok (.i2l, 1) := by decide +kernel
theorem dL_law_664 : decode cL_law 664 = .ok (.lcmp, 1) := by decide +kernel
theorem dL_law_665 : decode cL_law 665 = .ok (.ifCond .eq 5, 3) := by decide +kernel
theorem dL_law_668 : decode cL_law 668 = .ok (.iconst 0, 1) := by decide +kernel
theorem dL_law_669 : decode cL_law 669 = .ok (.ireturn, 1) := by decide +kernel
theorem dL_law_670 : decode cL_law 670 = .ok (.goto 1087, 3) := by decide +kernel
theorem dL_law_673 : decode cL_law 673 = .ok (.aload_n 1, 1) := by decide +kernel
theorem dL_law_674 : decode cL_law 674 = .ok (.aload_n 0, 1) := by decide +kernel
theorem dL_law_675 : decode cL_law 675 = .ok (.iload 4, 2) := by decide +kernel
theorem dL_law_677 : decode cL_law 677 = .ok (.iconst 1, 1) := by decide +kernel
theorem dL_law_678 : decode cL_law 678 = .ok (.iadd, 1) := by decide +kernel
theorem dL_law_679 : decode cL_law 679 = .ok (.iaload, 1) := by decide +kernel
theorem dL_law_680 : decode cL_law 680 = .ok (.aload_n 3, 1) := by decide +kernel
theorem dL_law_681 : decode cL_law 681 = .ok (.invokestatic 123, 3) := by decide +kernel
theorem dL_law_684 : decode cL_law 684 = .ok (.istore 5, 2) := by decide +kernel
theorem dL_law_686 : decode cL_law 686 = .ok (.aload_n 2, 1) := by decide +kernel
theorem dL_law_687 : decode cL_law 687 = .ok (.aload_n 0, 1) := by decide +kernel
theorem dL_law_688 : decode cL_law 688 = .ok (.iload 4, 2) := by decide +kernel
theorem dL_law_690 : decode cL_law 690 = .ok (.iconst 1, 1) := by decide +kernel
theorem dL_law_691 : decode cL_law 691 = .ok (.iadd, 1) := by decide +kernel
theorem dL_law_692 : decode cL_law 692 = .ok (.iaload, 1) := by decide +kernel
theorem dL_law_693 : decode cL_law 693 = .ok (.invokevirtual 125, 3) := by decide +kernel
theorem dL_law_696 : decode cL_law 696 = .ok (.istore 6, 2) := by decide +kernel
theorem dL_law_698 : decode cL_law 698 = .ok (.aload_n 2, 1) := by decide +kernel
theorem dL_law_699 : decode cL_law 699 = .ok (.invokevirtual 96, 3) := by decide +kernel
theorem dL_law_702 : decode cL_law 702 = .ok (.iload 5, 2) := by decide +kernel
theorem dL_law_704 : decode cL_law 704 = .ok (.if_icmp .eq 5, 3) := by decide +kernel
theorem dL_law_707 : decode cL_law 707 = .ok (.iconst 0, 1) := by decide +kernel
theorem dL_law_708 : decode cL_law 708 = .ok (.ireturn, 1) := by decide +kernel
theorem dL_law_709 : decode cL_law 709 = .ok (.iload 5, 2) := by decide +kernel
theorem dL_law_711 : decode cL_law 711 = .ok (.ifCond .ne 22, 3) := by decide +kernel
theorem dL_law_714 : decode cL_law 714 = .ok (.aload_n 3, 1) := by decide +kernel
theorem dL_law_715 : decode cL_law 715 = .ok (.iconst 0, 1) := by decide +kernel
theorem dL_law_716 : decode cL_law 716 = .ok (.laload, 1) := by decide +kernel
theorem dL_law_717 : decode cL_law 717 = .ok (.iload 6, 2) := by decide +kernel
theorem dL_law_719 : decode cL_law 719 = .ok (.ifCond .eq 7, 3) := by decide +kernel
theorem dL_law_722 : decode cL_law 722 = .ok (.lconst 1, 1) := by decide +kernel
theorem dL_law_723 : decode cL_law 723 = .ok (.goto 4, 3) := by decide +kernel
theorem dL_law_726 : decode cL_law 726 = .ok (.lconst 0, 1) := by decide +kernel
theorem dL_law_727 : decode cL_law 727 = .ok (.lcmp, 1) := by decide +kernel
theorem dL_law_728 : decode cL_law 728 = .ok (.ifCond .eq 5, 3) := by decide +kernel
theorem dL_law_731 : decode cL_law 731 = .ok (.iconst 0, 1) := by decide +kernel
theorem dL_law_732 : decode cL_law 732 = .ok (.ireturn, 1) := by decide +kernel
theorem dL_law_733 : decode cL_law 733 = .ok (.goto 1024, 3) := by decide +kernel
theorem dL_law_736 : decode cL_law 736 = .ok (.aload_n 1, 1) := by decide +kernel
theorem dL_law_737 : decode cL_law 737 = .ok (.aload_n 0, 1) := by decide +kernel
theorem dL_law_738 : decode cL_law 738 = .ok (.iload 4, 2) := by decide +kernel
theorem dL_law_740 : decode cL_law 740 = .ok (.iconst 1, 1) := by decide +kernel
theorem dL_law_741 : decode cL_law 741 = .ok (.iadd, 1) := by decide +kernel
theorem dL_law_742 : decode cL_law 742 = .ok (.iaload, 1) := by decide +kernel
theorem dL_law_743 : decode cL_law 743 = .ok (.aload_n 3, 1) := by decide +kernel
theorem dL_law_744 : decode cL_law 744 = .ok (.invokestatic 126, 3) := by decide +kernel
theorem dL_law_747 : decode cL_law 747 = .ok (.istore 5, 2) := by decide +kernel
theorem dL_law_749 : decode cL_law 749 = .ok (.aload_n 2, 1) := by decide +kernel
theorem dL_law_750 : decode cL_law 750 = .ok (.aload_n 0, 1) := by decide +kernel
theorem dL_law_751 : decode cL_law 751 = .ok (.iload 4, 2) := by decide +kernel
theorem dL_law_753 : decode cL_law 753 = .ok (.iconst 1, 1) := by decide +kernel
theorem dL_law_754 : decode cL_law 754 = .ok (.iadd, 1) := by decide +kernel
theorem dL_law_755 : decode cL_law 755 = .ok (.iaload, 1) := by decide +kernel
theorem dL_law_756 : decode cL_law 756 = .ok (.invokevirtual 128, 3) := by decide +kernel
theorem dL_law_759 : decode cL_law 759 = .ok (.istore 6, 2) := by decide +kernel
theorem dL_law_761 : decode cL_law 761 = .ok (.aload_n 2, 1) := by decide +kernel
theorem dL_law_762 : decode cL_law 762 = .ok (.invokevirtual 96, 3) := by decide +kernel
theorem dL_law_765 : decode cL_law 765 = .ok (.iload 5, 2) := by decide +kernel
theorem dL_law_767 : decode cL_law 767 = .ok (.if_icmp .eq 5, 3) := by decide +kernel
theorem dL_law_770 : decode cL_law 770 = .ok (.iconst 0, 1) := by decide +kernel
theorem dL_law_771 : decode cL_law 771 = .ok (.ireturn, 1) := by decide +kernel
theorem dL_law_772 : decode cL_law 772 = .ok (.iload 5, 2) := by decide +kernel
theorem dL_law_774 : decode cL_law 774 = .ok (.ifCond .ne 15, 3) := by decide +kernel
theorem dL_law_777 : decode cL_law 777 = .ok (.aload_n 3, 1) := by decide +kernel
theorem dL_law_778 : decode cL_law 778 = .ok (.iconst 0, 1) := by decide +kernel
theorem dL_law_779 : decode cL_law 779 = .ok (.laload, 1) := by decide +kernel
theorem dL_law_780 : decode cL_law 780 = .ok (.iload 6, 2) := by decide +kernel
theorem dL_law_782 : decode cL_law 782 = .ok (.i2l, 1) := by decide +kernel
theorem dL_law_783 : decode cL_law 783 = .ok (.lcmp, 1) := by decide +kernel
theorem dL_law_784 : decode cL_law 784 = .ok (.ifCond .eq 5, 3) := by decide +kernel
theorem dL_law_787 : decode cL_law 787 = .ok (.iconst 0, 1) := by decide +kernel
theorem dL_law_788 : decode cL_law 788 = .ok (.ireturn, 1) := by decide +kernel
theorem dL_law_789 : decode cL_law 789 = .ok (.goto 968, 3) := by decide +kernel
theorem dL_law_792 : decode cL_law 792 = .ok (.aload_n 1, 1) := by decide +kernel
theorem dL_law_793 : decode cL_law 793 = .ok (.invokevirtual 129, 3) := by decide +kernel
theorem dL_law_796 : decode cL_law 796 = .ok (.aload_n 2, 1) := by decide +kernel
theorem dL_law_797 : decode cL_law 797 = .ok (.invokevirtual 132, 3) := by decide +kernel
theorem dL_law_800 : decode cL_law 800 = .ok (.if_icmp .eq 957, 3) := by decide +kernel
theorem dL_law_803 : decode cL_law 803 = .ok (.iconst 0, 1) := by decide +kernel
theorem dL_law_804 : decode cL_law 804 = .ok (.ireturn, 1) := by decide +kernel
theorem dL_law_805 : decode cL_law 805 = .ok (.aload_n 1, 1) := by decide +kernel
theorem dL_law_806 : decode cL_law 806 = .ok (.invokevirtual 133, 3) := by decide +kernel
theorem dL_law_809 : decode cL_law 809 = .ok (.aload_n 2, 1) := by decide +kernel
theorem dL_law_810 : decode cL_law 810 = .ok (.invokevirtual 136, 3) := by decide +kernel
theorem dL_law_813 : decode cL_law 813 = .ok (.if_icmp .eq 944, 3) := by decide +kernel
theorem dL_law_816 : decode cL_law 816 = .ok (.iconst 0, 1) := by decide +kernel
theorem dL_law_817 : decode cL_law 817 = .ok (.ireturn, 1) := by decide +kernel
theorem dL_law_818 : decode cL_law 818 = .ok (.aload_n 1, 1) := by decide +kernel
theorem dL_law_819 : decode cL_law 819 = .ok (.aload_n 0, 1) := by decide +kernel
theorem dL_law_820 : decode cL_law 820 = .ok (.iload 4, 2) := by decide +kernel
theorem dL_law_822 : decode cL_law 822 = .ok (.iconst 1, 1) := by decide +kernel
theorem dL_law_823 : decode cL_law 823 = .ok (.iadd, 1) := by decide +kernel
theorem dL_law_824 : decode cL_law 824 = .ok (.iaload, 1) := by decide +kernel
theorem dL_law_825 : decode cL_law 825 = .ok (.aload_n 3, 1) := by decide +kernel
theorem dL_law_826 : decode cL_law 826 = .ok (.invokestatic 137, 3) := by decide +kernel
theorem dL_law_829 : decode cL_law 829 = .ok (.istore 5, 2) := by decide +kernel
theorem dL_law_831 : decode cL_law 831 = .ok (.aload_n 2, 1) := by decide +kernel
theorem dL_law_832 : decode cL_law 832 = .ok (.aload_n 0, 1) := by decide +kernel
theorem dL_law_833 : decode cL_law 833 = .ok (.iload 4, 2) := by decide +kernel
theorem dL_law_835 : decode cL_law 835 = .ok (.iconst 1, 1) := by decide +kernel
theorem dL_law_836 : decode cL_law 836 = .ok (.iadd, 1) := by decide +kernel
theorem dL_law_837 : decode cL_law 837 = .ok (.iaload, 1) := by decide +kernel
theorem dL_law_838 : decode cL_law 838 = .ok (.invokevirtual 139, 3) := by decide +kernel
theorem dL_law_841 : decode cL_law 841 = .ok (.istore 6, 2) := by decide +kernel
theorem dL_law_843 : decode cL_law 843 = .ok (.aload_n 2, 1) := by decide +kernel
theorem dL_law_844 : decode cL_law 844 = .ok (.invokevirtual 96, 3) := by decide +kernel
theorem dL_law_847 : decode cL_law 847 = .ok (.iload 5, 2) := by decide +kernel
theorem dL_law_849 : decode cL_law 849 = .ok (.if_icmp .eq 5, 3) := by decide +kernel
theorem dL_law_852 : decode cL_law 852 = .ok (.iconst 0, 1) := by decide +kernel
theorem dL_law_853 : decode cL_law 853 = .ok (.ireturn, 1) := by decide +kernel
theorem dL_law_854 : decode cL_law 854 = .ok (.iload 5, 2) := by decide +kernel
theorem dL_law_856 : decode cL_law 856 = .ok (.ifCond .ne 15, 3) := by decide +kernel
theorem dL_law_859 : decode cL_law 859 = .ok (.aload_n 3, 1) := by decide +kernel
theorem dL_law_860 : decode cL_law 860 = .ok (.iconst 0, 1) := by decide +kernel
theorem dL_law_861 : decode cL_law 861 = .ok (.laload, 1) := by decide +kernel
theorem dL_law_862 : decode cL_law 862 = .ok (.iload 6, 2) := by decide +kernel
theorem dL_law_864 : decode cL_law 864 = .ok (.i2l, 1) := by decide +kernel
theorem dL_law_865 : decode cL_law 865 = .ok (.lcmp, 1) := by decide +kernel
theorem dL_law_866 : decode cL_law 866 = .ok (.ifCond .eq 5, 3) := by decide +kernel
theorem dL_law_869 : decode cL_law 869 = .ok (.iconst 0, 1) := by decide +kernel
theorem dL_law_870 : decode cL_law 870 = .ok (.ireturn, 1) := by decide +kernel
theorem dL_law_871 : decode cL_law 871 = .ok (.goto 886, 3) := by decide +kernel
theorem dL_law_874 : decode cL_law 874 = .ok (.aload_n 1, 1) := by decide +kernel
theorem dL_law_875 : decode cL_law 875 = .ok (.aload_n 0, 1) := by decide +kernel
theorem dL_law_876 : decode cL_law 876 = .ok (.iload 4, 2) := by decide +kernel
theorem dL_law_878 : decode cL_law 878 = .ok (.iconst 1, 1) := by decide +kernel
theorem dL_law_879 : decode cL_law 879 = .ok (.iadd, 1) := by decide +kernel
theorem dL_law_880 : decode cL_law 880 = .ok (.iaload, 1) := by decide +kernel
theorem dL_law_881 : decode cL_law 881 = .ok (.aload_n 0, 1) := by decide +kernel
theorem dL_law_882 : decode cL_law 882 = .ok (.iload 4, 2) := by decide +kernel
theorem dL_law_884 : decode cL_law 884 = .ok (.iconst 2, 1) := by decide +kernel
theorem dL_law_885 : decode cL_law 885 = .ok (.iadd, 1) := by decide +kernel
theorem dL_law_886 : decode cL_law 886 = .ok (.iaload, 1) := by decide +kernel
theorem dL_law_887 : decode cL_law 887 = .ok (.aload_n 3, 1) := by decide +kernel
theorem dL_law_888 : decode cL_law 888 = .ok (.invokestatic 140, 3) := by decide +kernel
theorem dL_law_891 : decode cL_law 891 = .ok (.istore 5, 2) := by decide +kernel
theorem dL_law_893 : decode cL_law 893 = .ok (.aload_n 2, 1) := by decide +kernel
theorem dL_law_894 : decode cL_law 894 = .ok (.aload_n 0, 1) := by decide +kernel
theorem dL_law_895 : decode cL_law 895 = .ok (.iload 4, 2) := by decide +kernel
theorem dL_law_897 : decode cL_law 897 = .ok (.iconst 1, 1) := by decide +kernel
theorem dL_law_898 : decode cL_law 898 = .ok (.iadd, 1) := by decide +kernel
theorem dL_law_899 : decode cL_law 899 = .ok (.iaload, 1) := by decide +kernel
theorem dL_law_900 : decode cL_law 900 = .ok (.aload_n 0, 1) := by decide +kernel
theorem dL_law_901 : decode cL_law 901 = .ok (.iload 4, 2) := by decide +kernel
theorem dL_law_903 : decode cL_law 903 = .ok (.iconst 2, 1) := by decide +kernel
theorem dL_law_904 : decode cL_law 904 = .ok (.iadd, 1) := by decide +kernel
theorem dL_law_905 : decode cL_law 905 = .ok (.iaload, 1) := by decide +kernel
theorem dL_law_906 : decode cL_law 906 = .ok (.invokevirtual 142, 3) := by decide +kernel
theorem dL_law_909 : decode cL_law 909 = .ok (.istore 6, 2) := by decide +kernel
theorem dL_law_911 : decode cL_law 911 = .ok (.aload_n 2, 1) := by decide +kernel
theorem dL_law_912 : decode cL_law 912 = .ok (.invokevirtual 96, 3) := by decide +kernel
theorem dL_law_915 : decode cL_law 915 = .ok (.iload 5, 2) := by decide +kernel
theorem dL_law_917 : decode cL_law 917 = .ok (.if_icmp .eq 5, 3) := by decide +kernel
theorem dL_law_920 : decode cL_law 920 = .ok (.iconst 0, 1) := by decide +kernel
theorem dL_law_921 : decode cL_law 921 = .ok (.ireturn, 1) := by decide +kernel
theorem dL_law_922 : decode cL_law 922 = .ok (.iload 5, 2) := by decide +kernel
theorem dL_law_924 : decode cL_law 924 = .ok (.ifCond .ne 15, 3) := by decide +kernel
theorem dL_law_927 : decode cL_law 927 = .ok (.aload_n 3, 1) := by decide +kernel
theorem dL_law_928 : decode cL_law 928 = .ok (.iconst 0, 1) := by decide +kernel
theorem dL_law_929 : decode cL_law 929 = .ok (.laload, 1) := by decide +kernel
theorem dL_law_930 : decode cL_law 930 = .ok (.iload 6, 2) := by decide +kernel
theorem dL_law_932 : decode cL_law 932 = .ok (.i2l, 1) := by decide +kernel
theorem dL_law_933 : decode cL_law 933 = .ok (.lcmp, 1) := by decide +kernel
theorem dL_law_934 : decode cL_law 934 = .ok (.ifCond .eq 5, 3) := by decide +kernel
theorem dL_law_937 : decode cL_law 937 = .ok (.iconst 0, 1) := by decide +kernel
theorem dL_law_938 : decode cL_law 938 = .ok (.ireturn, 1) := by decide +kernel
theorem dL_law_939 : decode cL_law 939 = .ok (.goto 818, 3) := by decide +kernel
theorem dL_law_942 : decode cL_law 942 = .ok (.aload_n 1, 1) := by decide +kernel
theorem dL_law_943 : decode cL_law 943 = .ok (.aload_n 3, 1) := by decide +kernel
theorem dL_law_944 : decode cL_law 944 = .ok (.invokestatic 143, 3) := by decide +kernel
theorem dL_law_947 : decode cL_law 947 = .ok (.istore 5, 2) := by decide +kernel
theorem dL_law_949 : decode cL_law 949 = .ok (.aload_n 2, 1) := by decide +kernel
theorem dL_law_950 : decode cL_law 950 = .ok (.invokevirtual 146, 3) := by decide +kernel
theorem dL_law_953 : decode cL_law 953 = .ok (.istore 6, 2) := by decide +kernel
theorem dL_law_955 : decode cL_law 955 = .ok (.aload_n 2, 1) := by decide +kernel
theorem dL_law_956 : decode cL_law 956 = .ok (.invokevirtual 96, 3) := by decide +kernel
theorem dL_law_959 : decode cL_law 959 = .ok (.iload 5, 2) := by decide +kernel
theorem dL_law_961 : decode cL_law 961 = .ok (.if_icmp .eq 5, 3) := by decide +kernel
theorem dL_law_964 : decode cL_law 964 = .ok (.iconst 0, 1) := by decide +kernel
theorem dL_law_965 : decode cL_law 965 = .ok (.ireturn, 1) := by decide +kernel
theorem dL_law_966 : decode cL_law 966 = .ok (.iload 5, 2) := by decide +kernel
theorem dL_law_968 : decode cL_law 968 = .ok (.ifCond .ne 15, 3) := by decide +kernel
theorem dL_law_971 : decode cL_law 971 = .ok (.aload_n 3, 1) := by decide +kernel
theorem dL_law_972 : decode cL_law 972 = .ok (.iconst 0, 1) := by decide +kernel
theorem dL_law_973 : decode cL_law 973 = .ok (.laload, 1) := by decide +kernel
theorem dL_law_974 : decode cL_law 974 = .ok (.iload 6, 2) := by decide +kernel
theorem dL_law_976 : decode cL_law 976 = .ok (.i2l, 1) := by decide +kernel
theorem dL_law_977 : decode cL_law 977 = .ok (.lcmp, 1) := by decide +kernel
theorem dL_law_978 : decode cL_law 978 = .ok (.ifCond .eq 5, 3) := by decide +kernel
theorem dL_law_981 : decode cL_law 981 = .ok (.iconst 0, 1) := by decide +kernel
theorem dL_law_982 : decode cL_law 982 = .ok (.ireturn, 1) := by decide +kernel
theorem dL_law_983 : decode cL_law 983 = .ok (.goto 774, 3) := by decide +kernel
theorem dL_law_986 : decode cL_law 986 = .ok (.aload_n 1, 1) := by decide +kernel
theorem dL_law_987 : decode cL_law 987 = .ok (.aload_n 0, 1) := by decide +kernel
theorem dL_law_988 : decode cL_law 988 = .ok (.iload 4, 2) := by decide +kernel
theorem dL_law_990 : decode cL_law 990 = .ok (.iconst 1, 1) := by decide +kernel
theorem dL_law_991 : decode cL_law 991 = .ok (.iadd, 1) := by decide +kernel
theorem dL_law_992 : decode cL_law 992 = .ok (.iaload, 1) := by decide +kernel
theorem dL_law_993 : decode cL_law 993 = .ok (.aload_n 3, 1) := by decide +kernel
theorem dL_law_994 : decode cL_law 994 = .ok (.invokestatic 147, 3) := by decide +kernel
theorem dL_law_997 : decode cL_law 997 = .ok (.istore 5, 2) := by decide +kernel
theorem dL_law_999 : decode cL_law 999 = .ok (.aload_n 2, 1) := by decide +kernel
theorem dL_law_1000 : decode cL_law 1000 = .ok (.aload_n 0, 1) := by decide +kernel
theorem dL_law_1001 : decode cL_law 1001 = .ok (.iload 4, 2) := by decide +kernel
theorem dL_law_1003 : decode cL_law 1003 = .ok (.iconst 1, 1) := by decide +kernel
theorem dL_law_1004 : decode cL_law 1004 = .ok (.iadd, 1) := by decide +kernel
theorem dL_law_1005 : decode cL_law 1005 = .ok (.iaload, 1) := by decide +kernel
theorem dL_law_1006 : decode cL_law 1006 = .ok (.invokevirtual 149, 3) := by decide +kernel
theorem dL_law_1009 : decode cL_law 1009 = .ok (.istore 6, 2) := by decide +kernel
theorem dL_law_1011 : decode cL_law 1011 = .ok (.aload_n 2, 1) := by decide +kernel
theorem dL_law_1012 : decode cL_law 1012 = .ok (.invokevirtual 96, 3) := by decide +kernel
theorem dL_law_1015 : decode cL_law 1015 = .ok (.iload 5, 2) := by decide +kernel
theorem dL_law_1017 : decode cL_law 1017 = .ok (.if_icmp .eq 5, 3) := by decide +kernel
theorem dL_law_1020 : decode cL_law 1020 = .ok (.iconst 0, 1) := by decide +kernel
theorem dL_law_1021 : decode cL_law 1021 = .ok (.ireturn, 1) := by decide +kernel
theorem dL_law_1022 : decode cL_law 1022 = .ok (.iload 5, 2) := by decide +kernel
theorem dL_law_1024 : decode cL_law 1024 = .ok (.ifCond .ne 15, 3) := by decide +kernel
theorem dL_law_1027 : decode cL_law 1027 = .ok (.aload_n 3, 1) := by decide +kernel
theorem dL_law_1028 : decode cL_law 1028 = .ok (.iconst 0, 1) := by decide +kernel
theorem dL_law_1029 : decode cL_law 1029 = .ok (.laload, 1) := by decide +kernel
theorem dL_law_1030 : decode cL_law 1030 = .ok (.iload 6, 2) := by decide +kernel
theorem dL_law_1032 : decode cL_law 1032 = .ok (.i2l, 1) := by decide +kernel
theorem dL_law_1033 : decode cL_law 1033 = .ok (.lcmp, 1) := by decide +kernel
theorem dL_law_1034 : decode cL_law 1034 = .ok (.ifCond .eq 5, 3) := by decide +kernel
theorem dL_law_1037 : decode cL_law 1037 = .ok (.iconst 0, 1) := by decide +kernel
theorem dL_law_1038 : decode cL_law 1038 = .ok (.ireturn, 1) := by decide +kernel
theorem dL_law_1039 : decode cL_law 1039 = .ok (.goto 718, 3) := by decide +kernel
theorem dL_law_1042 : decode cL_law 1042 = .ok (.aload_n 1, 1) := by decide +kernel
theorem dL_law_1043 : decode cL_law 1043 = .ok (.aload_n 0, 1) := by decide +kernel
theorem dL_law_1044 : decode cL_law 1044 = .ok (.iload 4, 2) := by decide +kernel
theorem dL_law_1046 : decode cL_law 1046 = .ok (.iconst 1, 1) := by decide +kernel
theorem dL_law_1047 : decode cL_law 1047 = .ok (.iadd, 1) := by decide +kernel
theorem dL_law_1048 : decode cL_law 1048 = .ok (.iaload, 1) := by decide +kernel
theorem dL_law_1049 : decode cL_law 1049 = .ok (.aload_n 3, 1) := by decide +kernel
theorem dL_law_1050 : decode cL_law 1050 = .ok (.invokestatic 150, 3) := by decide +kernel
theorem dL_law_1053 : decode cL_law 1053 = .ok (.istore 5, 2) := by decide +kernel
theorem dL_law_1055 : decode cL_law 1055 = .ok (.aload_n 2, 1) := by decide +kernel
theorem dL_law_1056 : decode cL_law 1056 = .ok (.aload_n 0, 1) := by decide +kernel
theorem dL_law_1057 : decode cL_law 1057 = .ok (.iload 4, 2) := by decide +kernel
theorem dL_law_1059 : decode cL_law 1059 = .ok (.iconst 1, 1) := by decide +kernel
theorem dL_law_1060 : decode cL_law 1060 = .ok (.iadd, 1) := by decide +kernel
theorem dL_law_1061 : decode cL_law 1061 = .ok (.iaload, 1) := by decide +kernel
theorem dL_law_1062 : decode cL_law 1062 = .ok (.invokevirtual 152, 3) := by decide +kernel
theorem dL_law_1065 : decode cL_law 1065 = .ok (.istore 6, 2) := by decide +kernel
theorem dL_law_1067 : decode cL_law 1067 = .ok (.aload_n 2, 1) := by decide +kernel
theorem dL_law_1068 : decode cL_law 1068 = .ok (.invokevirtual 96, 3) := by decide +kernel
theorem dL_law_1071 : decode cL_law 1071 = .ok (.iload 5, 2) := by decide +kernel
theorem dL_law_1073 : decode cL_law 1073 = .ok (.if_icmp .eq 5, 3) := by decide +kernel
theorem dL_law_1076 : decode cL_law 1076 = .ok (.iconst 0, 1) := by decide +kernel
theorem dL_law_1077 : decode cL_law 1077 = .ok (.ireturn, 1) := by decide +kernel
theorem dL_law_1078 : decode cL_law 1078 = .ok (.iload 5, 2) := by decide +kernel
theorem dL_law_1080 : decode cL_law 1080 = .ok (.ifCond .ne 15, 3) := by decide +kernel
theorem dL_law_1083 : decode cL_law 1083 = .ok (.aload_n 3, 1) := by decide +kernel
theorem dL_law_1084 : decode cL_law 1084 = .ok (.iconst 0, 1) := by decide +kernel
theorem dL_law_1085 : decode cL_law 1085 = .ok (.laload, 1) := by decide +kernel
theorem dL_law_1086 : decode cL_law 1086 = .ok (.iload 6, 2) := by decide +kernel
theorem dL_law_1088 : decode cL_law 1088 = .ok (.i2l, 1) := by decide +kernel
theorem dL_law_1089 : decode cL_law 1089 = .ok (.lcmp, 1) := by decide +kernel
theorem dL_law_1090 : decode cL_law 1090 = .ok (.ifCond .eq 5, 3) := by decide +kernel
theorem dL_law_1093 : decode cL_law 1093 = .ok (.iconst 0, 1) := by decide +kernel
theorem dL_law_1094 : decode cL_law 1094 = .ok (.ireturn, 1) := by decide +kernel
theorem dL_law_1095 : decode cL_law 1095 = .ok (.goto 662, 3) := by decide +kernel
theorem dL_law_1098 : decode cL_law 1098 = .ok (.aload_n 1, 1) := by decide +kernel
theorem dL_law_1099 : decode cL_law 1099 = .ok (.invokevirtual 153, 3) := by decide +kernel
theorem dL_law_1102 : decode cL_law 1102 = .ok (.aload_n 2, 1) := by decide +kernel
theorem dL_law_1103 : decode cL_law 1103 = .ok (.invokevirtual 156, 3) := by decide +kernel
theorem dL_law_1106 : decode cL_law 1106 = .ok (.if_icmp .eq 651, 3) := by decide +kernel
theorem dL_law_1109 : decode cL_law 1109 = .ok (.iconst 0, 1) := by decide +kernel
theorem dL_law_1110 : decode cL_law 1110 = .ok (.ireturn, 1) := by decide +kernel
theorem dL_law_1111 : decode cL_law 1111 = .ok (.aload_n 1, 1) := by decide +kernel
theorem dL_law_1112 : decode cL_law 1112 = .ok (.invokevirtual 157, 3) := by decide +kernel
theorem dL_law_1115 : decode cL_law 1115 = .ok (.aload_n 2, 1) := by decide +kernel
theorem dL_law_1116 : decode cL_law 1116 = .ok (.invokevirtual 160, 3) := by decide +kernel
theorem dL_law_1119 : decode cL_law 1119 = .ok (.if_icmp .eq 638, 3) := by decide +kernel
theorem dL_law_1122 : decode cL_law 1122 = .ok (.iconst 0, 1) := by decide +kernel
theorem dL_law_1123 : decode cL_law 1123 = .ok (.ireturn, 1) := by decide +kernel
theorem dL_law_1124 : decode cL_law 1124 = .ok (.aload_n 1, 1) := by decide +kernel
theorem dL_law_1125 : decode cL_law 1125 = .ok (.invokevirtual 161, 3) := by decide +kernel
theorem dL_law_1128 : decode cL_law 1128 = .ok (.aload_n 2, 1) := by decide +kernel
theorem dL_law_1129 : decode cL_law 1129 = .ok (.invokevirtual 164, 3) := by decide +kernel
theorem dL_law_1132 : decode cL_law 1132 = .ok (.if_icmp .eq 625, 3) := by decide +kernel
theorem dL_law_1135 : decode cL_law 1135 = .ok (.iconst 0, 1) := by decide +kernel
theorem dL_law_1136 : decode cL_law 1136 = .ok (.ireturn, 1) := by decide +kernel
theorem dL_law_1137 : decode cL_law 1137 = .ok (.aload_n 1, 1) := by decide +kernel
theorem dL_law_1138 : decode cL_law 1138 = .ok (.invokevirtual 165, 3) := by decide +kernel
theorem dL_law_1141 : decode cL_law 1141 = .ok (.aload_n 2, 1) := by decide +kernel
theorem dL_law_1142 : decode cL_law 1142 = .ok (.invokevirtual 168, 3) := by decide +kernel
theorem dL_law_1145 : decode cL_law 1145 = .ok (.if_icmp .eq 612, 3) := by decide +kernel
theorem dL_law_1148 : decode cL_law 1148 = .ok (.iconst 0, 1) := by decide +kernel
theorem dL_law_1149 : decode cL_law 1149 = .ok (.ireturn, 1) := by decide +kernel
theorem dL_law_1150 : decode cL_law 1150 = .ok (.aload_n 1, 1) := by decide +kernel
theorem dL_law_1151 : decode cL_law 1151 = .ok (.invokevirtual 169, 3) := by decide +kernel
theorem dL_law_1154 : decode cL_law 1154 = .ok (.aload_n 2, 1) := by decide +kernel
theorem dL_law_1155 : decode cL_law 1155 = .ok (.invokevirtual 172, 3) := by decide +kernel
theorem dL_law_1158 : decode cL_law 1158 = .ok (.if_icmp .eq 599, 3) := by decide +kernel
theorem dL_law_1161 : decode cL_law 1161 = .ok (.iconst 0, 1) := by decide +kernel
theorem dL_law_1162 : decode cL_law 1162 = .ok (.ireturn, 1) := by decide +kernel
theorem dL_law_1163 : decode cL_law 1163 = .ok (.aload_n 1, 1) := by decide +kernel
theorem dL_law_1164 : decode cL_law 1164 = .ok (.invokevirtual 173, 3) := by decide +kernel
theorem dL_law_1167 : decode cL_law 1167 = .ok (.aload_n 2, 1) := by decide +kernel
theorem dL_law_1168 : decode cL_law 1168 = .ok (.invokevirtual 176, 3) := by decide +kernel
theorem dL_law_1171 : decode cL_law 1171 = .ok (.if_icmp .eq 586, 3) := by decide +kernel
theorem dL_law_1174 : decode cL_law 1174 = .ok (.iconst 0, 1) := by decide +kernel
theorem dL_law_1175 : decode cL_law 1175 = .ok (.ireturn, 1) := by decide +kernel
theorem dL_law_1176 : decode cL_law 1176 = .ok (.aload_n 1, 1) := by decide +kernel
theorem dL_law_1177 : decode cL_law 1177 = .ok (.invokevirtual 177, 3) := by decide +kernel
theorem dL_law_1180 : decode cL_law 1180 = .ok (.aload_n 2, 1) := by decide +kernel
theorem dL_law_1181 : decode cL_law 1181 = .ok (.invokevirtual 180, 3) := by decide +kernel
theorem dL_law_1184 : decode cL_law 1184 = .ok (.if_icmp .eq 573, 3) := by decide +kernel
theorem dL_law_1187 : decode cL_law 1187 = .ok (.iconst 0, 1) := by decide +kernel
theorem dL_law_1188 : decode cL_law 1188 = .ok (.ireturn, 1) := by decide +kernel
theorem dL_law_1189 : decode cL_law 1189 = .ok (.aload_n 1, 1) := by decide +kernel
theorem dL_law_1190 : decode cL_law 1190 = .ok (.invokevirtual 181, 3) := by decide +kernel
theorem dL_law_1193 : decode cL_law 1193 = .ok (.aload_n 2, 1) := by decide +kernel
theorem dL_law_1194 : decode cL_law 1194 = .ok (.invokevirtual 184, 3) := by decide +kernel
theorem dL_law_1197 : decode cL_law 1197 = .ok (.if_icmp .eq 560, 3) := by decide +kernel
theorem dL_law_1200 : decode cL_law 1200 = .ok (.iconst 0, 1) := by decide +kernel
theorem dL_law_1201 : decode cL_law 1201 = .ok (.ireturn, 1) := by decide +kernel
theorem dL_law_1202 : decode cL_law 1202 = .ok (.aload_n 1, 1) := by decide +kernel
theorem dL_law_1203 : decode cL_law 1203 = .ok (.invokevirtual 185, 3) := by decide +kernel
theorem dL_law_1206 : decode cL_law 1206 = .ok (.aload_n 2, 1) := by decide +kernel
theorem dL_law_1207 : decode cL_law 1207 = .ok (.invokevirtual 189, 3) := by decide +kernel
theorem dL_law_1210 : decode cL_law 1210 = .ok (.if_icmp .eq 547, 3) := by decide +kernel
theorem dL_law_1213 : decode cL_law 1213 = .ok (.iconst 0, 1) := by decide +kernel
theorem dL_law_1214 : decode cL_law 1214 = .ok (.ireturn, 1) := by decide +kernel
theorem dL_law_1215 : decode cL_law 1215 = .ok (.aload_n 1, 1) := by decide +kernel
theorem dL_law_1216 : decode cL_law 1216 = .ok (.aload_n 0, 1) := by decide +kernel
theorem dL_law_1217 : decode cL_law 1217 = .ok (.iload 4, 2) := by decide +kernel
theorem dL_law_1219 : decode cL_law 1219 = .ok (.iconst 1, 1) := by decide +kernel
theorem dL_law_1220 : decode cL_law 1220 = .ok (.iadd, 1) := by decide +kernel
theorem dL_law_1221 : decode cL_law 1221 = .ok (.iaload, 1) := by decide +kernel
theorem dL_law_1222 : decode cL_law 1222 = .ok (.aload_n 0, 1) := by decide +kernel
theorem dL_law_1223 : decode cL_law 1223 = .ok (.iload 4, 2) := by decide +kernel
theorem dL_law_1225 : decode cL_law 1225 = .ok (.iconst 2, 1) := by decide +kernel
theorem dL_law_1226 : decode cL_law 1226 = .ok (.iadd, 1) := by decide +kernel
theorem dL_law_1227 : decode cL_law 1227 = .ok (.iaload, 1) := by decide +kernel
theorem dL_law_1228 : decode cL_law 1228 = .ok (.aload_n 3, 1) := by decide +kernel
theorem dL_law_1229 : decode cL_law 1229 = .ok (.invokestatic 190, 3) := by decide +kernel
theorem dL_law_1232 : decode cL_law 1232 = .ok (.istore 5, 2) := by decide +kernel
theorem dL_law_1234 : decode cL_law 1234 = .ok (.aload_n 2, 1) := by decide +kernel
theorem dL_law_1235 : decode cL_law 1235 = .ok (.aload_n 0, 1) := by decide +kernel
theorem dL_law_1236 : decode cL_law 1236 = .ok (.iload 4, 2) := by decide +kernel
theorem dL_law_1238 : decode cL_law 1238 = .ok (.iconst 1, 1) := by decide +kernel
theorem dL_law_1239 : decode cL_law 1239 = .ok (.iadd, 1) := by decide +kernel
theorem dL_law_1240 : decode cL_law 1240 = .ok (.iaload, 1) := by decide +kernel
theorem dL_law_1241 : decode cL_law 1241 = .ok (.aload_n 0, 1) := by decide +kernel
theorem dL_law_1242 : decode cL_law 1242 = .ok (.iload 4, 2) := by decide +kernel
theorem dL_law_1244 : decode cL_law 1244 = .ok (.iconst 2, 1) := by decide +kernel
theorem dL_law_1245 : decode cL_law 1245 = .ok (.iadd, 1) := by decide +kernel
theorem dL_law_1246 : decode cL_law 1246 = .ok (.iaload, 1) := by decide +kernel
theorem dL_law_1247 : decode cL_law 1247 = .ok (.invokevirtual 192, 3) := by decide +kernel
theorem dL_law_1250 : decode cL_law 1250 = .ok (.istore 6, 2) := by decide +kernel
theorem dL_law_1252 : decode cL_law 1252 = .ok (.aload_n 2, 1) := by decide +kernel
theorem dL_law_1253 : decode cL_law 1253 = .ok (.invokevirtual 96, 3) := by decide +kernel
theorem dL_law_1256 : decode cL_law 1256 = .ok (.iload 5, 2) := by decide +kernel
theorem dL_law_1258 : decode cL_law 1258 = .ok (.if_icmp .eq 5, 3) := by decide +kernel
theorem dL_law_1261 : decode cL_law 1261 = .ok (.iconst 0, 1) := by decide +kernel
theorem dL_law_1262 : decode cL_law 1262 = .ok (.ireturn, 1) := by decide +kernel
theorem dL_law_1263 : decode cL_law 1263 = .ok (.iload 5, 2) := by decide +kernel
theorem dL_law_1265 : decode cL_law 1265 = .ok (.ifCond .ne 15, 3) := by decide +kernel
theorem dL_law_1268 : decode cL_law 1268 = .ok (.aload_n 3, 1) := by decide +kernel
theorem dL_law_1269 : decode cL_law 1269 = .ok (.iconst 0, 1) := by decide +kernel
theorem dL_law_1270 : decode cL_law 1270 = .ok (.laload, 1) := by decide +kernel
theorem dL_law_1271 : decode cL_law 1271 = .ok (.iload 6, 2) := by decide +kernel
theorem dL_law_1273 : decode cL_law 1273 = .ok (.i2l, 1) := by decide +kernel
theorem dL_law_1274 : decode cL_law 1274 = .ok (.lcmp, 1) := by decide +kernel
theorem dL_law_1275 : decode cL_law 1275 = .ok (.ifCond .eq 5, 3) := by decide +kernel
theorem dL_law_1278 : decode cL_law 1278 = .ok (.iconst 0, 1) := by decide +kernel
theorem dL_law_1279 : decode cL_law 1279 = .ok (.ireturn, 1) := by decide +kernel
theorem dL_law_1280 : decode cL_law 1280 = .ok (.goto 477, 3) := by decide +kernel
theorem dL_law_1283 : decode cL_law 1283 = .ok (.aload_n 1, 1) := by decide +kernel
theorem dL_law_1284 : decode cL_law 1284 = .ok (.aload_n 0, 1) := by decide +kernel
theorem dL_law_1285 : decode cL_law 1285 = .ok (.iload 4, 2) := by decide +kernel
theorem dL_law_1287 : decode cL_law 1287 = .ok (.iconst 1, 1) := by decide +kernel
theorem dL_law_1288 : decode cL_law 1288 = .ok (.iadd, 1) := by decide +kernel
theorem dL_law_1289 : decode cL_law 1289 = .ok (.iaload, 1) := by decide +kernel
theorem dL_law_1290 : decode cL_law 1290 = .ok (.aload_n 3, 1) := by decide +kernel
theorem dL_law_1291 : decode cL_law 1291 = .ok (.invokestatic 193, 3) := by decide +kernel
theorem dL_law_1294 : decode cL_law 1294 = .ok (.istore 5, 2) := by decide +kernel
theorem dL_law_1296 : decode cL_law 1296 = .ok (.aload_n 2, 1) := by decide +kernel
theorem dL_law_1297 : decode cL_law 1297 = .ok (.aload_n 0, 1) := by decide +kernel
theorem dL_law_1298 : decode cL_law 1298 = .ok (.iload 4, 2) := by decide +kernel
theorem dL_law_1300 : decode cL_law 1300 = .ok (.iconst 1, 1) := by decide +kernel
theorem dL_law_1301 : decode cL_law 1301 = .ok (.iadd, 1) := by decide +kernel
theorem dL_law_1302 : decode cL_law 1302 = .ok (.iaload, 1) := by decide +kernel
theorem dL_law_1303 : decode cL_law 1303 = .ok (.invokevirtual 195, 3) := by decide +kernel
theorem dL_law_1306 : decode cL_law 1306 = .ok (.istore 6, 2) := by decide +kernel
theorem dL_law_1308 : decode cL_law 1308 = .ok (.aload_n 2, 1) := by decide +kernel
theorem dL_law_1309 : decode cL_law 1309 = .ok (.invokevirtual 96, 3) := by decide +kernel
theorem dL_law_1312 : decode cL_law 1312 = .ok (.iload 5, 2) := by decide +kernel
theorem dL_law_1314 : decode cL_law 1314 = .ok (.if_icmp .eq 5, 3) := by decide +kernel
theorem dL_law_1317 : decode cL_law 1317 = .ok (.iconst 0, 1) := by decide +kernel
theorem dL_law_1318 : decode cL_law 1318 = .ok (.ireturn, 1) := by decide +kernel
theorem dL_law_1319 : decode cL_law 1319 = .ok (.iload 5, 2) := by decide +kernel
theorem dL_law_1321 : decode cL_law 1321 = .ok (.ifCond .ne 15, 3) := by decide +kernel
theorem dL_law_1324 : decode cL_law 1324 = .ok (.aload_n 3, 1) := by decide +kernel
theorem dL_law_1325 : decode cL_law 1325 = .ok (.iconst 0, 1) := by decide +kernel
theorem dL_law_1326 : decode cL_law 1326 = .ok (.laload, 1) := by decide +kernel
theorem dL_law_1327 : decode cL_law 1327 = .ok (.iload 6, 2) := by decide +kernel
theorem dL_law_1329 : decode cL_law 1329 = .ok (.i2l, 1) := by decide +kernel
theorem dL_law_1330 : decode cL_law 1330 = .ok (.lcmp, 1) := by decide +kernel
theorem dL_law_1331 : decode cL_law 1331 = .ok (.ifCond .eq 5, 3) := by decide +kernel
theorem dL_law_1334 : decode cL_law 1334 = .ok (.iconst 0, 1) := by decide +kernel
theorem dL_law_1335 : decode cL_law 1335 = .ok (.ireturn, 1) := by decide +kernel
theorem dL_law_1336 : decode cL_law 1336 = .ok (.goto 421, 3) := by decide +kernel
theorem dL_law_1339 : decode cL_law 1339 = .ok (.aload_n 1, 1) := by decide +kernel
theorem dL_law_1340 : decode cL_law 1340 = .ok (.aload_n 0, 1) := by decide +kernel
theorem dL_law_1341 : decode cL_law 1341 = .ok (.iload 4, 2) := by decide +kernel
theorem dL_law_1343 : decode cL_law 1343 = .ok (.iconst 1, 1) := by decide +kernel
theorem dL_law_1344 : decode cL_law 1344 = .ok (.iadd, 1) := by decide +kernel
theorem dL_law_1345 : decode cL_law 1345 = .ok (.iaload, 1) := by decide +kernel
theorem dL_law_1346 : decode cL_law 1346 = .ok (.aload_n 3, 1) := by decide +kernel
theorem dL_law_1347 : decode cL_law 1347 = .ok (.invokestatic 196, 3) := by decide +kernel
theorem dL_law_1350 : decode cL_law 1350 = .ok (.istore 5, 2) := by decide +kernel
theorem dL_law_1352 : decode cL_law 1352 = .ok (.aload_n 2, 1) := by decide +kernel
theorem dL_law_1353 : decode cL_law 1353 = .ok (.aload_n 0, 1) := by decide +kernel
theorem dL_law_1354 : decode cL_law 1354 = .ok (.iload 4, 2) := by decide +kernel
theorem dL_law_1356 : decode cL_law 1356 = .ok (.iconst 1, 1) := by decide +kernel
theorem dL_law_1357 : decode cL_law 1357 = .ok (.iadd, 1) := by decide +kernel
theorem dL_law_1358 : decode cL_law 1358 = .ok (.iaload, 1) := by decide +kernel
theorem dL_law_1359 : decode cL_law 1359 = .ok (.invokevirtual 198, 3) := by decide +kernel
theorem dL_law_1362 : decode cL_law 1362 = .ok (.istore 6, 2) := by decide +kernel
theorem dL_law_1364 : decode cL_law 1364 = .ok (.aload_n 2, 1) := by decide +kernel
theorem dL_law_1365 : decode cL_law 1365 = .ok (.invokevirtual 96, 3) := by decide +kernel
theorem dL_law_1368 : decode cL_law 1368 = .ok (.iload 5, 2) := by decide +kernel
theorem dL_law_1370 : decode cL_law 1370 = .ok (.if_icmp .eq 5, 3) := by decide +kernel
theorem dL_law_1373 : decode cL_law 1373 = .ok (.iconst 0, 1) := by decide +kernel
theorem dL_law_1374 : decode cL_law 1374 = .ok (.ireturn, 1) := by decide +kernel
theorem dL_law_1375 : decode cL_law 1375 = .ok (.iload 5, 2) := by decide +kernel
theorem dL_law_1377 : decode cL_law 1377 = .ok (.ifCond .ne 15, 3) := by decide +kernel
theorem dL_law_1380 : decode cL_law 1380 = .ok (.aload_n 3, 1) := by decide +kernel
theorem dL_law_1381 : decode cL_law 1381 = .ok (.iconst 0, 1) := by decide +kernel
theorem dL_law_1382 : decode cL_law 1382 = .ok (.laload, 1) := by decide +kernel
theorem dL_law_1383 : decode cL_law 1383 = .ok (.iload 6, 2) := by decide +kernel
theorem dL_law_1385 : decode cL_law 1385 = .ok (.i2l, 1) := by decide +kernel
theorem dL_law_1386 : decode cL_law 1386 = .ok (.lcmp, 1) := by decide +kernel
theorem dL_law_1387 : decode cL_law 1387 = .ok (.ifCond .eq 5, 3) := by decide +kernel
theorem dL_law_1390 : decode cL_law 1390 = .ok (.iconst 0, 1) := by decide +kernel
theorem dL_law_1391 : decode cL_law 1391 = .ok (.ireturn, 1) := by decide +kernel
theorem dL_law_1392 : decode cL_law 1392 = .ok (.goto 365, 3) := by decide +kernel
theorem dL_law_1395 : decode cL_law 1395 = .ok (.aload_n 1, 1) := by decide +kernel
theorem dL_law_1396 : decode cL_law 1396 = .ok (.aload_n 0, 1) := by decide +kernel
theorem dL_law_1397 : decode cL_law 1397 = .ok (.iload 4, 2) := by decide +kernel
theorem dL_law_1399 : decode cL_law 1399 = .ok (.iconst 1, 1) := by decide +kernel
theorem dL_law_1400 : decode cL_law 1400 = .ok (.iadd, 1) := by decide +kernel
theorem dL_law_1401 : decode cL_law 1401 = .ok (.iaload, 1) := by decide +kernel
theorem dL_law_1402 : decode cL_law 1402 = .ok (.aload_n 3, 1) := by decide +kernel
theorem dL_law_1403 : decode cL_law 1403 = .ok (.invokestatic 199, 3) := by decide +kernel
theorem dL_law_1406 : decode cL_law 1406 = .ok (.istore 5, 2) := by decide +kernel
theorem dL_law_1408 : decode cL_law 1408 = .ok (.aload_n 2, 1) := by decide +kernel
theorem dL_law_1409 : decode cL_law 1409 = .ok (.aload_n 0, 1) := by decide +kernel
theorem dL_law_1410 : decode cL_law 1410 = .ok (.iload 4, 2) := by decide +kernel
theorem dL_law_1412 : decode cL_law 1412 = .ok (.iconst 1, 1) := by decide +kernel
theorem dL_law_1413 : decode cL_law 1413 = .ok (.iadd, 1) := by decide +kernel
theorem dL_law_1414 : decode cL_law 1414 = .ok (.iaload, 1) := by decide +kernel
theorem dL_law_1415 : decode cL_law 1415 = .ok (.invokevirtual 201, 3) := by decide +kernel
theorem dL_law_1418 : decode cL_law 1418 = .ok (.istore 6, 2) := by decide +kernel
theorem dL_law_1420 : decode cL_law 1420 = .ok (.aload_n 2, 1) := by decide +kernel
theorem dL_law_1421 : decode cL_law 1421 = .ok (.invokevirtual 96, 3) := by decide +kernel
theorem dL_law_1424 : decode cL_law 1424 = .ok (.iload 5, 2) := by decide +kernel
theorem dL_law_1426 : decode cL_law 1426 = .ok (.if_icmp .eq 5, 3) := by decide +kernel
theorem dL_law_1429 : decode cL_law 1429 = .ok (.iconst 0, 1) := by decide +kernel
theorem dL_law_1430 : decode cL_law 1430 = .ok (.ireturn, 1) := by decide +kernel
theorem dL_law_1431 : decode cL_law 1431 = .ok (.iload 5, 2) := by decide +kernel
theorem dL_law_1433 : decode cL_law 1433 = .ok (.ifCond .ne 15, 3) := by decide +kernel
theorem dL_law_1436 : decode cL_law 1436 = .ok (.aload_n 3, 1) := by decide +kernel
theorem dL_law_1437 : decode cL_law 1437 = .ok (.iconst 0, 1) := by decide +kernel
theorem dL_law_1438 : decode cL_law 1438 = .ok (.laload, 1) := by decide +kernel
theorem dL_law_1439 : decode cL_law 1439 = .ok (.iload 6, 2) := by decide +kernel
theorem dL_law_1441 : decode cL_law 1441 = .ok (.i2l, 1) := by decide +kernel
theorem dL_law_1442 : decode cL_law 1442 = .ok (.lcmp, 1) := by decide +kernel
theorem dL_law_1443 : decode cL_law 1443 = .ok (.ifCond .eq 5, 3) := by decide +kernel
theorem dL_law_1446 : decode cL_law 1446 = .ok (.iconst 0, 1) := by decide +kernel
theorem dL_law_1447 : decode cL_law 1447 = .ok (.ireturn, 1) := by decide +kernel
theorem dL_law_1448 : decode cL_law 1448 = .ok (.goto 309, 3) := by decide +kernel
theorem dL_law_1451 : decode cL_law 1451 = .ok (.aload_n 1, 1) := by decide +kernel
theorem dL_law_1452 : decode cL_law 1452 = .ok (.aload_n 0, 1) := by decide +kernel
theorem dL_law_1453 : decode cL_law 1453 = .ok (.iload 4, 2) := by decide +kernel
theorem dL_law_1455 : decode cL_law 1455 = .ok (.iconst 1, 1) := by decide +kernel
theorem dL_law_1456 : decode cL_law 1456 = .ok (.iadd, 1) := by decide +kernel
theorem dL_law_1457 : decode cL_law 1457 = .ok (.iaload, 1) := by decide +kernel
theorem dL_law_1458 : decode cL_law 1458 = .ok (.aload_n 3, 1) := by decide +kernel
theorem dL_law_1459 : decode cL_law 1459 = .ok (.invokestatic 202, 3) := by decide +kernel
theorem dL_law_1462 : decode cL_law 1462 = .ok (.istore 5, 2) := by decide +kernel
theorem dL_law_1464 : decode cL_law 1464 = .ok (.aload_n 2, 1) := by decide +kernel
theorem dL_law_1465 : decode cL_law 1465 = .ok (.aload_n 0, 1) := by decide +kernel
theorem dL_law_1466 : decode cL_law 1466 = .ok (.iload 4, 2) := by decide +kernel
theorem dL_law_1468 : decode cL_law 1468 = .ok (.iconst 1, 1) := by decide +kernel
theorem dL_law_1469 : decode cL_law 1469 = .ok (.iadd, 1) := by decide +kernel
theorem dL_law_1470 : decode cL_law 1470 = .ok (.iaload, 1) := by decide +kernel
theorem dL_law_1471 : decode cL_law 1471 = .ok (.invokevirtual 204, 3) := by decide +kernel
theorem dL_law_1474 : decode cL_law 1474 = .ok (.istore 6, 2) := by decide +kernel
theorem dL_law_1476 : decode cL_law 1476 = .ok (.aload_n 2, 1) := by decide +kernel
theorem dL_law_1477 : decode cL_law 1477 = .ok (.invokevirtual 96, 3) := by decide +kernel
theorem dL_law_1480 : decode cL_law 1480 = .ok (.iload 5, 2) := by decide +kernel
theorem dL_law_1482 : decode cL_law 1482 = .ok (.if_icmp .eq 5, 3) := by decide +kernel
theorem dL_law_1485 : decode cL_law 1485 = .ok (.iconst 0, 1) := by decide +kernel
theorem dL_law_1486 : decode cL_law 1486 = .ok (.ireturn, 1) := by decide +kernel
theorem dL_law_1487 : decode cL_law 1487 = .ok (.iload 5, 2) := by decide +kernel
theorem dL_law_1489 : decode cL_law 1489 = .ok (.ifCond .ne 15, 3) := by decide +kernel
theorem dL_law_1492 : decode cL_law 1492 = .ok (.aload_n 3, 1) := by decide +kernel
theorem dL_law_1493 : decode cL_law 1493 = .ok (.iconst 0, 1) := by decide +kernel
theorem dL_law_1494 : decode cL_law 1494 = .ok (.laload, 1) := by decide +kernel
theorem dL_law_1495 : decode cL_law 1495 = .ok (.iload 6, 2) := by decide +kernel
theorem dL_law_1497 : decode cL_law 1497 = .ok (.i2l, 1) := by decide +kernel
theorem dL_law_1498 : decode cL_law 1498 = .ok (.lcmp, 1) := by decide +kernel
theorem dL_law_1499 : decode cL_law 1499 = .ok (.ifCond .eq 5, 3) := by decide +kernel
theorem dL_law_1502 : decode cL_law 1502 = .ok (.iconst 0, 1) := by decide +kernel
theorem dL_law_1503 : decode cL_law 1503 = .ok (.ireturn, 1) := by decide +kernel
theorem dL_law_1504 : decode cL_law 1504 = .ok (.goto 253, 3) := by decide +kernel
theorem dL_law_1507 : decode cL_law 1507 = .ok (.aload_n 1, 1) := by decide +kernel
theorem dL_law_1508 : decode cL_law 1508 = .ok (.aload_n 0, 1) := by decide +kernel
theorem dL_law_1509 : decode cL_law 1509 = .ok (.iload 4, 2) := by decide +kernel
theorem dL_law_1511 : decode cL_law 1511 = .ok (.iconst 1, 1) := by decide +kernel
theorem dL_law_1512 : decode cL_law 1512 = .ok (.iadd, 1) := by decide +kernel
theorem dL_law_1513 : decode cL_law 1513 = .ok (.iaload, 1) := by decide +kernel
theorem dL_law_1514 : decode cL_law 1514 = .ok (.aload_n 3, 1) := by decide +kernel
theorem dL_law_1515 : decode cL_law 1515 = .ok (.invokestatic 205, 3) := by decide +kernel
theorem dL_law_1518 : decode cL_law 1518 = .ok (.istore 5, 2) := by decide +kernel
theorem dL_law_1520 : decode cL_law 1520 = .ok (.aload_n 2, 1) := by decide +kernel
theorem dL_law_1521 : decode cL_law 1521 = .ok (.aload_n 0, 1) := by decide +kernel
theorem dL_law_1522 : decode cL_law 1522 = .ok (.iload 4, 2) := by decide +kernel
theorem dL_law_1524 : decode cL_law 1524 = .ok (.iconst 1, 1) := by decide +kernel
theorem dL_law_1525 : decode cL_law 1525 = .ok (.iadd, 1) := by decide +kernel
theorem dL_law_1526 : decode cL_law 1526 = .ok (.iaload, 1) := by decide +kernel
theorem dL_law_1527 : decode cL_law 1527 = .ok (.invokevirtual 207, 3) := by decide +kernel
theorem dL_law_1530 : decode cL_law 1530 = .ok (.istore 6, 2) := by decide +kernel
theorem dL_law_1532 : decode cL_law 1532 = .ok (.aload_n 2, 1) := by decide +kernel
theorem dL_law_1533 : decode cL_law 1533 = .ok (.invokevirtual 96, 3) := by decide +kernel
theorem dL_law_1536 : decode cL_law 1536 = .ok (.iload 5, 2) := by decide +kernel
theorem dL_law_1538 : decode cL_law 1538 = .ok (.if_icmp .eq 5, 3) := by decide +kernel
theorem dL_law_1541 : decode cL_law 1541 = .ok (.iconst 0, 1) := by decide +kernel
theorem dL_law_1542 : decode cL_law 1542 = .ok (.ireturn, 1) := by decide +kernel
theorem dL_law_1543 : decode cL_law 1543 = .ok (.iload 5, 2) := by decide +kernel
theorem dL_law_1545 : decode cL_law 1545 = .ok (.ifCond .ne 15, 3) := by decide +kernel
theorem dL_law_1548 : decode cL_law 1548 = .ok (.aload_n 3, 1) := by decide +kernel
theorem dL_law_1549 : decode cL_law 1549 = .ok (.iconst 0, 1) := by decide +kernel
theorem dL_law_1550 : decode cL_law 1550 = .ok (.laload, 1) := by decide +kernel
theorem dL_law_1551 : decode cL_law 1551 = .ok (.iload 6, 2) := by decide +kernel
theorem dL_law_1553 : decode cL_law 1553 = .ok (.i2l, 1) := by decide +kernel
theorem dL_law_1554 : decode cL_law 1554 = .ok (.lcmp, 1) := by decide +kernel
theorem dL_law_1555 : decode cL_law 1555 = .ok (.ifCond .eq 5, 3) := by decide +kernel
theorem dL_law_1558 : decode cL_law 1558 = .ok (.iconst 0, 1) := by decide +kernel
theorem dL_law_1559 : decode cL_law 1559 = .ok (.ireturn, 1) := by decide +kernel
theorem dL_law_1560 : decode cL_law 1560 = .ok (.goto 197, 3) := by decide +kernel
theorem dL_law_1563 : decode cL_law 1563 = .ok (.aload_n 1, 1) := by decide +kernel
theorem dL_law_1564 : decode cL_law 1564 = .ok (.invokevirtual 208, 3) := by decide +kernel
theorem dL_law_1567 : decode cL_law 1567 = .ok (.aload_n 2, 1) := by decide +kernel
theorem dL_law_1568 : decode cL_law 1568 = .ok (.invokevirtual 211, 3) := by decide +kernel
theorem dL_law_1571 : decode cL_law 1571 = .ok (.if_icmp .eq 186, 3) := by decide +kernel
theorem dL_law_1574 : decode cL_law 1574 = .ok (.iconst 0, 1) := by decide +kernel
theorem dL_law_1575 : decode cL_law 1575 = .ok (.ireturn, 1) := by decide +kernel
theorem dL_law_1576 : decode cL_law 1576 = .ok (.aload_n 1, 1) := by decide +kernel
theorem dL_law_1577 : decode cL_law 1577 = .ok (.invokevirtual 212, 3) := by decide +kernel
theorem dL_law_1580 : decode cL_law 1580 = .ok (.dstore 5, 2) := by decide +kernel
theorem dL_law_1582 : decode cL_law 1582 = .ok (.aload_n 2, 1) := by decide +kernel
theorem dL_law_1583 : decode cL_law 1583 = .ok (.invokevirtual 216, 3) := by decide +kernel
theorem dL_law_1586 : decode cL_law 1586 = .ok (.dstore 7, 2) := by decide +kernel
theorem dL_law_1588 : decode cL_law 1588 = .ok (.dload 5, 2) := by decide +kernel
theorem dL_law_1590 : decode cL_law 1590 = .ok (.dload 7, 2) := by decide +kernel
theorem dL_law_1592 : decode cL_law 1592 = .ok (.dcmp .l, 1) := by decide +kernel
theorem dL_law_1593 : decode cL_law 1593 = .ok (.ifCond .eq 21, 3) := by decide +kernel
theorem dL_law_1596 : decode cL_law 1596 = .ok (.dload 5, 2) := by decide +kernel
theorem dL_law_1598 : decode cL_law 1598 = .ok (.dload 5, 2) := by decide +kernel
theorem dL_law_1600 : decode cL_law 1600 = .ok (.dcmp .l, 1) := by decide +kernel
theorem dL_law_1601 : decode cL_law 1601 = .ok (.ifCond .eq 11, 3) := by decide +kernel
theorem dL_law_1604 : decode cL_law 1604 = .ok (.dload 7, 2) := by decide +kernel
theorem dL_law_1606 : decode cL_law 1606 = .ok (.dload 7, 2) := by decide +kernel
theorem dL_law_1608 : decode cL_law 1608 = .ok (.dcmp .l, 1) := by decide +kernel
theorem dL_law_1609 : decode cL_law 1609 = .ok (.ifCond .ne 5, 3) := by decide +kernel
theorem dL_law_1612 : decode cL_law 1612 = .ok (.iconst 0, 1) := by decide +kernel
theorem dL_law_1613 : decode cL_law 1613 = .ok (.ireturn, 1) := by decide +kernel
theorem dL_law_1614 : decode cL_law 1614 = .ok (.goto 143, 3) := by decide +kernel
theorem dL_law_1617 : decode cL_law 1617 = .ok (.aload_n 1, 1) := by decide +kernel
theorem dL_law_1618 : decode cL_law 1618 = .ok (.aload_n 0, 1) := by decide +kernel
theorem dL_law_1619 : decode cL_law 1619 = .ok (.iload 4, 2) := by decide +kernel
theorem dL_law_1621 : decode cL_law 1621 = .ok (.iconst 1, 1) := by decide +kernel
theorem dL_law_1622 : decode cL_law 1622 = .ok (.iadd, 1) := by decide +kernel
theorem dL_law_1623 : decode cL_law 1623 = .ok (.iaload, 1) := by decide +kernel
theorem dL_law_1624 : decode cL_law 1624 = .ok (.aload_n 3, 1) := by decide +kernel
theorem dL_law_1625 : decode cL_law 1625 = .ok (.invokestatic 217, 3) := by decide +kernel
theorem dL_law_1628 : decode cL_law 1628 = .ok (.istore 5, 2) := by decide +kernel
theorem dL_law_1630 : decode cL_law 1630 = .ok (.aload_n 2, 1) := by decide +kernel
theorem dL_law_1631 : decode cL_law 1631 = .ok (.aload_n 0, 1) := by decide +kernel
theorem dL_law_1632 : decode cL_law 1632 = .ok (.iload 4, 2) := by decide +kernel
theorem dL_law_1634 : decode cL_law 1634 = .ok (.iconst 1, 1) := by decide +kernel
theorem dL_law_1635 : decode cL_law 1635 = .ok (.iadd, 1) := by decide +kernel
theorem dL_law_1636 : decode cL_law 1636 = .ok (.iaload, 1) := by decide +kernel
theorem dL_law_1637 : decode cL_law 1637 = .ok (.invokevirtual 219, 3) := by decide +kernel
theorem dL_law_1640 : decode cL_law 1640 = .ok (.istore 6, 2) := by decide +kernel
theorem dL_law_1642 : decode cL_law 1642 = .ok (.aload_n 2, 1) := by decide +kernel
theorem dL_law_1643 : decode cL_law 1643 = .ok (.invokevirtual 96, 3) := by decide +kernel
theorem dL_law_1646 : decode cL_law 1646 = .ok (.iload 5, 2) := by decide +kernel
theorem dL_law_1648 : decode cL_law 1648 = .ok (.if_icmp .eq 5, 3) := by decide +kernel
theorem dL_law_1651 : decode cL_law 1651 = .ok (.iconst 0, 1) := by decide +kernel
theorem dL_law_1652 : decode cL_law 1652 = .ok (.ireturn, 1) := by decide +kernel
theorem dL_law_1653 : decode cL_law 1653 = .ok (.iload 5, 2) := by decide +kernel
theorem dL_law_1655 : decode cL_law 1655 = .ok (.ifCond .ne 15, 3) := by decide +kernel
theorem dL_law_1658 : decode cL_law 1658 = .ok (.aload_n 3, 1) := by decide +kernel
theorem dL_law_1659 : decode cL_law 1659 = .ok (.iconst 0, 1) := by decide +kernel
theorem dL_law_1660 : decode cL_law 1660 = .ok (.laload, 1) := by decide +kernel
theorem dL_law_1661 : decode cL_law 1661 = .ok (.iload 6, 2) := by decide +kernel
theorem dL_law_1663 : decode cL_law 1663 = .ok (.i2l, 1) := by decide +kernel
theorem dL_law_1664 : decode cL_law 1664 = .ok (.lcmp, 1) := by decide +kernel
theorem dL_law_1665 : decode cL_law 1665 = .ok (.ifCond .eq 5, 3) := by decide +kernel
theorem dL_law_1668 : decode cL_law 1668 = .ok (.iconst 0, 1) := by decide +kernel
theorem dL_law_1669 : decode cL_law 1669 = .ok (.ireturn, 1) := by decide +kernel
theorem dL_law_1670 : decode cL_law 1670 = .ok (.goto 87, 3) := by decide +kernel
theorem dL_law_1673 : decode cL_law 1673 = .ok (.aload_n 1, 1) := by decide +kernel
theorem dL_law_1674 : decode cL_law 1674 = .ok (.invokevirtual 220, 3) := by decide +kernel
theorem dL_law_1677 : decode cL_law 1677 = .ok (.aload_n 2, 1) := by decide +kernel
theorem dL_law_1678 : decode cL_law 1678 = .ok (.invokevirtual 223, 3) := by decide +kernel
theorem dL_law_1681 : decode cL_law 1681 = .ok (.if_icmp .eq 76, 3) := by decide +kernel
theorem dL_law_1684 : decode cL_law 1684 = .ok (.iconst 0, 1) := by decide +kernel
theorem dL_law_1685 : decode cL_law 1685 = .ok (.ireturn, 1) := by decide +kernel
theorem dL_law_1686 : decode cL_law 1686 = .ok (.aload_n 1, 1) := by decide +kernel
theorem dL_law_1687 : decode cL_law 1687 = .ok (.invokevirtual 224, 3) := by decide +kernel
theorem dL_law_1690 : decode cL_law 1690 = .ok (.aload_n 2, 1) := by decide +kernel
theorem dL_law_1691 : decode cL_law 1691 = .ok (.invokevirtual 227, 3) := by decide +kernel
theorem dL_law_1694 : decode cL_law 1694 = .ok (.if_icmp .eq 63, 3) := by decide +kernel
theorem dL_law_1697 : decode cL_law 1697 = .ok (.iconst 0, 1) := by decide +kernel
theorem dL_law_1698 : decode cL_law 1698 = .ok (.ireturn, 1) := by decide +kernel
theorem dL_law_1699 : decode cL_law 1699 = .ok (.aload_n 1, 1) := by decide +kernel
theorem dL_law_1700 : decode cL_law 1700 = .ok (.aload_n 3, 1) := by decide +kernel
theorem dL_law_1701 : decode cL_law 1701 = .ok (.invokestatic 228, 3) := by decide +kernel
theorem dL_law_1704 : decode cL_law 1704 = .ok (.istore 5, 2) := by decide +kernel
theorem dL_law_1706 : decode cL_law 1706 = .ok (.aload_n 2, 1) := by decide +kernel
theorem dL_law_1707 : decode cL_law 1707 = .ok (.invokevirtual 230, 3) := by decide +kernel
theorem dL_law_1710 : decode cL_law 1710 = .ok (.istore 6, 2) := by decide +kernel
theorem dL_law_1712 : decode cL_law 1712 = .ok (.aload_n 2, 1) := by decide +kernel
theorem dL_law_1713 : decode cL_law 1713 = .ok (.invokevirtual 96, 3) := by decide +kernel
theorem dL_law_1716 : decode cL_law 1716 = .ok (.iload 5, 2) := by decide +kernel
theorem dL_law_1718 : decode cL_law 1718 = .ok (.if_icmp .eq 5, 3) := by decide +kernel
theorem dL_law_1721 : decode cL_law 1721 = .ok (.iconst 0, 1) := by decide +kernel
theorem dL_law_1722 : decode cL_law 1722 = .ok (.ireturn, 1) := by decide +kernel
theorem dL_law_1723 : decode cL_law 1723 = .ok (.iload 5, 2) := by decide +kernel
theorem dL_law_1725 : decode cL_law 1725 = .ok (.ifCond .ne 15, 3) := by decide +kernel
theorem dL_law_1728 : decode cL_law 1728 = .ok (.aload_n 3, 1) := by decide +kernel
theorem dL_law_1729 : decode cL_law 1729 = .ok (.iconst 0, 1) := by decide +kernel
theorem dL_law_1730 : decode cL_law 1730 = .ok (.laload, 1) := by decide +kernel
theorem dL_law_1731 : decode cL_law 1731 = .ok (.iload 6, 2) := by decide +kernel
theorem dL_law_1733 : decode cL_law 1733 = .ok (.i2l, 1) := by decide +kernel
theorem dL_law_1734 : decode cL_law 1734 = .ok (.lcmp, 1) := by decide +kernel
theorem dL_law_1735 : decode cL_law 1735 = .ok (.ifCond .eq 5, 3) := by decide +kernel
theorem dL_law_1738 : decode cL_law 1738 = .ok (.iconst 0, 1) := by decide +kernel
theorem dL_law_1739 : decode cL_law 1739 = .ok (.ireturn, 1) := by decide +kernel
theorem dL_law_1740 : decode cL_law 1740 = .ok (.goto 17, 3) := by decide +kernel
theorem dL_law_1743 : decode cL_law 1743 = .ok (.aload_n 1, 1) := by decide +kernel
theorem dL_law_1744 : decode cL_law 1744 = .ok (.invokevirtual 231, 3) := by decide +kernel
theorem dL_law_1747 : decode cL_law 1747 = .ok (.aload_n 2, 1) := by decide +kernel
theorem dL_law_1748 : decode cL_law 1748 = .ok (.invokevirtual 235, 3) := by decide +kernel
theorem dL_law_1751 : decode cL_law 1751 = .ok (.lcmp, 1) := by decide +kernel
theorem dL_law_1752 : decode cL_law 1752 = .ok (.ifCond .eq 5, 3) := by decide +kernel
theorem dL_law_1755 : decode cL_law 1755 = .ok (.iconst 0, 1) := by decide +kernel
theorem dL_law_1756 : decode cL_law 1756 = .ok (.ireturn, 1) := by decide +kernel
theorem dL_law_1757 : decode cL_law 1757 = .ok (.iinc 4 5, 3) := by decide +kernel
theorem dL_law_1760 : decode cL_law 1760 = .ok (.goto (-1737), 3) := by decide +kernel
theorem dL_law_1763 : decode cL_law 1763 = .ok (.iconst 1, 1) := by decide +kernel
theorem dL_law_1764 : decode cL_law 1764 = .ok (.ireturn, 1) := by decide +kernel
end
section
/-! ===== the words that every method may use ===== -/
def BIG : List Cond := lw_tbl.filter goodWord
theorem big_of {w : Cond} (i : Nat) (h : lw_tbl[i]? = some w) (hg : goodWord w = true) : w ∈ BIG := List.mem_filter.mpr ⟨List.mem_of_getElem? h, hg⟩
theorem BIG_good : ∀ w ∈ BIG, goodWord w = true := fun w h => (List.mem_filter.mp h).2
theorem BIG_tbl : ∀ w ∈ BIG, w ∈ lw_tbl := fun w h => (List.mem_filter.mp h).1
theorem goodIn_big {ws : List Cond} (h : ∀ w ∈ ws, w ∈ BIG) : GoodIn BIG ws := fun w hw => ⟨h w hw, good_of_word (BIG_good w (h w hw))⟩
/-! ===== the state of the class (K) and of the reference (M), by places; G: what the launch fixes ===== -/
abbrev GT : Type := va_G × (Nat → ClassId) × (Nat → Nat) × (Nat → Nat)
def tyG (G : GT) : List (ClassId × FieldType) := [(G.2.1 0, .int), (G.2.1 1, .char), (G.2.1 2, .boolean), (G.2.1 3, .long), (G.2.1 4, .object RX4)]
/-- the class's state: numbers by place and slot; the items' numbers; each item's menu; its children; the tree's row; the log's row; the shown menu; how many items; what the law's own row holds -/
abbrev KS : Type := (Nat → Nat → Int32) × (Nat → Nat → Int32) × (Nat → Option Nat) × (Nat → Nat → Option Nat) × (Nat → Option Nat) × (Nat → Option Nat) × Option Nat × Nat × Int64
/-- the reference's state: numbers by place and slot; its hash -/
abbrev MS : Type := (Nat → Nat → Int32) × Int64
def up2 {α : Type} (f : Nat → Nat → α) (p j : Nat) (v : α) : Nat → Nat → α := fun q k => if q = p ∧ k = j then v else f q k
def up1 {α : Type} (f : Nat → α) (j : Nat) (v : α) : Nat → α := fun k => if k = j then v else f k
def Khi (a : KS) : Nat → Nat → Int32 := a.1
def Kit (a : KS) : Nat → Nat → Int32 := a.2.1
def Kmn (a : KS) : Nat → Option Nat := a.2.2.1
def Kch (a : KS) : Nat → Nat → Option Nat := a.2.2.2.1
def Kti (a : KS) : Nat → Option Nat := a.2.2.2.2.1
def Klg (a : KS) : Nat → Option Nat := a.2.2.2.2.2.1
def Ksh (a : KS) : Option Nat := a.2.2.2.2.2.2.1
def Kn (a : KS) : Nat := a.2.2.2.2.2.2.2.1
def Kou (a : KS) : Int64 := a.2.2.2.2.2.2.2.2
def sKhi (a : KS) (p j : Nat) (v : Int32) : KS := (up2 a.1 p j v, a.2)
def sKit (a : KS) (i j : Nat) (v : Int32) : KS := (a.1, up2 a.2.1 i j v, a.2.2)
def sKmn (a : KS) (i : Nat) (o : Option Nat) : KS := (a.1, a.2.1, up1 a.2.2.1 i o, a.2.2.2)
def sKch (a : KS) (i j : Nat) (o : Option Nat) : KS := (a.1, a.2.1, a.2.2.1, up2 a.2.2.2.1 i j o, a.2.2.2.2)
def sKti (a : KS) (j : Nat) (o : Option Nat) : KS := (a.1, a.2.1, a.2.2.1, a.2.2.2.1, up1 a.2.2.2.2.1 j o, a.2.2.2.2.2)
def sKlg (a : KS) (j : Nat) (o : Option Nat) : KS := (a.1, a.2.1, a.2.2.1, a.2.2.2.1, a.2.2.2.2.1, up1 a.2.2.2.2.2.1 j o, a.2.2.2.2.2.2)
def sKsh (a : KS) (o : Option Nat) : KS := (a.1, a.2.1, a.2.2.1, a.2.2.2.1, a.2.2.2.2.1, a.2.2.2.2.2.1, o, a.2.2.2.2.2.2.2)
def sKou (a : KS) (v : Int64) : KS := (a.1, a.2.1, a.2.2.1, a.2.2.2.1, a.2.2.2.2.1, a.2.2.2.2.2.1, a.2.2.2.2.2.2.1, a.2.2.2.2.2.2.2.1, v)
def Mhi (b : MS) : Nat → Nat → Int32 := b.1
def Mhs (b : MS) : Int64 := b.2
def sMhi (b : MS) (p j : Nat) (v : Int32) : MS := (up2 b.1 p j v, b.2)
def sMhs (b : MS) (v : Int64) : MS := (b.1, v)
abbrev ip (i : Nat) : Nat := 2 * i + 200
abbrev cp (i : Nat) : Nat := 2 * i + 201
def itr (ad : Nat → Nat) (o : Option Nat) : Option Nat := o.map (fun i => ad (ip i))
abbrev itv (ad : Nat → Nat) (o : Option Nat) : Value := va_rf (itr ad o)
abbrev arI (c : ClassId) (n : Nat) (f : Nat → Int32) : va_E := .inl (c, n, .inl f)
abbrev arJ (c : ClassId) (n : Nat) (f : Nat → Int64) : va_E := .inl (c, n, .inr (.inl f))
abbrev arR (c : ClassId) (n : Nat) (f : Nat → Option Nat) : va_E := .inl (c, n, .inr (.inr (.inr (.inr f))))
/-- the cells of the class's fixed places -/
def celF (G : GT) (ad : Nat → Nat) (h : Nat → Int32) (ti lg : Nat → Option Nat) (sh : Option Nat) (ov : Int64) (q : Nat) : va_E := match q with
  | 0 => .inr (8, [.ref (ad 1), .ref (ad 3), .ref (ad 6), .ref (ad 8), .ref (ad 10), .ref (ad 14), .ref (ad 16)])
  | 1 => .inr (7, [.ref (ad 200), .ref (ad 2), .int (h 2)])
  | 2 => arR (G.2.1 4) 24 (fun j => itr ad (ti j))
  | 3 => .inr (3, [.ref (ad 4), .ref (ad 5), .int (h 2)])
  | 4 => arR (G.2.1 4) 8 (fun j => itr ad (lg j))
  | 5 => arI (G.2.1 0) 8 h
  | 6 => .inr (5, [.ref (ad 7), .int (h 1), .int (h 2)])
  | 7 => arI (G.2.1 0) 24 h
  | 8 => .inr (5, [.ref (ad 9), .int (h 1), .int (h 2)])
  | 9 => arI (G.2.1 0) 24 h
  | 10 => .inr (2, [.ref (ad 1), .ref (ad 3), .ref (ad 11), .ref (ad 12), .ref (ad 13), itv ad sh, .int (h 6), .int (h 7), .int (h 8), .int (h 9), .int (h 10), .int (h 11), .int (h 12)])
  | 11 => arI (G.2.1 0) 4 h
  | 12 => arI (G.2.1 0) 3 h
  | 13 => arI (G.2.1 0) 8 h
  | 14 => .inr (6, [.ref (ad 15)])
  | 15 => arI (G.2.1 1) 32 h
  | 16 => .inr (1, [.ref (ad 17), .ref (ad 18), .int (h 2), .int (h 3)])
  | 17 => arI (G.2.1 1) 60 h
  | 18 => .inr (0, [.int (h 0), .int (h 1)])
  | _ => arJ (G.2.1 3) 1 (fun _ => ov)
/-- the cells of the reference's places -/
def celM (G : GT) (ad : Nat → Nat) (h : Nat → Int32) (hs : Int64) (q : Nat) : va_E := match q with
  | 0 => .inr (9, [.int (h 0), .int (h 1), .ref (ad 102), .ref (ad 103), .ref (ad 104), .ref (ad 105), .ref (ad 106), .ref (ad 107), .ref (ad 108), .ref (ad 109), .int (h 10), .int (h 11), .int (h 12), .int (h 13), .ref (ad 114), .int (h 15), .int (h 16), .int (h 17), .int (h 18), .ref (ad 119), .ref (ad 120), .ref (ad 121), .ref (ad 122), .int (h 23), .ref (ad 124), .ref (ad 125), .ref (ad 126), .int (h 27), .int (h 28), .int (h 29), .int (h 30), .ref (ad 131), .long hs])
  | 2 => arI (G.2.1 0) 24 h
  | 3 => arI (G.2.1 0) 24 h
  | 4 => arI (G.2.1 0) 24 h
  | 5 => arI (G.2.1 0) 24 h
  | 6 => arI (G.2.1 0) 24 h
  | 7 => arI (G.2.1 0) 24 h
  | 8 => arI (G.2.1 0) 24 h
  | 9 => arI (G.2.1 2) 24 h
  | 14 => arI (G.2.1 0) 4 h
  | 19 => arI (G.2.1 0) 3 h
  | 20 => arI (G.2.1 0) 8 h
  | 21 => arI (G.2.1 0) 8 h
  | 22 => arI (G.2.1 0) 8 h
  | 24 => arI (G.2.1 0) 48 h
  | 25 => arI (G.2.1 0) 2 h
  | 26 => arI (G.2.1 0) 60 h
  | _ => arI (G.2.1 0) 16 h
/-- an item's cell (q: its place), its row of children -/
def celI (ad : Nat → Nat) (h : Nat → Int32) (mn : Option Nat) (q : Nat) : va_E := .inr (4, [.int (h 0), .int (h 1), itv ad mn, .int (h 3), .int (h 4), .int (h 5), .int (h 6), .int (h 7), .ref (ad (q + 1)), .int (h 9), .int (h 10), .int (h 11), .int (h 12)])
def celC (G : GT) (ad : Nat → Nat) (ch : Nat → Option Nat) : va_E := arR (G.2.1 4) 8 (fun j => itr ad (ch j))
def cel (G : GT) (ad : Nat → Nat) (a : KS) (b : MS) (q : Nat) : va_E :=
  if q < 100 then celF G ad (Khi a q) (Kti a) (Klg a) (Ksh a) (Kou a) q
  else if q < 200 then celM G ad (Mhi b q) (Mhs b) (q - 100)
  else if q % 2 = 0 then celI ad (Kit a ((q - 200) / 2)) (Kmn a ((q - 200) / 2)) q
  else celC G ad (Kch a ((q - 201) / 2))
def plF : List Nat := [0, 1, 2, 3, 4, 5, 6, 7, 8, 9, 10, 11, 12, 13, 14, 15, 16, 17, 18, 19, 100, 102, 103, 104, 105, 106, 107, 108, 109, 114, 119, 120, 121, 122, 124, 125, 126, 131]
/-- the places of a state with n items -/
def pls (n : Nat) : List Nat := plF ++ ((List.range n).map ip ++ (List.range n).map cp)
theorem plF_lt : ∀ q ∈ plF, q < 200 := by decide +kernel
theorem mem_plF {q n : Nat} (h : q ∈ plF) : q ∈ pls n := List.mem_append_left _ h
theorem mem_ip {i n : Nat} (h : i < n) : ip i ∈ pls n := List.mem_append_right _ (List.mem_append_left _ (List.mem_map.mpr ⟨i, List.mem_range.mpr h, rfl⟩))
theorem mem_cp {i n : Nat} (h : i < n) : cp i ∈ pls n := List.mem_append_right _ (List.mem_append_right _ (List.mem_map.mpr ⟨i, List.mem_range.mpr h, rfl⟩))
theorem pls_nd (n : Nat) : (pls n).Nodup := by
  have h1 : plF.Nodup := by decide +kernel
  have inj : ∀ (f : Nat → Nat), (∀ x y, f x = f y → x = y) → ((List.range n).map f).Nodup := by
    intro f hf
    rw [List.Nodup, List.pairwise_map]
    exact (List.nodup_range (n := n)).imp (fun h e => h (hf _ _ e))
  refine List.nodup_append.mpr ⟨h1, List.nodup_append.mpr ⟨inj ip (fun x y h => by simp only [ip] at h; omega), inj cp (fun x y h => by simp only [cp] at h; omega), ?_⟩, ?_⟩
  · intro x hx y hy e
    obtain ⟨i, -, rfl⟩ := List.mem_map.mp hx
    obtain ⟨j, -, rfl⟩ := List.mem_map.mp hy
    simp only [ip, cp] at e
    omega
  · intro x hx y hy e
    have := plF_lt x hx
    rcases List.mem_append.mp hy with h | h
    · obtain ⟨j, -, rfl⟩ := List.mem_map.mp h
      simp only [ip] at e
      omega
    · obtain ⟨j, -, rfl⟩ := List.mem_map.mp h
      simp only [cp] at e
      omega
def wd (G : GT) (ad : Nat → Nat) (a : KS) (b : MS) : va_W := (pls (Kn a)).map fun q => (ad q, cel G ad a b q)
theorem wd_get {G : GT} {ad : Nat → Nat} {a : KS} {b : MS} {q : Nat} (h : q ∈ pls (Kn a)) : ∃ k : Nat, (pls (Kn a))[k]? = some q ∧ (wd G ad a b)[k]? = some (ad q, cel G ad a b q) := by
  obtain ⟨k, hk⟩ := List.getElem?_of_mem h
  exact ⟨k, hk, by simp [wd, hk]⟩
theorem wd_mem {G : GT} {ad : Nat → Nat} {a : KS} {b : MS} {k : Nat} {q : Nat × va_E} (h : (wd G ad a b)[k]? = some q) : ∃ z, z ∈ pls (Kn a) ∧ q = (ad z, cel G ad a b z) := by
  have h1 := List.mem_of_getElem? h
  obtain ⟨z, hz, e⟩ := List.mem_map.mp h1
  exact ⟨z, hz, e.symm⟩
theorem map_set_nd {α β : Type} {L : List α} (hn : L.Nodup) {k : Nat} {q : α} (hk : L[k]? = some q) (f g : α → β) (e : β) (hq : e = g q) (ho : ∀ z, z ≠ q → f z = g z) : (L.map f).set k e = L.map g := by
  apply List.ext_getElem?
  intro i
  rw [List.getElem?_set, List.getElem?_map, List.getElem?_map]
  have hlt : k < L.length := (List.getElem?_eq_some_iff.mp hk).1
  by_cases hi : k = i
  · subst hi
    have e1 : L[k] = q := (List.getElem?_eq_some_iff.mp hk).2
    simp [hlt, hq, e1]
  · rw [if_neg hi]
    cases hz : L[i]? with
    | none => rfl
    | some z =>
      have : z ≠ q := by
        intro e1
        subst e1
        exact hi ((List.getElem?_inj hlt hn).mp (hk.trans hz.symm))
      simp [ho z this]
/-- one cell changes -/
theorem wd_set {G : GT} {ad : Nat → Nat} {a a' : KS} {b b' : MS} {k q : Nat} {e : va_E} (hk : (pls (Kn a))[k]? = some q) (hn : Kn a' = Kn a) (hq : e = cel G ad a' b' q) (ho : ∀ z, z ≠ q → cel G ad a b z = cel G ad a' b' z) : (wd G ad a b).set k (ad q, e) = wd G ad a' b' := by
  unfold wd
  rw [hn]
  exact map_set_nd (pls_nd _) hk _ (fun z => (ad z, cel G ad a' b' z)) _ (by rw [hq]) (fun z hz => by rw [ho z hz])
/-- the law's footprint: the cells of the places, and what is new -/
def FP (ad : Nat → Nat) (n sz : Nat) : Nat → Prop := fun q => (∃ z, z ∈ pls n ∧ q = ad z) ∨ sz ≤ q
theorem wd_lt {G : GT} {ad : Nat → Nat} {a : KS} {b : MS} {H : Heap} (hP : va_P G.1 vwCl (wd G ad a b) H) {z : Nat} (hz : z ∈ pls (Kn a)) : ad z < H.size := by
  obtain ⟨k, -, hk⟩ := wd_get (G := G) (ad := ad) (b := b) hz
  exact va_at.lt (hP k _ hk)
theorem FP_le {G : GT} {ad : Nat → Nat} {a : KS} {b : MS} {A : Nat → Prop} (hD : va_D A (wd G ad a b)) {sz : Nat} (hA : ∀ q, sz ≤ q → A q) : ∀ q, FP ad (Kn a) sz q → A q := by
  intro q hq
  rcases hq with ⟨z, hz, rfl⟩ | h
  · obtain ⟨k, -, hk⟩ := wd_get (G := G) (ad := ad) (b := b) hz
    exact hD.2 k _ hk
  · exact hA q h
theorem wd_DF {G : GT} {ad : Nat → Nat} {a : KS} {b : MS} {A : Nat → Prop} (hD : va_D A (wd G ad a b)) (sz : Nat) : va_D (FP ad (Kn a) sz) (wd G ad a b) := by
  refine hD.weaken ?_
  intro k q hk _
  obtain ⟨z, hz, rfl⟩ := wd_mem hk
  exact Or.inl ⟨z, hz, rfl⟩
/-- addresses of different places differ -/
theorem wd_inj {G : GT} {ad : Nat → Nat} {a : KS} {b : MS} {A : Nat → Prop} (hD : va_D A (wd G ad a b)) {z w : Nat} (hz : z ∈ pls (Kn a)) (hw : w ∈ pls (Kn a)) (e : ad z = ad w) : z = w := by
  obtain ⟨k, hk, hk'⟩ := wd_get (G := G) (ad := ad) (b := b) hz
  obtain ⟨j, hj, hj'⟩ := wd_get (G := G) (ad := ad) (b := b) hw
  have := hD.1 k j _ _ hk' hj' e
  subst this
  exact Option.some.inj (hk.symm.trans hj)
/-! what the cells are, place by place -/
theorem cel_item {G : GT} {ad : Nat → Nat} {a : KS} {b : MS} (i : Nat) : cel G ad a b (ip i) = celI ad (Kit a i) (Kmn a i) (ip i) := by
  have e : (ip i - 200) / 2 = i := by simp only [ip]; omega
  unfold cel
  rw [if_neg (by simp only [ip]; omega), if_neg (by simp only [ip]; omega), if_pos (by simp only [ip]; omega), e]
theorem cel_chil {G : GT} {ad : Nat → Nat} {a : KS} {b : MS} (i : Nat) : cel G ad a b (cp i) = celC G ad (Kch a i) := by
  have e : (cp i - 201) / 2 = i := by simp only [cp]; omega
  unfold cel
  rw [if_neg (by simp only [cp]; omega), if_neg (by simp only [cp]; omega), if_neg (by simp only [cp]; omega), e]
theorem cel_m {G : GT} {ad : Nat → Nat} {a : KS} {b : MS} (k : Nat) (h : k < 100) : cel G ad a b (100 + k) = celM G ad (Mhi b (100 + k)) (Mhs b) k := by
  have e : 100 + k - 100 = k := by omega
  unfold cel
  rw [if_neg (by omega), if_pos (by omega), e]
theorem cel_f {G : GT} {ad : Nat → Nat} {a : KS} {b : MS} (k : Nat) (h : k < 100) : cel G ad a b k = celF G ad (Khi a k) (Kti a) (Klg a) (Ksh a) (Kou a) k := by
  unfold cel
  rw [if_pos h]
theorem up2_ne {α : Type} {f : Nat → Nat → α} {p j q : Nat} {v : α} (h : q ≠ p) : up2 f p j v q = f q := by
  funext k
  simp [up2, h]
theorem up2_eq {α : Type} {f : Nat → Nat → α} {p j : Nat} {v : α} : up2 f p j v p = up1 (f p) j v := by
  funext k
  simp [up2, up1]
/-- cells other than the one that is written -/
theorem cel_khi {G : GT} {ad : Nat → Nat} {a : KS} {b : MS} {p j : Nat} {v : Int32} {z : Nat} (h : z ≠ p) : cel G ad a b z = cel G ad (sKhi a p j v) b z := by
  have e : Khi (sKhi a p j v) z = Khi a z := up2_ne h
  unfold cel
  rw [e]
  rfl
theorem cel_mhi {G : GT} {ad : Nat → Nat} {a : KS} {b : MS} {p j : Nat} {v : Int32} {z : Nat} (h : z ≠ p) : cel G ad a b z = cel G ad a (sMhi b p j v) z := by
  have e : Mhi (sMhi b p j v) z = Mhi b z := up2_ne h
  unfold cel
  rw [e]
  rfl
theorem cel_kit {G : GT} {ad : Nat → Nat} {a : KS} {b : MS} {i j : Nat} {v : Int32} {z : Nat} (h : z ≠ ip i) : cel G ad a b z = cel G ad (sKit a i j v) b z := by
  unfold cel
  by_cases h1 : z < 100
  · rw [if_pos h1, if_pos h1]; rfl
  rw [if_neg h1, if_neg h1]
  by_cases h2 : z < 200
  · rw [if_pos h2, if_pos h2]
  rw [if_neg h2, if_neg h2]
  by_cases h3 : z % 2 = 0
  · have e : Kit (sKit a i j v) ((z - 200) / 2) = Kit a ((z - 200) / 2) := up2_ne (by simp only [ip] at h; omega)
    rw [if_pos h3, if_pos h3, e]; rfl
  · rw [if_neg h3, if_neg h3]; rfl
theorem cel_kch {G : GT} {ad : Nat → Nat} {a : KS} {b : MS} {i j : Nat} {v : Option Nat} {z : Nat} (h : z ≠ cp i) : cel G ad a b z = cel G ad (sKch a i j v) b z := by
  unfold cel
  by_cases h1 : z < 100
  · rw [if_pos h1, if_pos h1]; rfl
  rw [if_neg h1, if_neg h1]
  by_cases h2 : z < 200
  · rw [if_pos h2, if_pos h2]
  rw [if_neg h2, if_neg h2]
  by_cases h3 : z % 2 = 0
  · rw [if_pos h3, if_pos h3]; rfl
  · have e : Kch (sKch a i j v) ((z - 201) / 2) = Kch a ((z - 201) / 2) := up2_ne (by simp only [cp] at h; omega)
    rw [if_neg h3, if_neg h3, e]
/-! ===== the launch's strings and the throwables' statics, that no walk writes ===== -/
def scrI : List Nat := [28, 41, 99, 101, 103, 112]
def scrT : List String := ["EDIT ", "CODE ", "MENU ", "NUMBER ", "CHOICE ", "BACK"]
def scrN : List Nat := [5, 5, 5, 7, 7, 4]
def scrB : List (List Int32) := [[69, 68, 73, 84, 32], [67, 79, 68, 69, 32], [77, 69, 78, 85, 32], [78, 85, 77, 66, 69, 82, 32], [67, 72, 79, 73, 67, 69, 32], [66, 65, 67, 75]]
def excL : List (Nat × String) := [(321, "there is no such item"), (323, "the item is not a menu"), (68, "the menu is too deep for another menu"), (327, "the device is not at home"), (331, "there are 24 items"), (336, "the menu has 8 items"), (79, "a limit is out of range"), (82, "step is out of range"), (84, "options is out of range"), (93, "the root has no lock"), (95, "code is out of range"), (117, "a menu has no value"), (329, "detents is out of range"), (141, "ticks is out of range"), (148, "there is no such setting"), (157, "value is out of range"), (170, "the log is empty"), (325, "there is no such preset"), (194, "the preset is empty"), (227, "there is no such line or column"), (237, "there is no such event"), (263, "the buffer is full"), (278, "the buffer is not a complete action text")]
def EVs (G : GT) (A : Nat → Prop) (U : State) (H : Heap) : Prop := ∀ i, i < 6 → va_O "java/lang/String" (G.2.2.1 i) A U H ∧ va_OF "java/lang/String" "coder" "B" (.int 0) (G.2.2.1 i) A U H ∧ va_OF "java/lang/String" "value" "[B" (.ref (G.2.2.2 i)) (G.2.2.1 i) A U H ∧ va_T .byte (G.2.2.2 i) (scrN.getD i 0) (fun j => .int ((scrB.getD i []).getD j 0)) A U H
def EVr (G : GT) (U : State) : Prop := ∀ i, i < 6 → vk_R RX6 (scrI.getD i 0) (scrT.getD i "") (G.2.2.1 i) U
def EVx (U : State) : Prop := ∀ q ∈ excL, ∃ sa : Nat, vk_R RX8 q.1 q.2 sa U
def EVz (A : Nat → Prop) (U : State) (H : Heap) : Prop := vx_Zq Bundle.tN "UNASSIGNED_STACK" Bundle.steD A U H ∧ vx_Zq Bundle.tN "SUPPRESSED_SENTINEL" Bundle.listD A U H
/-- of the three exceptions none is a kind of another -/
def exN (k : Nat) : String := if k = 1 then "java/lang/IndexOutOfBoundsException" else if k = 2 then "java/lang/IllegalArgumentException" else "java/lang/IllegalStateException"
def EVn (U : State) : Prop := va_Nc (exN 1) (exN 2) U ∧ va_Nc (exN 1) (exN 3) U ∧ va_Nc (exN 2) (exN 1) U ∧ va_Nc (exN 2) (exN 3) U ∧ va_Nc (exN 3) (exN 1) U ∧ va_Nc (exN 3) (exN 2) U
def EV (G : GT) (A : Nat → Prop) (U : State) (H : Heap) : Prop := EVs G A U H ∧ EVr G U ∧ EVx U ∧ EVz A U H ∧ EVn U
theorem EV.mv {G : GT} {A : Nat → Prop} {u U : State} {H : Heap} (hvm : u.vm.Alike U.vm) (hR : ∀ own k tx a, vk_R own k tx a u → vk_R own k tx a U) (h : EV G A u H) : EV G A U H := by
  obtain ⟨h1, h2, h3, ⟨h4, h5⟩, n1, n2, n3, n4, n5, n6⟩ := h
  refine ⟨fun i hi => ?_, fun i hi => hR _ _ _ _ (h2 i hi), fun q hq => ?_, ⟨h4.moved hvm, h5.moved hvm⟩, n1.moved hvm, n2.moved hvm, n3.moved hvm, n4.moved hvm, n5.moved hvm, n6.moved hvm⟩
  · obtain ⟨a1, a2, a3, a4⟩ := h1 i hi
    exact ⟨a1.moved hvm, a2.moved hvm, a3.moved hvm, a4.moved hvm⟩
  · obtain ⟨sa, h⟩ := h3 q hq
    exact ⟨sa, hR _ _ _ _ h⟩
theorem EV.kn {G : GT} {A B : Nat → Prop} {U : State} {H H1 : Heap} (hq : ∀ a : Nat, a < H.size → ¬ A a → H1[a]? = H[a]?) (hAB : ∀ q, B q → A q) (h : EV G A U H) : EV G B U H1 := by
  obtain ⟨h1, h2, h3, ⟨h4, h5⟩, h6⟩ := h
  refine ⟨fun i hi => ?_, h2, h3, ⟨(h4.kept hq).narrow hAB, (h5.kept hq).narrow hAB⟩, h6⟩
  obtain ⟨a1, a2, a3, a4⟩ := h1 i hi
  exact ⟨(a1.kept hq).narrow hAB, (a2.kept hq).narrow hAB, (a3.kept hq).narrow hAB, (a4.kept hq).narrow hAB⟩
/-! ===== contracts over the world ===== -/
def PreW (G : GT) (ad : Nat → Nat) (a : KS) (b : MS) (sz : Nat) (U : State) : Prop := U.heap.size = sz ∧ va_P G.1 vwCl (wd G ad a b) U.heap ∧ va_K G.1 vwCl (tyG G) U ∧ va_D (fun _ => True) (wd G ad a b) ∧ EV G (FP ad (Kn a) sz) U U.heap
def PosW (G : GT) (ad : Nat → Nat) (a : KS) (b : MS) (A : Nat → Prop) (t : State) : Prop := va_P G.1 vwCl (wd G ad a b) t.heap ∧ va_D A (wd G ad a b)
def QV (v : Option Value) (B : State → Prop) (A : Nat → Prop) : Array Value → State → Outcome → State → Prop := fun _ st oc t => oc = .returned v ∧ B t ∧ va_F A st t
theorem pre_blind {G : GT} {ad : Nat → Nat} {a : KS} {b : MS} {sz : Nat} {av : List Value} : FrameBlind (va_Pc av (PreW G ad a b sz)) := by
  intro x U g mk q
  obtain ⟨q0, q1, qP, qK, qD, qE⟩ := q
  exact ⟨q0, q1, qP, va_K.moved (u := U) (U := U.calling g mk x) (Vm.Alike.refl U.vm) qK, qD, qE.mv (U := U.calling g mk x) (Vm.Alike.refl U.vm) (fun own k tx a h => vk_R.same (U := U.calling g mk x) rfl h)⟩
/-- the contract of a method that returns: called with av over the state (a, b), it answers v and leaves (a', b') -/
def MT (l : Launch) (G : GT) (y : MethodName) (cc : ByteArray) (nL : Nat) (ret : Option FieldType) (rm : Room) (av : List Value) (ad : Nat → Nat) (a : KS) (b : MS) (v : Option Value) (a' : KS) (b' : MS) : Prop :=
  Kn a' = Kn a ∧ ∀ sz : Nat, Met l y (Cond.code y cc nL ret :: BIG) rm (va_Pc av (PreW G ad a b sz)) (QV v (PosW G ad a' b' (FP ad (Kn a) sz)) (FP ad (Kn a) sz)) rm.cells rm.slots (FP ad (Kn a) sz)
/-- what a walk may use of its method -/
def CX (G : GT) (A : Nat → Prop) (own : String) (cc : ByteArray) (nL : Nat) (p : Program) (s : State) (m : MethodId) (args : Array Value) (c : Code) : Prop :=
  p.tables.exec = Jvm.exec ∧ c.code = cc ∧ c.maxLocals = nL ∧ s.vm.findClass own = some m.cls ∧ (∀ w ∈ BIG, w.before args s = true) ∧ va_K G.1 vwCl (tyG G) s ∧ (∀ q, s.heap.size ≤ q → A q) ∧ EV G A s s.heap
/-- the walk's judgement: from this place of the code, with these locals, this stack and this state of the world, the machine comes to Q -/
def J (p : Program) (l : Launch) (e : Env) (R : Room) (s : State) (m : MethodId) (args : Array Value) (below : List Frame) (meth : Method) (c : Code) (G : GT) (A : Nat → Prop) (nL : Nat) (Q : State → Prop) (k n : Nat) (ad : Nat → Nat) (a : KS) (b : MS) (pc : Nat) (lv : List (Nat × Value)) (st : List Value) : Prop :=
  ∀ (H : Heap) (locs : List Loc) (ls : Array Slot), va_P G.1 vwCl (wd G ad a b) H → va_D A (wd G ad a b) → va_S A s.heap H locs → lv_has ls nL lv → W p l e R s m args below meth c H locs k n Q (F0 m pc ls st)
set_option maxHeartbeats 4000000 in
theorem MT_of {l : Launch} {G : GT} {y : MethodName} {cc : ByteArray} {nL : Nat} {ret : Option FieldType} {rm : Room} {av : List Value} {ad : Nat → Nat} {a a' : KS} {b b' : MS} {v : Option Value} (hy : plainName y.cls = true) (hlen : (lg_sl av).length ≤ nL) (hn : Kn a' = Kn a)
    (body : ∀ (p : Program) (e : Env) (s : State) (m : MethodId) (args : Array Value) (below : List Frame) (meth : Method) (c : Code) (A : Nat → Prop), CX G A y.cls cc nL p s m args c → meth.sig.returnType = ret → meth.locks = false →
      J p l e rm s m args below meth c G A nL (MQ below (QV v (PosW G ad a' b' A) A) args s rm.cells rm.slots A) 0 0 ad a b 0 (lv_args 0 av) []) : MT l G y cc nL ret rm av ad a b v a' b' := by
  refine ⟨hn, fun sz => ?_⟩
  refine Met.ofW (cc := cc) (maxL := nL) (ret := ret) hy rfl ?_
  intro p e s m args below meth c s₁ B hml hv
  obtain ⟨rfl, rfl, hP, hK, hD, hE⟩ := hv
  have hts : ∀ w ∈ (Cond.code y cc nL ret :: BIG), w.before _ s = true := atoms_spec (ws := Cond.code y cc nL ret :: BIG) B.pre
  have hown : s.vm.findClass y.cls = some m.cls := findClass_of_methodNamed B.named
  have hl := lv_entry av (n := nL) hlen
  rw [lg_entry_eq]
  exact body p e s m _ below meth c _ ⟨B.exec, B.bytes, hml, hown, fun w h => hts w (List.mem_cons_of_mem _ h), hK, fun q h => Or.inr h, hE⟩ B.returns B.notSynchronized s.heap [] _ hP (wd_DF hD _) va_S.rf hl
end
section
section JR
variable {p : Program} {l : Launch} {e : Env} {R : Room} {s : State} {m : MethodId} {args : Array Value} {below : List Frame} {meth : Method} {c : Code} {G : GT} {A : Nat → Prop} {nL : Nat} {Q : State → Prop} {k n : Nat} {ad : Nat → Nat} {a : KS} {b : MS} {own : String} {cc : ByteArray} {pc : Nat} {lv : List (Nat × Value)} {st : List Value}
/-! what a decompiled method may ask -/
def inb (i : Int32) (N : Nat) : Bool := decide (0 ≤ i.toInt ∧ i.toInt < N)
def okr (N : Nat) (o : Option Nat) : Bool := match o with
  | none => true
  | some i => decide (i < N)
def gd {α : Type} (t : Bool) (x : Option α) : Option α := if t = true then x else none
def odr {α : Type} (N : Nat) (o : Option Nat) (f : Nat → Option α) : Option α := match o with
  | none => none
  | some i => if i < N then f i else none
def ocs {α : Type} (o : Option Nat) (f : α) (g : Nat → α) : α := match o with
  | none => f
  | some i => g i
theorem gd_some {α : Type} {t : Bool} {x : Option α} {r : α} (h : gd t x = some r) : t = true ∧ x = some r := by
  unfold gd at h
  split at h
  · exact ⟨by assumption, h⟩
  · cases h
theorem odr_some {α : Type} {N : Nat} {o : Option Nat} {f : Nat → Option α} {r : α} (h : odr N o f = some r) : ∃ i, o = some i ∧ i < N ∧ f i = some r := by
  cases o with
  | none => cases h
  | some i =>
    have h : (if i < N then f i else none) = some r := h
    by_cases hi : i < N
    · rw [if_pos hi] at h
      exact ⟨i, rfl, hi, h⟩
    · rw [if_neg hi] at h
      cases h
theorem bnd_some {α β : Type} {x : Option α} {f : α → Option β} {r : β} (h : x.bind f = some r) : ∃ y, x = some y ∧ f y = some r := Option.bind_eq_some_iff.mp h
theorem inb_in {i : Int32} {N : Nat} (h : inb i N = true) : vp_in i N := by
  have h1 := of_decide_eq_true h
  exact vp_in_iff.mpr h1

theorem j_iconst (C : CX G A own cc nL p s m args c) {z : Int} {v : Int32} (hv : Int32.ofInt z = v) (d : decode cc pc = .ok (.iconst z, 1)) (kk : J p l e R s m args below meth c G A nL Q k n ad a b (pc + 1) (lv) (.int v :: st)) : J p l e R s m args below meth c G A nL Q k n ad a b (pc) (lv) (st) := fun H locs ls hP hD hS hl => lv_iconst C.1 C.2.1 d hv (kk H locs ls hP hD hS hl)
theorem j_bipush (C : CX G A own cc nL p s m args c) {z : Int} {v : Int32} (hv : (Int8.ofInt z).toInt32 = v) (d : decode cc pc = .ok (.bipush z, 2)) (kk : J p l e R s m args below meth c G A nL Q k n ad a b (pc + 2) (lv) (.int v :: st)) : J p l e R s m args below meth c G A nL Q k n ad a b (pc) (lv) (st) := fun H locs ls hP hD hS hl => lv_bipush C.1 C.2.1 d hv (kk H locs ls hP hD hS hl)
theorem j_sipush (C : CX G A own cc nL p s m args c) {z : Int} {v : Int32} (hv : (Int16.ofInt z).toInt32 = v) (d : decode cc pc = .ok (.sipush z, 3)) (kk : J p l e R s m args below meth c G A nL Q k n ad a b (pc + 3) (lv) (.int v :: st)) : J p l e R s m args below meth c G A nL Q k n ad a b (pc) (lv) (st) := fun H locs ls hP hD hS hl => lv_sipush C.1 C.2.1 d hv (kk H locs ls hP hD hS hl)
theorem j_lconst (C : CX G A own cc nL p s m args c) {z : Fin 2} {v : Int64} (hv : Int64.ofNat (z : Nat) = v) (d : decode cc pc = .ok (.lconst z, 1)) (kk : J p l e R s m args below meth c G A nL Q k n ad a b (pc + 1) (lv) (.long v :: st)) : J p l e R s m args below meth c G A nL Q k n ad a b (pc) (lv) (st) := fun H locs ls hP hD hS hl => lv_lconst C.1 C.2.1 d hv (kk H locs ls hP hD hS hl)
theorem j_fconst0 (C : CX G A own cc nL p s m args c)  (d : decode cc pc = .ok (.fconst 0, 1)) (kk : J p l e R s m args below meth c G A nL Q k n ad a b (pc + 1) (lv) (.float FP.fconst0 :: st)) : J p l e R s m args below meth c G A nL Q k n ad a b (pc) (lv) (st) := fun H locs ls hP hD hS hl => lv_fconst0 C.1 C.2.1 d (kk H locs ls hP hD hS hl)
theorem j_fconst1 (C : CX G A own cc nL p s m args c)  (d : decode cc pc = .ok (.fconst 1, 1)) (kk : J p l e R s m args below meth c G A nL Q k n ad a b (pc + 1) (lv) (.float FP.fconst1 :: st)) : J p l e R s m args below meth c G A nL Q k n ad a b (pc) (lv) (st) := fun H locs ls hP hD hS hl => lv_fconst1 C.1 C.2.1 d (kk H locs ls hP hD hS hl)
theorem j_fconst2 (C : CX G A own cc nL p s m args c)  (d : decode cc pc = .ok (.fconst 2, 1)) (kk : J p l e R s m args below meth c G A nL Q k n ad a b (pc + 1) (lv) (.float FP.fconst2 :: st)) : J p l e R s m args below meth c G A nL Q k n ad a b (pc) (lv) (st) := fun H locs ls hP hD hS hl => lv_fconst2 C.1 C.2.1 d (kk H locs ls hP hD hS hl)
theorem j_dconst0 (C : CX G A own cc nL p s m args c)  (d : decode cc pc = .ok (.dconst 0, 1)) (kk : J p l e R s m args below meth c G A nL Q k n ad a b (pc + 1) (lv) (.double FP.dconst0 :: st)) : J p l e R s m args below meth c G A nL Q k n ad a b (pc) (lv) (st) := fun H locs ls hP hD hS hl => lv_dconst0 C.1 C.2.1 d (kk H locs ls hP hD hS hl)
theorem j_null (C : CX G A own cc nL p s m args c)  (d : decode cc pc = .ok (.aconst_null, 1)) (kk : J p l e R s m args below meth c G A nL Q k n ad a b (pc + 1) (lv) (.null :: st)) : J p l e R s m args below meth c G A nL Q k n ad a b (pc) (lv) (st) := fun H locs ls hP hD hS hl => lv_null C.1 C.2.1 d (kk H locs ls hP hD hS hl)
theorem j_iload_n (C : CX G A own cc nL p s m args c) {kf : Fin 4} {x : Int32} (q : Nat) (hq : lv[q]? = some ((kf : Nat), .int x)) (d : decode cc pc = .ok (.iload_n kf, 1)) (kk : J p l e R s m args below meth c G A nL Q k n ad a b (pc + 1) (lv) (.int x :: st)) : J p l e R s m args below meth c G A nL Q k n ad a b (pc) (lv) (st) := fun H locs ls hP hD hS hl => lv_iload_n C.1 C.2.1 d rfl (lv_at hl q hq) (kk H locs ls hP hD hS hl)
theorem j_iload (C : CX G A own cc nL p s m args c) {i : Nat} {x : Int32} (q : Nat) (hq : lv[q]? = some (i, .int x)) (d : decode cc pc = .ok (.iload i, 2)) (kk : J p l e R s m args below meth c G A nL Q k n ad a b (pc + 2) (lv) (.int x :: st)) : J p l e R s m args below meth c G A nL Q k n ad a b (pc) (lv) (st) := fun H locs ls hP hD hS hl => lv_iload C.1 C.2.1 d (lv_at hl q hq) (kk H locs ls hP hD hS hl)
theorem j_lload_n (C : CX G A own cc nL p s m args c) {kf : Fin 4} {x : Int64} (q : Nat) (hq : lv[q]? = some ((kf : Nat), .long x)) (d : decode cc pc = .ok (.lload_n kf, 1)) (kk : J p l e R s m args below meth c G A nL Q k n ad a b (pc + 1) (lv) (.long x :: st)) : J p l e R s m args below meth c G A nL Q k n ad a b (pc) (lv) (st) := fun H locs ls hP hD hS hl => lv_lload_n C.1 C.2.1 d rfl (lv_at hl q hq) (kk H locs ls hP hD hS hl)
theorem j_lload (C : CX G A own cc nL p s m args c) {i : Nat} {x : Int64} (q : Nat) (hq : lv[q]? = some (i, .long x)) (d : decode cc pc = .ok (.lload i, 2)) (kk : J p l e R s m args below meth c G A nL Q k n ad a b (pc + 2) (lv) (.long x :: st)) : J p l e R s m args below meth c G A nL Q k n ad a b (pc) (lv) (st) := fun H locs ls hP hD hS hl => lv_lload C.1 C.2.1 d (lv_at hl q hq) (kk H locs ls hP hD hS hl)
theorem j_fload_n (C : CX G A own cc nL p s m args c) {kf : Fin 4} {x : UInt32} (q : Nat) (hq : lv[q]? = some ((kf : Nat), .float x)) (d : decode cc pc = .ok (.fload_n kf, 1)) (kk : J p l e R s m args below meth c G A nL Q k n ad a b (pc + 1) (lv) (.float x :: st)) : J p l e R s m args below meth c G A nL Q k n ad a b (pc) (lv) (st) := fun H locs ls hP hD hS hl => lv_fload_n C.1 C.2.1 d rfl (lv_at hl q hq) (kk H locs ls hP hD hS hl)
theorem j_fload (C : CX G A own cc nL p s m args c) {i : Nat} {x : UInt32} (q : Nat) (hq : lv[q]? = some (i, .float x)) (d : decode cc pc = .ok (.fload i, 2)) (kk : J p l e R s m args below meth c G A nL Q k n ad a b (pc + 2) (lv) (.float x :: st)) : J p l e R s m args below meth c G A nL Q k n ad a b (pc) (lv) (st) := fun H locs ls hP hD hS hl => lv_fload C.1 C.2.1 d (lv_at hl q hq) (kk H locs ls hP hD hS hl)
theorem j_dload_n (C : CX G A own cc nL p s m args c) {kf : Fin 4} {x : UInt64} (q : Nat) (hq : lv[q]? = some ((kf : Nat), .double x)) (d : decode cc pc = .ok (.dload_n kf, 1)) (kk : J p l e R s m args below meth c G A nL Q k n ad a b (pc + 1) (lv) (.double x :: st)) : J p l e R s m args below meth c G A nL Q k n ad a b (pc) (lv) (st) := fun H locs ls hP hD hS hl => lv_dload_n C.1 C.2.1 d rfl (lv_at hl q hq) (kk H locs ls hP hD hS hl)
theorem j_dload (C : CX G A own cc nL p s m args c) {i : Nat} {x : UInt64} (q : Nat) (hq : lv[q]? = some (i, .double x)) (d : decode cc pc = .ok (.dload i, 2)) (kk : J p l e R s m args below meth c G A nL Q k n ad a b (pc + 2) (lv) (.double x :: st)) : J p l e R s m args below meth c G A nL Q k n ad a b (pc) (lv) (st) := fun H locs ls hP hD hS hl => lv_dload C.1 C.2.1 d (lv_at hl q hq) (kk H locs ls hP hD hS hl)
theorem j_aload_n (C : CX G A own cc nL p s m args c) {kf : Fin 4} {x : Nat} (q : Nat) (hq : lv[q]? = some ((kf : Nat), .ref x)) (d : decode cc pc = .ok (.aload_n kf, 1)) (kk : J p l e R s m args below meth c G A nL Q k n ad a b (pc + 1) (lv) (.ref x :: st)) : J p l e R s m args below meth c G A nL Q k n ad a b (pc) (lv) (st) := fun H locs ls hP hD hS hl => lv_aload_n C.1 C.2.1 d rfl (lv_at hl q hq) (kk H locs ls hP hD hS hl)
theorem j_aload (C : CX G A own cc nL p s m args c) {i : Nat} {x : Nat} (q : Nat) (hq : lv[q]? = some (i, .ref x)) (d : decode cc pc = .ok (.aload i, 2)) (kk : J p l e R s m args below meth c G A nL Q k n ad a b (pc + 2) (lv) (.ref x :: st)) : J p l e R s m args below meth c G A nL Q k n ad a b (pc) (lv) (st) := fun H locs ls hP hD hS hl => lv_aload C.1 C.2.1 d (lv_at hl q hq) (kk H locs ls hP hD hS hl)
theorem j_aload_nq (C : CX G A own cc nL p s m args c) {kf : Fin 4} {o : Option Nat} (q : Nat) (hq : lv[q]? = some ((kf : Nat), itv ad o)) (d : decode cc pc = .ok (.aload_n kf, 1)) (kk : J p l e R s m args below meth c G A nL Q k n ad a b (pc + 1) (lv) (itv ad o :: st)) : J p l e R s m args below meth c G A nL Q k n ad a b (pc) (lv) (st) := fun H locs ls hP hD hS hl => by
  cases o with
  | none => exact lv_aload_nN C.1 C.2.1 d rfl (lv_at hl q hq) (kk H locs ls hP hD hS hl)
  | some i => exact lv_aload_n C.1 C.2.1 d rfl (lv_at hl q hq) (kk H locs ls hP hD hS hl)
theorem j_aloadq (C : CX G A own cc nL p s m args c) {i : Nat} {o : Option Nat} (q : Nat) (hq : lv[q]? = some (i, itv ad o)) (d : decode cc pc = .ok (.aload i, 2)) (kk : J p l e R s m args below meth c G A nL Q k n ad a b (pc + 2) (lv) (itv ad o :: st)) : J p l e R s m args below meth c G A nL Q k n ad a b (pc) (lv) (st) := fun H locs ls hP hD hS hl => by
  cases o with
  | none => exact lv_aloadN C.1 C.2.1 d (lv_at hl q hq) (kk H locs ls hP hD hS hl)
  | some i => exact lv_aload C.1 C.2.1 d (lv_at hl q hq) (kk H locs ls hP hD hS hl)
theorem j_istore_n (C : CX G A own cc nL p s m args c) {kf : Fin 4} {i : Nat} {x : Int32} {lv' : List (Nat × Value)} (d : decode cc pc = .ok (.istore_n kf, 1)) (hi : (kf : Nat) = i) (hn : i < nL) (hlv : (i, Value.int x) :: lv.filter (fun q => !(q.1 == i) && !(q.1 + 1 == i && q.2.category == 2)) = lv') (kk : J p l e R s m args below meth c G A nL Q k n ad a b (pc + 1) (lv') (st)) : J p l e R s m args below meth c G A nL Q k n ad a b (pc) (lv) (.int x :: st) := fun H locs ls hP hD hS hl => lv_istore_n C.1 C.2.1 d hi hl hn hlv (fun ls' hl' => kk H locs ls' hP hD hS hl')
theorem j_istore (C : CX G A own cc nL p s m args c) {i : Nat} {x : Int32} {lv' : List (Nat × Value)} (d : decode cc pc = .ok (.istore i, 2)) (hn : i < nL) (hlv : (i, Value.int x) :: lv.filter (fun q => !(q.1 == i) && !(q.1 + 1 == i && q.2.category == 2)) = lv') (kk : J p l e R s m args below meth c G A nL Q k n ad a b (pc + 2) (lv') (st)) : J p l e R s m args below meth c G A nL Q k n ad a b (pc) (lv) (.int x :: st) := fun H locs ls hP hD hS hl => lv_istore C.1 C.2.1 d hl hn hlv (fun ls' hl' => kk H locs ls' hP hD hS hl')
theorem j_fstore_n (C : CX G A own cc nL p s m args c) {kf : Fin 4} {i : Nat} {x : UInt32} {lv' : List (Nat × Value)} (d : decode cc pc = .ok (.fstore_n kf, 1)) (hi : (kf : Nat) = i) (hn : i < nL) (hlv : (i, Value.float x) :: lv.filter (fun q => !(q.1 == i) && !(q.1 + 1 == i && q.2.category == 2)) = lv') (kk : J p l e R s m args below meth c G A nL Q k n ad a b (pc + 1) (lv') (st)) : J p l e R s m args below meth c G A nL Q k n ad a b (pc) (lv) (.float x :: st) := fun H locs ls hP hD hS hl => lv_fstore_n C.1 C.2.1 d hi hl hn hlv (fun ls' hl' => kk H locs ls' hP hD hS hl')
theorem j_fstore (C : CX G A own cc nL p s m args c) {i : Nat} {x : UInt32} {lv' : List (Nat × Value)} (d : decode cc pc = .ok (.fstore i, 2)) (hn : i < nL) (hlv : (i, Value.float x) :: lv.filter (fun q => !(q.1 == i) && !(q.1 + 1 == i && q.2.category == 2)) = lv') (kk : J p l e R s m args below meth c G A nL Q k n ad a b (pc + 2) (lv') (st)) : J p l e R s m args below meth c G A nL Q k n ad a b (pc) (lv) (.float x :: st) := fun H locs ls hP hD hS hl => lv_fstore C.1 C.2.1 d hl hn hlv (fun ls' hl' => kk H locs ls' hP hD hS hl')
theorem j_astore_n (C : CX G A own cc nL p s m args c) {kf : Fin 4} {i : Nat} {x : Nat} {lv' : List (Nat × Value)} (d : decode cc pc = .ok (.astore_n kf, 1)) (hi : (kf : Nat) = i) (hn : i < nL) (hlv : (i, Value.ref x) :: lv.filter (fun q => !(q.1 == i) && !(q.1 + 1 == i && q.2.category == 2)) = lv') (kk : J p l e R s m args below meth c G A nL Q k n ad a b (pc + 1) (lv') (st)) : J p l e R s m args below meth c G A nL Q k n ad a b (pc) (lv) (.ref x :: st) := fun H locs ls hP hD hS hl => lv_astore_n C.1 C.2.1 d hi hl hn hlv (fun ls' hl' => kk H locs ls' hP hD hS hl')
theorem j_astore (C : CX G A own cc nL p s m args c) {i : Nat} {x : Nat} {lv' : List (Nat × Value)} (d : decode cc pc = .ok (.astore i, 2)) (hn : i < nL) (hlv : (i, Value.ref x) :: lv.filter (fun q => !(q.1 == i) && !(q.1 + 1 == i && q.2.category == 2)) = lv') (kk : J p l e R s m args below meth c G A nL Q k n ad a b (pc + 2) (lv') (st)) : J p l e R s m args below meth c G A nL Q k n ad a b (pc) (lv) (.ref x :: st) := fun H locs ls hP hD hS hl => lv_astore C.1 C.2.1 d hl hn hlv (fun ls' hl' => kk H locs ls' hP hD hS hl')
theorem j_lstore_n (C : CX G A own cc nL p s m args c) {kf : Fin 4} {i : Nat} {x : Int64} {lv' : List (Nat × Value)} (d : decode cc pc = .ok (.lstore_n kf, 1)) (hi : (kf : Nat) = i) (hn : i + 1 < nL) (hlv : (i, Value.long x) :: lv.filter (fun q => !(q.1 == i) && (!(q.1 == i + 1) && !(q.1 + 1 == i && q.2.category == 2))) = lv') (kk : J p l e R s m args below meth c G A nL Q k n ad a b (pc + 1) (lv') (st)) : J p l e R s m args below meth c G A nL Q k n ad a b (pc) (lv) (.long x :: st) := fun H locs ls hP hD hS hl => lv_lstore_n C.1 C.2.1 d hi hl hn hlv (fun ls' hl' => kk H locs ls' hP hD hS hl')
theorem j_lstore (C : CX G A own cc nL p s m args c) {i : Nat} {x : Int64} {lv' : List (Nat × Value)} (d : decode cc pc = .ok (.lstore i, 2)) (hn : i + 1 < nL) (hlv : (i, Value.long x) :: lv.filter (fun q => !(q.1 == i) && (!(q.1 == i + 1) && !(q.1 + 1 == i && q.2.category == 2))) = lv') (kk : J p l e R s m args below meth c G A nL Q k n ad a b (pc + 2) (lv') (st)) : J p l e R s m args below meth c G A nL Q k n ad a b (pc) (lv) (.long x :: st) := fun H locs ls hP hD hS hl => lv_lstore C.1 C.2.1 d hl hn hlv (fun ls' hl' => kk H locs ls' hP hD hS hl')
theorem j_dstore_n (C : CX G A own cc nL p s m args c) {kf : Fin 4} {i : Nat} {x : UInt64} {lv' : List (Nat × Value)} (d : decode cc pc = .ok (.dstore_n kf, 1)) (hi : (kf : Nat) = i) (hn : i + 1 < nL) (hlv : (i, Value.double x) :: lv.filter (fun q => !(q.1 == i) && (!(q.1 == i + 1) && !(q.1 + 1 == i && q.2.category == 2))) = lv') (kk : J p l e R s m args below meth c G A nL Q k n ad a b (pc + 1) (lv') (st)) : J p l e R s m args below meth c G A nL Q k n ad a b (pc) (lv) (.double x :: st) := fun H locs ls hP hD hS hl => lv_dstore_n C.1 C.2.1 d hi hl hn hlv (fun ls' hl' => kk H locs ls' hP hD hS hl')
theorem j_dstore (C : CX G A own cc nL p s m args c) {i : Nat} {x : UInt64} {lv' : List (Nat × Value)} (d : decode cc pc = .ok (.dstore i, 2)) (hn : i + 1 < nL) (hlv : (i, Value.double x) :: lv.filter (fun q => !(q.1 == i) && (!(q.1 == i + 1) && !(q.1 + 1 == i && q.2.category == 2))) = lv') (kk : J p l e R s m args below meth c G A nL Q k n ad a b (pc + 2) (lv') (st)) : J p l e R s m args below meth c G A nL Q k n ad a b (pc) (lv) (.double x :: st) := fun H locs ls hP hD hS hl => lv_dstore C.1 C.2.1 d hl hn hlv (fun ls' hl' => kk H locs ls' hP hD hS hl')
theorem j_astore_nq (C : CX G A own cc nL p s m args c) {kf : Fin 4} {i : Nat} {o : Option Nat} {lv' : List (Nat × Value)} (d : decode cc pc = .ok (.astore_n kf, 1)) (hi : (kf : Nat) = i) (hn : i < nL) (hlv : (i, itv ad o) :: lv.filter (fun q => !(q.1 == i) && !(q.1 + 1 == i && q.2.category == 2)) = lv') (kk : J p l e R s m args below meth c G A nL Q k n ad a b (pc + 1) (lv') (st)) : J p l e R s m args below meth c G A nL Q k n ad a b (pc) (lv) (itv ad o :: st) := fun H locs ls hP hD hS hl => by
  cases o with
  | none => exact lv_astore_nN C.1 C.2.1 d hi hl hn hlv (fun ls' hl' => kk H locs ls' hP hD hS hl')
  | some i => exact lv_astore_n C.1 C.2.1 d hi hl hn hlv (fun ls' hl' => kk H locs ls' hP hD hS hl')
theorem j_astoreq (C : CX G A own cc nL p s m args c) {i : Nat} {o : Option Nat} {lv' : List (Nat × Value)} (d : decode cc pc = .ok (.astore i, 2)) (hn : i < nL) (hlv : (i, itv ad o) :: lv.filter (fun q => !(q.1 == i) && !(q.1 + 1 == i && q.2.category == 2)) = lv') (kk : J p l e R s m args below meth c G A nL Q k n ad a b (pc + 2) (lv') (st)) : J p l e R s m args below meth c G A nL Q k n ad a b (pc) (lv) (itv ad o :: st) := fun H locs ls hP hD hS hl => by
  cases o with
  | none => exact lv_astoreN C.1 C.2.1 d hl hn hlv (fun ls' hl' => kk H locs ls' hP hD hS hl')
  | some i => exact lv_astore C.1 C.2.1 d hl hn hlv (fun ls' hl' => kk H locs ls' hP hD hS hl')
theorem j_iinc (C : CX G A own cc nL p s m args c) {i : Nat} {z : Int} {x v : Int32} {lv' : List (Nat × Value)} (q : Nat) (hq : lv[q]? = some (i, .int x)) (hv : x + Int32.ofInt z = v) (hn : i < nL) (hlv : (i, Value.int v) :: lv.filter (fun q => !(q.1 == i) && !(q.1 + 1 == i && q.2.category == 2)) = lv') (d : decode cc pc = .ok (.iinc i z, 3)) (kk : J p l e R s m args below meth c G A nL Q k n ad a b (pc + 3) (lv') (st)) : J p l e R s m args below meth c G A nL Q k n ad a b (pc) (lv) (st) := fun H locs ls hP hD hS hl => lv_iinc C.1 C.2.1 d hl hq hv hn hlv (fun ls' hl' => kk H locs ls' hP hD hS hl')
theorem j_iadd (C : CX G A own cc nL p s m args c) {x y : Int32} (d : decode cc pc = .ok (.iadd, 1)) (kk : J p l e R s m args below meth c G A nL Q k n ad a b (pc + 1) (lv) (.int (x + y) :: st)) : J p l e R s m args below meth c G A nL Q k n ad a b (pc) (lv) (.int y :: .int x :: st) := fun H locs ls hP hD hS hl => lv_iadd C.1 C.2.1 d (kk H locs ls hP hD hS hl)
theorem j_isub (C : CX G A own cc nL p s m args c) {x y : Int32} (d : decode cc pc = .ok (.isub, 1)) (kk : J p l e R s m args below meth c G A nL Q k n ad a b (pc + 1) (lv) (.int (x - y) :: st)) : J p l e R s m args below meth c G A nL Q k n ad a b (pc) (lv) (.int y :: .int x :: st) := fun H locs ls hP hD hS hl => lv_isub C.1 C.2.1 d (kk H locs ls hP hD hS hl)
theorem j_imul (C : CX G A own cc nL p s m args c) {x y : Int32} (d : decode cc pc = .ok (.imul, 1)) (kk : J p l e R s m args below meth c G A nL Q k n ad a b (pc + 1) (lv) (.int (x * y) :: st)) : J p l e R s m args below meth c G A nL Q k n ad a b (pc) (lv) (.int y :: .int x :: st) := fun H locs ls hP hD hS hl => lv_imul C.1 C.2.1 d (kk H locs ls hP hD hS hl)
theorem j_iand (C : CX G A own cc nL p s m args c) {x y : Int32} (d : decode cc pc = .ok (.iand, 1)) (kk : J p l e R s m args below meth c G A nL Q k n ad a b (pc + 1) (lv) (.int (x &&& y) :: st)) : J p l e R s m args below meth c G A nL Q k n ad a b (pc) (lv) (.int y :: .int x :: st) := fun H locs ls hP hD hS hl => lv_iand C.1 C.2.1 d (kk H locs ls hP hD hS hl)
theorem j_ishl (C : CX G A own cc nL p s m args c) {x y : Int32} (d : decode cc pc = .ok (.ishl, 1)) (kk : J p l e R s m args below meth c G A nL Q k n ad a b (pc + 1) (lv) (.int (x <<< (y &&& 31)) :: st)) : J p l e R s m args below meth c G A nL Q k n ad a b (pc) (lv) (.int y :: .int x :: st) := fun H locs ls hP hD hS hl => lv_ishl C.1 C.2.1 d (kk H locs ls hP hD hS hl)
theorem j_idiv (C : CX G A own cc nL p s m args c) {x y : Int32} (h0 : ¬ y = 0) (d : decode cc pc = .ok (.idiv, 1)) (kk : J p l e R s m args below meth c G A nL Q k n ad a b (pc + 1) (lv) (.int (x / y) :: st)) : J p l e R s m args below meth c G A nL Q k n ad a b (pc) (lv) (.int y :: .int x :: st) := fun H locs ls hP hD hS hl => lv_idiv C.1 C.2.1 d h0 (kk H locs ls hP hD hS hl)
theorem j_irem (C : CX G A own cc nL p s m args c) {x y : Int32} (h0 : ¬ y = 0) (d : decode cc pc = .ok (.irem, 1)) (kk : J p l e R s m args below meth c G A nL Q k n ad a b (pc + 1) (lv) (.int (x - x / y * y) :: st)) : J p l e R s m args below meth c G A nL Q k n ad a b (pc) (lv) (.int y :: .int x :: st) := fun H locs ls hP hD hS hl => lv_irem C.1 C.2.1 d h0 (kk H locs ls hP hD hS hl)
theorem j_ineg (C : CX G A own cc nL p s m args c) {x : Int32} (d : decode cc pc = .ok (.ineg, 1)) (kk : J p l e R s m args below meth c G A nL Q k n ad a b (pc + 1) (lv) (.int (-x) :: st)) : J p l e R s m args below meth c G A nL Q k n ad a b (pc) (lv) (.int x :: st) := fun H locs ls hP hD hS hl => lv_ineg C.1 C.2.1 d (kk H locs ls hP hD hS hl)
theorem j_i2l (C : CX G A own cc nL p s m args c) {x : Int32} (d : decode cc pc = .ok (.i2l, 1)) (kk : J p l e R s m args below meth c G A nL Q k n ad a b (pc + 1) (lv) (.long x.toInt64 :: st)) : J p l e R s m args below meth c G A nL Q k n ad a b (pc) (lv) (.int x :: st) := fun H locs ls hP hD hS hl => lv_i2l C.1 C.2.1 d rfl (kk H locs ls hP hD hS hl)
theorem j_i2c (C : CX G A own cc nL p s m args c) {x : Int32} (d : decode cc pc = .ok (.i2c, 1)) (kk : J p l e R s m args below meth c G A nL Q k n ad a b (pc + 1) (lv) (.int (x.toUInt32 % 65536).toInt32 :: st)) : J p l e R s m args below meth c G A nL Q k n ad a b (pc) (lv) (.int x :: st) := fun H locs ls hP hD hS hl => lv_i2c C.1 C.2.1 d rfl (kk H locs ls hP hD hS hl)
theorem j_ladd (C : CX G A own cc nL p s m args c) {x y : Int64} (d : decode cc pc = .ok (.ladd, 1)) (kk : J p l e R s m args below meth c G A nL Q k n ad a b (pc + 1) (lv) (.long (x + y) :: st)) : J p l e R s m args below meth c G A nL Q k n ad a b (pc) (lv) (.long y :: .long x :: st) := fun H locs ls hP hD hS hl => lv_ladd C.1 C.2.1 d (kk H locs ls hP hD hS hl)
theorem j_lmul (C : CX G A own cc nL p s m args c) {x y : Int64} (d : decode cc pc = .ok (.lmul, 1)) (kk : J p l e R s m args below meth c G A nL Q k n ad a b (pc + 1) (lv) (.long (x * y) :: st)) : J p l e R s m args below meth c G A nL Q k n ad a b (pc) (lv) (.long y :: .long x :: st) := fun H locs ls hP hD hS hl => lv_lmul C.1 C.2.1 d (kk H locs ls hP hD hS hl)
theorem j_lcmp (C : CX G A own cc nL p s m args c) {x y : Int64} (d : decode cc pc = .ok (.lcmp, 1)) (kk : J p l e R s m args below meth c G A nL Q k n ad a b (pc + 1) (lv) (.int (lg_cmp x y) :: st)) : J p l e R s m args below meth c G A nL Q k n ad a b (pc) (lv) (.long y :: .long x :: st) := fun H locs ls hP hD hS hl => W.lcmp C.1 C.2.1 d (kk H locs ls hP hD hS hl)
theorem j_i2d (C : CX G A own cc nL p s m args c) {x : Int32} (d : decode cc pc = .ok (.i2d, 1)) (kk : J p l e R s m args below meth c G A nL Q k n ad a b (pc + 1) (lv) (.double (FP.i2d x) :: st)) : J p l e R s m args below meth c G A nL Q k n ad a b (pc) (lv) (.int x :: st) := fun H locs ls hP hD hS hl => lv_i2d C.1 C.2.1 d (kk H locs ls hP hD hS hl)
theorem j_f2i (C : CX G A own cc nL p s m args c) {x : UInt32} (d : decode cc pc = .ok (.f2i, 1)) (kk : J p l e R s m args below meth c G A nL Q k n ad a b (pc + 1) (lv) (.int (FP.f2i x) :: st)) : J p l e R s m args below meth c G A nL Q k n ad a b (pc) (lv) (.float x :: st) := fun H locs ls hP hD hS hl => lv_f2i C.1 C.2.1 d (kk H locs ls hP hD hS hl)
theorem j_fmul (C : CX G A own cc nL p s m args c) {x y : UInt32} (hn : vf_n32 (FP.fmul x y)) (d : decode cc pc = .ok (.fmul, 1)) (kk : J p l e R s m args below meth c G A nL Q k n ad a b (pc + 1) (lv) (.float (FP.fmul x y) :: st)) : J p l e R s m args below meth c G A nL Q k n ad a b (pc) (lv) (.float y :: .float x :: st) := fun H locs ls hP hD hS hl => lv_fmul C.1 C.2.1 d hn (kk H locs ls hP hD hS hl)
theorem j_fsub (C : CX G A own cc nL p s m args c) {x y : UInt32} (hn : vf_n32 (FP.fsub x y)) (d : decode cc pc = .ok (.fsub, 1)) (kk : J p l e R s m args below meth c G A nL Q k n ad a b (pc + 1) (lv) (.float (FP.fsub x y) :: st)) : J p l e R s m args below meth c G A nL Q k n ad a b (pc) (lv) (.float y :: .float x :: st) := fun H locs ls hP hD hS hl => lv_fsub C.1 C.2.1 d hn (kk H locs ls hP hD hS hl)
theorem j_ddiv (C : CX G A own cc nL p s m args c) {x y : UInt64} (hn : vf_n64 (FP.ddiv x y)) (d : decode cc pc = .ok (.ddiv, 1)) (kk : J p l e R s m args below meth c G A nL Q k n ad a b (pc + 1) (lv) (.double (FP.ddiv x y) :: st)) : J p l e R s m args below meth c G A nL Q k n ad a b (pc) (lv) (.double y :: .double x :: st) := fun H locs ls hP hD hS hl => lv_ddiv C.1 C.2.1 d hn (kk H locs ls hP hD hS hl)
theorem j_d2f (C : CX G A own cc nL p s m args c) {x : UInt64} (hn : vf_n32 (FP.d2f x)) (d : decode cc pc = .ok (.d2f, 1)) (kk : J p l e R s m args below meth c G A nL Q k n ad a b (pc + 1) (lv) (.float (FP.d2f x) :: st)) : J p l e R s m args below meth c G A nL Q k n ad a b (pc) (lv) (.double x :: st) := fun H locs ls hP hD hS hl => lv_d2f C.1 C.2.1 d hn (kk H locs ls hP hD hS hl)
theorem j_fcmp (C : CX G A own cc nL p s m args c) {x y : UInt32} {op : CmpOp} (d : decode cc pc = .ok (.fcmp op, 1)) (kk : J p l e R s m args below meth c G A nL Q k n ad a b (pc + 1) (lv) (.int (Op.cmpValue (FP.fcmp x y) op) :: st)) : J p l e R s m args below meth c G A nL Q k n ad a b (pc) (lv) (.float y :: .float x :: st) := fun H locs ls hP hD hS hl => lv_fcmp C.1 C.2.1 d (kk H locs ls hP hD hS hl)
theorem j_dcmp (C : CX G A own cc nL p s m args c) {x y : UInt64} {op : CmpOp} (d : decode cc pc = .ok (.dcmp op, 1)) (kk : J p l e R s m args below meth c G A nL Q k n ad a b (pc + 1) (lv) (.int (Op.cmpValue (FP.dcmp x y) op) :: st)) : J p l e R s m args below meth c G A nL Q k n ad a b (pc) (lv) (.double y :: .double x :: st) := fun H locs ls hP hD hS hl => lv_dcmp C.1 C.2.1 d (kk H locs ls hP hD hS hl)
theorem j_dup (C : CX G A own cc nL p s m args c) {v : Value} (hv : v.category = 1) (d : decode cc pc = .ok (.dup, 1)) (kk : J p l e R s m args below meth c G A nL Q k n ad a b (pc + 1) (lv) (v :: v :: st)) : J p l e R s m args below meth c G A nL Q k n ad a b (pc) (lv) (v :: st) := fun H locs ls hP hD hS hl => lv_dup C.1 C.2.1 d hv (kk H locs ls hP hD hS hl)
theorem j_pop (C : CX G A own cc nL p s m args c) {v : Value} (hv : v.category = 1) (d : decode cc pc = .ok (.pop, 1)) (kk : J p l e R s m args below meth c G A nL Q k n ad a b (pc + 1) (lv) (st)) : J p l e R s m args below meth c G A nL Q k n ad a b (pc) (lv) (v :: st) := fun H locs ls hP hD hS hl => lv_pop C.1 C.2.1 d hv (kk H locs ls hP hD hS hl)
theorem j_dup2 (C : CX G A own cc nL p s m args c) {v w : Value} (hv : v.category = 1) (hw : w.category = 1) (d : decode cc pc = .ok (.dup2, 1)) (kk : J p l e R s m args below meth c G A nL Q k n ad a b (pc + 1) (lv) (v :: w :: v :: w :: st)) : J p l e R s m args below meth c G A nL Q k n ad a b (pc) (lv) (v :: w :: st) := fun H locs ls hP hD hS hl => lv_dup2_11 C.1 C.2.1 d hv hw (kk H locs ls hP hD hS hl)
theorem j_ldc (C : CX G A own cc nL p s m args c) {idx : Nat} {v : Int32} (hw : Cond.constant own idx v ∈ BIG) (d : decode cc pc = .ok (.ldc idx, 2)) (kk : J p l e R s m args below meth c G A nL Q k n ad a b (pc + 2) (lv) (.int v :: st)) : J p l e R s m args below meth c G A nL Q k n ad a b (pc) (lv) (st) := fun H locs ls hP hD hS hl => lv_ldc C.1 C.2.1 C.2.2.2.1 (C.2.2.2.2.1 _ hw) d (kk H locs ls hP hD hS hl)
theorem j_ldcf (C : CX G A own cc nL p s m args c) {idx : Nat} {v : UInt32} (hw : Cond.constantFloat own idx v ∈ BIG) (d : decode cc pc = .ok (.ldc idx, 2)) (kk : J p l e R s m args below meth c G A nL Q k n ad a b (pc + 2) (lv) (.float v :: st)) : J p l e R s m args below meth c G A nL Q k n ad a b (pc) (lv) (st) := fun H locs ls hP hD hS hl => lv_ldcf C.1 C.2.1 C.2.2.2.1 (C.2.2.2.2.1 _ hw) d (kk H locs ls hP hD hS hl)
theorem j_ldc2 (C : CX G A own cc nL p s m args c) {idx : Nat} {v : Int64} (hw : Cond.constantLong own idx v ∈ BIG) (d : decode cc pc = .ok (.ldc2_w idx, 3)) (kk : J p l e R s m args below meth c G A nL Q k n ad a b (pc + 3) (lv) (.long v :: st)) : J p l e R s m args below meth c G A nL Q k n ad a b (pc) (lv) (st) := fun H locs ls hP hD hS hl => lv_ldc2 C.1 C.2.1 C.2.2.2.1 (C.2.2.2.2.1 _ hw) d (kk H locs ls hP hD hS hl)
theorem j_if_eq (C : CX G A own cc nL p s m args c) {X : Type} {f g r : X} {x : Int32} {off : Int} (tgt : Nat) (d : decode cc pc = .ok (.ifCond .eq off, 3)) (ht : (pc : Int) + off = (tgt : Int)) (hf : (if x = 0 then f else g) = r) (kt : x = 0 → f = r → J p l e R s m args below meth c G A nL Q k n ad a b (tgt) (lv) (st)) (kf : ¬ (x = 0) → g = r → J p l e R s m args below meth c G A nL Q k n ad a b (pc + 3) (lv) (st)) : J p l e R s m args below meth c G A nL Q k n ad a b (pc) (lv) (.int x :: st) := fun H locs ls hP hD hS hl => lv_if_eq C.1 C.2.1 d ht (fun h => kt h ((if_pos h).symm.trans hf) H locs ls hP hD hS hl) (fun h => kf h ((if_neg h).symm.trans hf) H locs ls hP hD hS hl)
theorem j_if_ne (C : CX G A own cc nL p s m args c) {X : Type} {f g r : X} {x : Int32} {off : Int} (tgt : Nat) (d : decode cc pc = .ok (.ifCond .ne off, 3)) (ht : (pc : Int) + off = (tgt : Int)) (hf : (if ¬ x = 0 then f else g) = r) (kt : ¬ x = 0 → f = r → J p l e R s m args below meth c G A nL Q k n ad a b (tgt) (lv) (st)) (kf : ¬ (¬ x = 0) → g = r → J p l e R s m args below meth c G A nL Q k n ad a b (pc + 3) (lv) (st)) : J p l e R s m args below meth c G A nL Q k n ad a b (pc) (lv) (.int x :: st) := fun H locs ls hP hD hS hl => lv_if_ne C.1 C.2.1 d ht (fun h => kt h ((if_pos h).symm.trans hf) H locs ls hP hD hS hl) (fun h => kf (fun q => q h) ((if_neg (fun q => q h)).symm.trans hf) H locs ls hP hD hS hl)
theorem j_if_lt (C : CX G A own cc nL p s m args c) {X : Type} {f g r : X} {x : Int32} {off : Int} (tgt : Nat) (d : decode cc pc = .ok (.ifCond .lt off, 3)) (ht : (pc : Int) + off = (tgt : Int)) (hf : (if x < 0 then f else g) = r) (kt : x < 0 → f = r → J p l e R s m args below meth c G A nL Q k n ad a b (tgt) (lv) (st)) (kf : ¬ (x < 0) → g = r → J p l e R s m args below meth c G A nL Q k n ad a b (pc + 3) (lv) (st)) : J p l e R s m args below meth c G A nL Q k n ad a b (pc) (lv) (.int x :: st) := fun H locs ls hP hD hS hl => lv_if_lt C.1 C.2.1 d ht (fun h => kt h ((if_pos h).symm.trans hf) H locs ls hP hD hS hl) (fun h => kf h ((if_neg h).symm.trans hf) H locs ls hP hD hS hl)
theorem j_if_ge (C : CX G A own cc nL p s m args c) {X : Type} {f g r : X} {x : Int32} {off : Int} (tgt : Nat) (d : decode cc pc = .ok (.ifCond .ge off, 3)) (ht : (pc : Int) + off = (tgt : Int)) (hf : (if 0 ≤ x then f else g) = r) (kt : 0 ≤ x → f = r → J p l e R s m args below meth c G A nL Q k n ad a b (tgt) (lv) (st)) (kf : ¬ (0 ≤ x) → g = r → J p l e R s m args below meth c G A nL Q k n ad a b (pc + 3) (lv) (st)) : J p l e R s m args below meth c G A nL Q k n ad a b (pc) (lv) (.int x :: st) := fun H locs ls hP hD hS hl => lv_if_ge C.1 C.2.1 d ht (fun h => kt h ((if_pos h).symm.trans hf) H locs ls hP hD hS hl) (fun h => kf h ((if_neg h).symm.trans hf) H locs ls hP hD hS hl)
theorem j_if_gt (C : CX G A own cc nL p s m args c) {X : Type} {f g r : X} {x : Int32} {off : Int} (tgt : Nat) (d : decode cc pc = .ok (.ifCond .gt off, 3)) (ht : (pc : Int) + off = (tgt : Int)) (hf : (if 0 < x then f else g) = r) (kt : 0 < x → f = r → J p l e R s m args below meth c G A nL Q k n ad a b (tgt) (lv) (st)) (kf : ¬ (0 < x) → g = r → J p l e R s m args below meth c G A nL Q k n ad a b (pc + 3) (lv) (st)) : J p l e R s m args below meth c G A nL Q k n ad a b (pc) (lv) (.int x :: st) := fun H locs ls hP hD hS hl => lv_if_gt C.1 C.2.1 d ht (fun h => kt h ((if_pos h).symm.trans hf) H locs ls hP hD hS hl) (fun h => kf h ((if_neg h).symm.trans hf) H locs ls hP hD hS hl)
theorem j_if_le (C : CX G A own cc nL p s m args c) {X : Type} {f g r : X} {x : Int32} {off : Int} (tgt : Nat) (d : decode cc pc = .ok (.ifCond .le off, 3)) (ht : (pc : Int) + off = (tgt : Int)) (hf : (if x ≤ 0 then f else g) = r) (kt : x ≤ 0 → f = r → J p l e R s m args below meth c G A nL Q k n ad a b (tgt) (lv) (st)) (kf : ¬ (x ≤ 0) → g = r → J p l e R s m args below meth c G A nL Q k n ad a b (pc + 3) (lv) (st)) : J p l e R s m args below meth c G A nL Q k n ad a b (pc) (lv) (.int x :: st) := fun H locs ls hP hD hS hl => lv_if_le C.1 C.2.1 d ht (fun h => kt h ((if_pos h).symm.trans hf) H locs ls hP hD hS hl) (fun h => kf h ((if_neg h).symm.trans hf) H locs ls hP hD hS hl)
theorem j_icmp_eq (C : CX G A own cc nL p s m args c) {X : Type} {f g r : X} {x y : Int32} {off : Int} (tgt : Nat) (d : decode cc pc = .ok (.if_icmp .eq off, 3)) (ht : (pc : Int) + off = (tgt : Int)) (hf : (if x = y then f else g) = r) (kt : x = y → f = r → J p l e R s m args below meth c G A nL Q k n ad a b (tgt) (lv) (st)) (kf : ¬ (x = y) → g = r → J p l e R s m args below meth c G A nL Q k n ad a b (pc + 3) (lv) (st)) : J p l e R s m args below meth c G A nL Q k n ad a b (pc) (lv) (.int y :: .int x :: st) := fun H locs ls hP hD hS hl => lv_icmp_eq C.1 C.2.1 d ht (fun h => kt h ((if_pos h).symm.trans hf) H locs ls hP hD hS hl) (fun h => kf h ((if_neg h).symm.trans hf) H locs ls hP hD hS hl)
theorem j_icmp_ne (C : CX G A own cc nL p s m args c) {X : Type} {f g r : X} {x y : Int32} {off : Int} (tgt : Nat) (d : decode cc pc = .ok (.if_icmp .ne off, 3)) (ht : (pc : Int) + off = (tgt : Int)) (hf : (if ¬ x = y then f else g) = r) (kt : ¬ x = y → f = r → J p l e R s m args below meth c G A nL Q k n ad a b (tgt) (lv) (st)) (kf : ¬ (¬ x = y) → g = r → J p l e R s m args below meth c G A nL Q k n ad a b (pc + 3) (lv) (st)) : J p l e R s m args below meth c G A nL Q k n ad a b (pc) (lv) (.int y :: .int x :: st) := fun H locs ls hP hD hS hl => lv_icmp_ne C.1 C.2.1 d ht (fun h => kt h ((if_pos h).symm.trans hf) H locs ls hP hD hS hl) (fun h => kf (fun q => q h) ((if_neg (fun q => q h)).symm.trans hf) H locs ls hP hD hS hl)
theorem j_icmp_lt (C : CX G A own cc nL p s m args c) {X : Type} {f g r : X} {x y : Int32} {off : Int} (tgt : Nat) (d : decode cc pc = .ok (.if_icmp .lt off, 3)) (ht : (pc : Int) + off = (tgt : Int)) (hf : (if x < y then f else g) = r) (kt : x < y → f = r → J p l e R s m args below meth c G A nL Q k n ad a b (tgt) (lv) (st)) (kf : ¬ (x < y) → g = r → J p l e R s m args below meth c G A nL Q k n ad a b (pc + 3) (lv) (st)) : J p l e R s m args below meth c G A nL Q k n ad a b (pc) (lv) (.int y :: .int x :: st) := fun H locs ls hP hD hS hl => lv_icmp_lt C.1 C.2.1 d ht (fun h => kt h ((if_pos h).symm.trans hf) H locs ls hP hD hS hl) (fun h => kf h ((if_neg h).symm.trans hf) H locs ls hP hD hS hl)
theorem j_icmp_ge (C : CX G A own cc nL p s m args c) {X : Type} {f g r : X} {x y : Int32} {off : Int} (tgt : Nat) (d : decode cc pc = .ok (.if_icmp .ge off, 3)) (ht : (pc : Int) + off = (tgt : Int)) (hf : (if y ≤ x then f else g) = r) (kt : y ≤ x → f = r → J p l e R s m args below meth c G A nL Q k n ad a b (tgt) (lv) (st)) (kf : ¬ (y ≤ x) → g = r → J p l e R s m args below meth c G A nL Q k n ad a b (pc + 3) (lv) (st)) : J p l e R s m args below meth c G A nL Q k n ad a b (pc) (lv) (.int y :: .int x :: st) := fun H locs ls hP hD hS hl => lv_icmp_ge C.1 C.2.1 d ht (fun h => kt h ((if_pos h).symm.trans hf) H locs ls hP hD hS hl) (fun h => kf h ((if_neg h).symm.trans hf) H locs ls hP hD hS hl)
theorem j_icmp_gt (C : CX G A own cc nL p s m args c) {X : Type} {f g r : X} {x y : Int32} {off : Int} (tgt : Nat) (d : decode cc pc = .ok (.if_icmp .gt off, 3)) (ht : (pc : Int) + off = (tgt : Int)) (hf : (if y < x then f else g) = r) (kt : y < x → f = r → J p l e R s m args below meth c G A nL Q k n ad a b (tgt) (lv) (st)) (kf : ¬ (y < x) → g = r → J p l e R s m args below meth c G A nL Q k n ad a b (pc + 3) (lv) (st)) : J p l e R s m args below meth c G A nL Q k n ad a b (pc) (lv) (.int y :: .int x :: st) := fun H locs ls hP hD hS hl => lv_icmp_gt C.1 C.2.1 d ht (fun h => kt h ((if_pos h).symm.trans hf) H locs ls hP hD hS hl) (fun h => kf h ((if_neg h).symm.trans hf) H locs ls hP hD hS hl)
theorem j_icmp_le (C : CX G A own cc nL p s m args c) {X : Type} {f g r : X} {x y : Int32} {off : Int} (tgt : Nat) (d : decode cc pc = .ok (.if_icmp .le off, 3)) (ht : (pc : Int) + off = (tgt : Int)) (hf : (if x ≤ y then f else g) = r) (kt : x ≤ y → f = r → J p l e R s m args below meth c G A nL Q k n ad a b (tgt) (lv) (st)) (kf : ¬ (x ≤ y) → g = r → J p l e R s m args below meth c G A nL Q k n ad a b (pc + 3) (lv) (st)) : J p l e R s m args below meth c G A nL Q k n ad a b (pc) (lv) (.int y :: .int x :: st) := fun H locs ls hP hD hS hl => lv_icmp_le C.1 C.2.1 d ht (fun h => kt h ((if_pos h).symm.trans hf) H locs ls hP hD hS hl) (fun h => kf h ((if_neg h).symm.trans hf) H locs ls hP hD hS hl)
theorem j_goto (C : CX G A own cc nL p s m args c) {off : Int} (tgt : Nat) (d : decode cc pc = .ok (.goto off, 3)) (ht : (pc : Int) + off = (tgt : Int)) (kk : J p l e R s m args below meth c G A nL Q k n ad a b (tgt) (lv) (st)) : J p l e R s m args below meth c G A nL Q k n ad a b (pc) (lv) (st) := fun H locs ls hP hD hS hl => lv_goto C.1 C.2.1 d ht (kk H locs ls hP hD hS hl)
theorem j_ifnull (C : CX G A own cc nL p s m args c) {X : Type} {o : Option Nat} {f r : X} {g : Nat → X} {off : Int} (tgt : Nat) (d : decode cc pc = .ok (.ifnull off, 3)) (ht : (pc : Int) + off = (tgt : Int)) (hf : ocs o f g = r) (kt : o = none → f = r → J p l e R s m args below meth c G A nL Q k n ad a b (tgt) (lv) (st)) (kf : ∀ i, o = some i → g i = r → J p l e R s m args below meth c G A nL Q k n ad a b (pc + 3) (lv) (st)) : J p l e R s m args below meth c G A nL Q k n ad a b (pc) (lv) (itv ad o :: st) := fun H locs ls hP hD hS hl => by
  cases o with
  | none => exact lv_ifnullN C.1 C.2.1 d ht (kt rfl hf H locs ls hP hD hS hl)
  | some i => exact lv_ifnull C.1 C.2.1 d (kf i rfl hf H locs ls hP hD hS hl)
theorem j_ifnonnull (C : CX G A own cc nL p s m args c) {X : Type} {o : Option Nat} {f r : X} {g : Nat → X} {off : Int} (tgt : Nat) (d : decode cc pc = .ok (.ifnonnull off, 3)) (ht : (pc : Int) + off = (tgt : Int)) (hf : ocs o f g = r) (kf : o = none → f = r → J p l e R s m args below meth c G A nL Q k n ad a b (pc + 3) (lv) (st)) (kt : ∀ i, o = some i → g i = r → J p l e R s m args below meth c G A nL Q k n ad a b (tgt) (lv) (st)) : J p l e R s m args below meth c G A nL Q k n ad a b (pc) (lv) (itv ad o :: st) := fun H locs ls hP hD hS hl => by
  cases o with
  | none => exact lv_ifnonnullN C.1 C.2.1 d (kf rfl hf H locs ls hP hD hS hl)
  | some i => exact lv_ifnonnull C.1 C.2.1 d ht (kt i rfl hf H locs ls hP hD hS hl)
theorem itr_inj {H : Heap} (hD : va_D A (wd G ad a b)) {o1 o2 : Option Nat} (h1 : okr (Kn a) o1 = true) (h2 : okr (Kn a) o2 = true) (h : itr ad o1 = itr ad o2) : o1 = o2 := by
  cases o1 with
  | none => cases o2 with
    | none => rfl
    | some j => cases h
  | some i => cases o2 with
    | none => cases h
    | some j =>
      have h1 : i < Kn a := of_decide_eq_true h1
      have h2 : j < Kn a := of_decide_eq_true h2
      have h3 : ad (ip i) = ad (ip j) := Option.some.inj h
      have h4 := wd_inj hD (mem_ip h1) (mem_ip h2) h3
      simp only [ip] at h4
      rw [show i = j by omega]
theorem j_acmp_ne (C : CX G A own cc nL p s m args c) {X : Type} {o1 o2 : Option Nat} {f g : Option X} {r : X} {off : Int} (tgt : Nat) (d : decode cc pc = .ok (.if_acmp .ne off, 3)) (ht : (pc : Int) + off = (tgt : Int)) (hf : gd (okr (Kn a) o1 && okr (Kn a) o2) (if ¬ o1 = o2 then f else g) = some r) (kt : ¬ o1 = o2 → f = some r → J p l e R s m args below meth c G A nL Q k n ad a b (tgt) (lv) (st)) (kf : ¬ ¬ o1 = o2 → g = some r → J p l e R s m args below meth c G A nL Q k n ad a b (pc + 3) (lv) (st)) : J p l e R s m args below meth c G A nL Q k n ad a b (pc) (lv) (itv ad o2 :: itv ad o1 :: st) := fun H locs ls hP hD hS hl => by
  obtain ⟨h0, hf⟩ := gd_some hf
  obtain ⟨h1, h2⟩ := (Bool.and_eq_true _ _).mp h0
  refine lv_acmp_ne C.1 C.2.1 d ht (fun h => ?_) (fun h => ?_)
  · have h3 : ¬ o1 = o2 := fun e => h (by rw [e])
    exact kt h3 ((if_pos h3).symm.trans hf) H locs ls hP hD hS hl
  · have h3 : ¬ ¬ o1 = o2 := fun e => e (itr_inj (H := H) hD h1 h2 h)
    exact kf h3 ((if_neg h3).symm.trans hf) H locs ls hP hD hS hl
/-- a field is read: q the place, fs what its cell holds -/
theorem j_get (C : CX G A own cc nL p s m args c) {q ci N kf idx : Nat} {fs : List Value} {RC ref : String} {T : u_T} {v : Value} (hq : q ∈ pls (Kn a)) (hcel : cel G ad a b q = .inr (ci, fs)) (hc : vwCl[ci]? = some (RC, T, N)) (hin : ∀ w ∈ u_ws RC T N, w ∈ BIG) (hk : kf < N) (hsame : ∀ x, s.fieldFound? (T kf).1 (T kf).2.1 (T kf).2.2.1 = some x → s.fieldFound? ref (T kf).2.1 (T kf).2.2.1 = some x) (hlink : Cond.fieldLink own idx ref (T kf).2.1 (T kf).2.2.1 ∈ BIG) (hv : fs[kf]? = some v) (d : decode cc pc = .ok (.getfield idx, 3)) (kk : J p l e R s m args below meth c G A nL Q k n ad a b (pc + 3) (lv) (v :: st)) : J p l e R s m args below meth c G A nL Q k n ad a b (pc) (lv) (.ref (ad q) :: st) := fun H locs ls hP hD hS hl => by
  obtain ⟨k0, hk0, hk1⟩ := wd_get (G := G) (ad := ad) (b := b) hq
  rw [hcel] at hk1
  exact va_get (D := G.1) C.1 C.2.1 C.2.2.2.2.1 hin C.2.2.2.1 C.2.2.2.2.2.1 hP k0 hk1 hc kf hk (C.2.2.2.2.1 _ hlink) hsame hv d (kk H locs ls hP hD hS hl)
/-- a field is written: (a', b') the state behind it -/
theorem j_put (C : CX G A own cc nL p s m args c) {a' : KS} {b' : MS} {q ci N kf idx : Nat} {fs : List Value} {RC ref : String} {T : u_T} {v : Value} {ty : FieldType} {ty0 : Nat → FieldType} (hq : q ∈ pls (Kn a)) (hcel : cel G ad a b q = .inr (ci, fs)) (hc : vwCl[ci]? = some (RC, T, N)) (hin : ∀ w ∈ u_ws RC T N, w ∈ BIG) (hty : ∀ k, k < N → parseFieldDescriptor (T k).2.2.1 = some (ty0 k)) (hnm : ∀ a, a < N → ∀ b, b < N → a ≠ b → (T a).2.1 ≠ (T b).2.1) (hk : kf < N) (hsame : ∀ x, s.fieldFound? (T kf).1 (T kf).2.1 (T kf).2.2.1 = some x → s.fieldFound? ref (T kf).2.1 (T kf).2.2.1 = some x) (hfin : (T kf).2.2.2 = false) (hd : parseFieldDescriptor (T kf).2.2.1 = some ty) (hlen : kf < fs.length)
    (hN : Kn a' = Kn a) (hnew : Sum.inr (ci, fs.set kf v) = cel G ad a' b' q) (hold : ∀ z, z ≠ q → cel G ad a b z = cel G ad a' b' z)
    (hlink : Cond.fieldLink own idx ref (T kf).2.1 (T kf).2.2.1 ∈ BIG) (hn : narrow ty v = v) (hfit : fits ty v = true) (d : decode cc pc = .ok (.putfield idx, 3)) (kk : J p l e R s m args below meth c G A nL Q k n ad a' b' (pc + 3) (lv) (st)) : J p l e R s m args below meth c G A nL Q k n ad a b (pc) (lv) (v :: .ref (ad q) :: st) := fun H locs ls hP hD hS hl => by
  obtain ⟨k0, hk0, hk1⟩ := wd_get (G := G) (ad := ad) (b := b) hq
  rw [hcel] at hk1
  refine va_put (D := G.1) C.1 C.2.1 C.2.2.2.2.1 hin ty0 hty hnm C.2.2.2.1 C.2.2.2.2.2.1 hP hD hS k0 hk1 hc kf hk (C.2.2.2.2.1 _ hlink) hsame hfin hd hn hfit hlen d (fun H1 locs1 hP1 hD1 hS1 => ?_)
  have e := wd_set (G := G) (ad := ad) (e := Sum.inr (ci, fs.set kf v)) hk0 hN hnew hold
  rw [e] at hP1 hD1
  exact kk H1 locs1 ls hP1 hD1 hS1 hl
theorem j_iald (C : CX G A own cc nL p s m args c) {X : Type} {x : Option X} {r : X} {q N : Nat} {f : Nat → Int32} {i : Int32} (hq : q ∈ pls (Kn a)) (hcel : cel G ad a b q = arI (G.2.1 0) N f) (hf : gd (inb i N) x = some r) (d : decode cc pc = .ok (.iaload, 1)) (kk : x = some r → J p l e R s m args below meth c G A nL Q k n ad a b (pc + 1) (lv) (.int (f i.toNatClampNeg) :: st)) : J p l e R s m args below meth c G A nL Q k n ad a b (pc) (lv) (.int i :: .ref (ad q) :: st) := fun H locs ls hP hD hS hl => by
  obtain ⟨h0, hf⟩ := gd_some hf
  obtain ⟨k0, hk0, hk1⟩ := wd_get (G := G) (ad := ad) (b := b) hq
  rw [hcel] at hk1
  exact va_iald (D := G.1) C.1 C.2.1 C.2.2.2.2.2.1 hP k0 0 hk1 rfl (inb_in h0) d (kk hf H locs ls hP hD hS hl)
theorem j_cald (C : CX G A own cc nL p s m args c) {X : Type} {x : Option X} {r : X} {q N : Nat} {f : Nat → Int32} {i : Int32} (hq : q ∈ pls (Kn a)) (hcel : cel G ad a b q = arI (G.2.1 1) N f) (hf : gd (inb i N) x = some r) (d : decode cc pc = .ok (.caload, 1)) (kk : x = some r → J p l e R s m args below meth c G A nL Q k n ad a b (pc + 1) (lv) (.int (f i.toNatClampNeg) :: st)) : J p l e R s m args below meth c G A nL Q k n ad a b (pc) (lv) (.int i :: .ref (ad q) :: st) := fun H locs ls hP hD hS hl => by
  obtain ⟨h0, hf⟩ := gd_some hf
  obtain ⟨k0, hk0, hk1⟩ := wd_get (G := G) (ad := ad) (b := b) hq
  rw [hcel] at hk1
  exact va_cald (D := G.1) C.1 C.2.1 C.2.2.2.2.2.1 hP k0 1 hk1 rfl (inb_in h0) d (kk hf H locs ls hP hD hS hl)
theorem j_zald (C : CX G A own cc nL p s m args c) {X : Type} {x : Option X} {r : X} {q N : Nat} {f : Nat → Int32} {i : Int32} (hq : q ∈ pls (Kn a)) (hcel : cel G ad a b q = arI (G.2.1 2) N f) (hf : gd (inb i N) x = some r) (d : decode cc pc = .ok (.baload, 1)) (kk : x = some r → J p l e R s m args below meth c G A nL Q k n ad a b (pc + 1) (lv) (.int (f i.toNatClampNeg) :: st)) : J p l e R s m args below meth c G A nL Q k n ad a b (pc) (lv) (.int i :: .ref (ad q) :: st) := fun H locs ls hP hD hS hl => by
  obtain ⟨h0, hf⟩ := gd_some hf
  obtain ⟨k0, hk0, hk1⟩ := wd_get (G := G) (ad := ad) (b := b) hq
  rw [hcel] at hk1
  exact va_zald (D := G.1) C.1 C.2.1 C.2.2.2.2.2.1 hP k0 2 hk1 rfl (inb_in h0) d (kk hf H locs ls hP hD hS hl)
theorem j_lald (C : CX G A own cc nL p s m args c) {X : Type} {x : Option X} {r : X} {q N : Nat} {f : Nat → Int64} {i : Int32} (hq : q ∈ pls (Kn a)) (hcel : cel G ad a b q = arJ (G.2.1 3) N f) (hf : gd (inb i N) x = some r) (d : decode cc pc = .ok (.laload, 1)) (kk : x = some r → J p l e R s m args below meth c G A nL Q k n ad a b (pc + 1) (lv) (.long (f i.toNatClampNeg) :: st)) : J p l e R s m args below meth c G A nL Q k n ad a b (pc) (lv) (.int i :: .ref (ad q) :: st) := fun H locs ls hP hD hS hl => by
  obtain ⟨h0, hf⟩ := gd_some hf
  obtain ⟨k0, hk0, hk1⟩ := wd_get (G := G) (ad := ad) (b := b) hq
  rw [hcel] at hk1
  exact va_lald (D := G.1) C.1 C.2.1 C.2.2.2.2.2.1 hP k0 3 hk1 rfl (inb_in h0) d (kk hf H locs ls hP hD hS hl)
theorem j_aald (C : CX G A own cc nL p s m args c) {X : Type} {x : Option X} {r : X} {q N : Nat} {f : Nat → Option Nat} {i : Int32} (hq : q ∈ pls (Kn a)) (hcel : cel G ad a b q = arR (G.2.1 4) N (fun j => itr ad (f j))) (hf : gd (inb i N) x = some r) (d : decode cc pc = .ok (.aaload, 1)) (kk : x = some r → J p l e R s m args below meth c G A nL Q k n ad a b (pc + 1) (lv) (itv ad (f i.toNatClampNeg) :: st)) : J p l e R s m args below meth c G A nL Q k n ad a b (pc) (lv) (.int i :: .ref (ad q) :: st) := fun H locs ls hP hD hS hl => by
  obtain ⟨h0, hf⟩ := gd_some hf
  obtain ⟨k0, hk0, hk1⟩ := wd_get (G := G) (ad := ad) (b := b) hq
  rw [hcel] at hk1
  exact va_aldq (D := G.1) C.1 C.2.1 C.2.2.2.2.2.1 hP k0 4 hk1 rfl (inb_in h0) d (kk hf H locs ls hP hD hS hl)
theorem j_iast (C : CX G A own cc nL p s m args c) {a' : KS} {b' : MS} {X : Type} {y : Option X} {r : X} {q N : Nat} {f : Nat → Int32} {i : Int32} {x : Int32} (hq : q ∈ pls (Kn a)) (hcel : cel G ad a b q = arI (G.2.1 0) N f) (hN : Kn a' = Kn a) (hnew : inb i N = true → arI (G.2.1 0) N (upd f i.toNatClampNeg x) = cel G ad a' b' q) (hold : ∀ z, z ≠ q → cel G ad a b z = cel G ad a' b' z) (hf : gd (inb i N) y = some r) (d : decode cc pc = .ok (.iastore, 1)) (kk : y = some r → J p l e R s m args below meth c G A nL Q k n ad a' b' (pc + 1) (lv) (st)) : J p l e R s m args below meth c G A nL Q k n ad a b (pc) (lv) (.int x :: .int i :: .ref (ad q) :: st) := fun H locs ls hP hD hS hl => by
  obtain ⟨h0, hf⟩ := gd_some hf
  obtain ⟨k0, hk0, hk1⟩ := wd_get (G := G) (ad := ad) (b := b) hq
  rw [hcel] at hk1
  refine va_iast (D := G.1) C.1 C.2.1 C.2.2.2.2.2.1 hP hD hS k0 0 hk1 rfl (inb_in h0) d (fun H1 locs1 hP1 hD1 hS1 => ?_)
  have e := wd_set (G := G) (ad := ad) hk0 hN (hnew h0) hold
  rw [e] at hP1 hD1
  exact kk hf H1 locs1 ls hP1 hD1 hS1 hl
theorem j_cast (C : CX G A own cc nL p s m args c) {a' : KS} {b' : MS} {X : Type} {y : Option X} {r : X} {q N : Nat} {f : Nat → Int32} {i : Int32} {x : Int32} (hq : q ∈ pls (Kn a)) (hcel : cel G ad a b q = arI (G.2.1 1) N f) (hN : Kn a' = Kn a) (hnew : inb i N = true → arI (G.2.1 1) N (upd f i.toNatClampNeg (vp_nar .char x)) = cel G ad a' b' q) (hold : ∀ z, z ≠ q → cel G ad a b z = cel G ad a' b' z) (hf : gd (inb i N) y = some r) (d : decode cc pc = .ok (.castore, 1)) (kk : y = some r → J p l e R s m args below meth c G A nL Q k n ad a' b' (pc + 1) (lv) (st)) : J p l e R s m args below meth c G A nL Q k n ad a b (pc) (lv) (.int x :: .int i :: .ref (ad q) :: st) := fun H locs ls hP hD hS hl => by
  obtain ⟨h0, hf⟩ := gd_some hf
  obtain ⟨k0, hk0, hk1⟩ := wd_get (G := G) (ad := ad) (b := b) hq
  rw [hcel] at hk1
  refine va_cast (D := G.1) C.1 C.2.1 C.2.2.2.2.2.1 hP hD hS k0 1 hk1 rfl (inb_in h0) d (fun H1 locs1 hP1 hD1 hS1 => ?_)
  have e := wd_set (G := G) (ad := ad) hk0 hN (hnew h0) hold
  rw [e] at hP1 hD1
  exact kk hf H1 locs1 ls hP1 hD1 hS1 hl
theorem j_zast (C : CX G A own cc nL p s m args c) {a' : KS} {b' : MS} {X : Type} {y : Option X} {r : X} {q N : Nat} {f : Nat → Int32} {i : Int32} {x : Int32} (hq : q ∈ pls (Kn a)) (hcel : cel G ad a b q = arI (G.2.1 2) N f) (hN : Kn a' = Kn a) (hnew : inb i N = true → arI (G.2.1 2) N (upd f i.toNatClampNeg (vp_nar .boolean x)) = cel G ad a' b' q) (hold : ∀ z, z ≠ q → cel G ad a b z = cel G ad a' b' z) (hf : gd (inb i N) y = some r) (d : decode cc pc = .ok (.bastore, 1)) (kk : y = some r → J p l e R s m args below meth c G A nL Q k n ad a' b' (pc + 1) (lv) (st)) : J p l e R s m args below meth c G A nL Q k n ad a b (pc) (lv) (.int x :: .int i :: .ref (ad q) :: st) := fun H locs ls hP hD hS hl => by
  obtain ⟨h0, hf⟩ := gd_some hf
  obtain ⟨k0, hk0, hk1⟩ := wd_get (G := G) (ad := ad) (b := b) hq
  rw [hcel] at hk1
  refine va_zast (D := G.1) C.1 C.2.1 C.2.2.2.2.2.1 hP hD hS k0 2 hk1 rfl (inb_in h0) d (fun H1 locs1 hP1 hD1 hS1 => ?_)
  have e := wd_set (G := G) (ad := ad) hk0 hN (hnew h0) hold
  rw [e] at hP1 hD1
  exact kk hf H1 locs1 ls hP1 hD1 hS1 hl
theorem j_last (C : CX G A own cc nL p s m args c) {a' : KS} {b' : MS} {X : Type} {y : Option X} {r : X} {q N : Nat} {f : Nat → Int64} {i : Int32} {x : Int64} (hq : q ∈ pls (Kn a)) (hcel : cel G ad a b q = arJ (G.2.1 3) N f) (hN : Kn a' = Kn a) (hnew : inb i N = true → arJ (G.2.1 3) N (vp_updL f i.toNatClampNeg x) = cel G ad a' b' q) (hold : ∀ z, z ≠ q → cel G ad a b z = cel G ad a' b' z) (hf : gd (inb i N) y = some r) (d : decode cc pc = .ok (.lastore, 1)) (kk : y = some r → J p l e R s m args below meth c G A nL Q k n ad a' b' (pc + 1) (lv) (st)) : J p l e R s m args below meth c G A nL Q k n ad a b (pc) (lv) (.long x :: .int i :: .ref (ad q) :: st) := fun H locs ls hP hD hS hl => by
  obtain ⟨h0, hf⟩ := gd_some hf
  obtain ⟨k0, hk0, hk1⟩ := wd_get (G := G) (ad := ad) (b := b) hq
  rw [hcel] at hk1
  refine va_last (D := G.1) C.1 C.2.1 C.2.2.2.2.2.1 hP hD hS k0 3 hk1 rfl (inb_in h0) d (fun H1 locs1 hP1 hD1 hS1 => ?_)
  have e := wd_set (G := G) (ad := ad) hk0 hN (hnew h0) hold
  rw [e] at hP1 hD1
  exact kk hf H1 locs1 ls hP1 hD1 hS1 hl
theorem j_alen (C : CX G A own cc nL p s m args c) {q t0 : Nat} {cA : ClassId} {x : vp_A} {ty : FieldType} {v : Int32} (hq : q ∈ pls (Kn a)) (hcel : cel G ad a b q = .inl (cA, x)) (ht : (tyG G)[t0]? = some (cA, ty)) (hv : Int32.ofNat x.1 = v) (d : decode cc pc = .ok (.arraylength, 1)) (kk : J p l e R s m args below meth c G A nL Q k n ad a b (pc + 1) (lv) (.int v :: st)) : J p l e R s m args below meth c G A nL Q k n ad a b (pc) (lv) (.ref (ad q) :: st) := fun H locs ls hP hD hS hl => by
  obtain ⟨k0, hk0, hk1⟩ := wd_get (G := G) (ad := ad) (b := b) hq
  rw [hcel] at hk1
  exact va_alen (D := G.1) C.1 C.2.1 C.2.2.2.2.2.1 hP k0 t0 hk1 ht hv d (kk H locs ls hP hD hS hl)
theorem j_iret {v : Option Value} {mc ms : Nat} {x : Int32} (C : CX G A own cc nL p s m args c) (hr : meth.sig.returnType = some .int) (hk : meth.locks = false) (hc : k ≤ mc ∧ n ≤ ms) (hv : some (.int x) = v) (d : decode cc pc = .ok (.ireturn, 1)) : J p l e R s m args below meth c G A nL (MQ below (QV v (PosW G ad a b A) A) args s mc ms A) k n ad a b pc lv [.int x] := fun H locs ls hP hD hS hl => by
  subst hv
  refine W.widen (k := mc) (n := ms) hc.1 hc.2 ?_
  exact W.iret C.1 C.2.1 hr (fun t ht hW => ⟨rfl, ⟨by rw [ht]; exact hP, hD⟩, hS.F ht⟩) hS.2.2 d hk
theorem j_lret {v : Option Value} {mc ms : Nat} {x : Int64} (C : CX G A own cc nL p s m args c) (hr : meth.sig.returnType = some .long) (hk : meth.locks = false) (hc : k ≤ mc ∧ n ≤ ms) (hv : some (.long x) = v) (d : decode cc pc = .ok (.lreturn, 1)) : J p l e R s m args below meth c G A nL (MQ below (QV v (PosW G ad a b A) A) args s mc ms A) k n ad a b pc lv [.long x] := fun H locs ls hP hD hS hl => by
  subst hv
  refine W.widen (k := mc) (n := ms) hc.1 hc.2 ?_
  exact W.lret C.1 C.2.1 hr (fun t ht hW => ⟨rfl, ⟨by rw [ht]; exact hP, hD⟩, hS.F ht⟩) hS.2.2 d hk
theorem j_dret {v : Option Value} {mc ms : Nat} {x : UInt64} (C : CX G A own cc nL p s m args c) (hr : meth.sig.returnType = some .double) (hk : meth.locks = false) (hc : k ≤ mc ∧ n ≤ ms) (hv : some (.double x) = v) (d : decode cc pc = .ok (.dreturn, 1)) : J p l e R s m args below meth c G A nL (MQ below (QV v (PosW G ad a b A) A) args s mc ms A) k n ad a b pc lv [.double x] := fun H locs ls hP hD hS hl => by
  subst hv
  refine W.widen (k := mc) (n := ms) hc.1 hc.2 ?_
  exact W.dret C.1 C.2.1 hr (fun t ht hW => ⟨rfl, ⟨by rw [ht]; exact hP, hD⟩, hS.F ht⟩) hS.2.2 d hk
theorem j_zret {v : Option Value} {mc ms : Nat} {x : Int32} {ty : FieldType} (C : CX G A own cc nL p s m args c) (hr : meth.sig.returnType = some ty) (hk : meth.locks = false) (hn : narrow ty (.int x) = .int x) (hc : k ≤ mc ∧ n ≤ ms) (hv : some (.int x) = v) (d : decode cc pc = .ok (.ireturn, 1)) : J p l e R s m args below meth c G A nL (MQ below (QV v (PosW G ad a b A) A) args s mc ms A) k n ad a b pc lv [.int x] := fun H locs ls hP hD hS hl => by
  subst hv
  refine W.widen (k := mc) (n := ms) hc.1 hc.2 ?_
  exact W.zret C.1 C.2.1 hr hn (fun t ht hW => ⟨rfl, ⟨by rw [ht]; exact hP, hD⟩, hS.F ht⟩) hS.2.2 d hk
theorem j_aret {v : Option Value} {mc ms : Nat} {x : Value} {rt : FieldType} (C : CX G A own cc nL p s m args c) (hr : meth.sig.returnType = some rt) (hk : meth.locks = false) (hrt : (∃ n, rt = .object n) ∨ ∃ t, rt = .array t) (hx : x = .null ∨ ∃ a, x = .ref a) (hc : k ≤ mc ∧ n ≤ ms) (hv : some x = v) (d : decode cc pc = .ok (.areturn, 1)) : J p l e R s m args below meth c G A nL (MQ below (QV v (PosW G ad a b A) A) args s mc ms A) k n ad a b pc lv [x] := fun H locs ls hP hD hS hl => by
  subst hv
  refine W.widen (k := mc) (n := ms) hc.1 hc.2 ?_
  exact W.aret C.1 C.2.1 hr hrt hx (fun t ht hW => ⟨rfl, ⟨by rw [ht]; exact hP, hD⟩, hS.F ht⟩) hS.2.2 d hk
theorem j_vret {v : Option Value} {mc ms : Nat} (C : CX G A own cc nL p s m args c) (hr : meth.sig.returnType = none) (hk : meth.locks = false) (hc : k ≤ mc ∧ n ≤ ms) (hv : none = v) (d : decode cc pc = .ok (.return_, 1)) : J p l e R s m args below meth c G A nL (MQ below (QV v (PosW G ad a b A) A) args s mc ms A) k n ad a b pc lv [] := fun H locs ls hP hD hS hl => by
  subst hv
  refine W.widen (k := mc) (n := ms) hc.1 hc.2 ?_
  exact W.vret C.1 C.2.1 hr (fun t ht hW => ⟨rfl, ⟨by rw [ht]; exact hP, hD⟩, hS.F ht⟩) hS.2.2 d hk
theorem itv_nr (o : Option Nat) : itv ad o = .null ∨ ∃ x, itv ad o = .ref x := by
  cases o with
  | none => exact Or.inl rfl
  | some i => exact Or.inr ⟨_, rfl⟩
/-- what the tables say of a callee -/
def CWV (y : MethodName) (bytes : ByteArray) (maxL : Nat) (ret : Option FieldType) (C : String) (na : Nat) : Prop := y.cls = C ∧ Cond.code y bytes maxL ret ∈ BIG ∧ Cond.instanceMethod y ∈ BIG ∧ Cond.selects C y y ∈ BIG ∧ Cond.initialized C ∈ BIG ∧ y.cls ≠ "java/lang/invoke/MethodHandle" ∧ y.cls ≠ "java/lang/invoke/VarHandle" ∧ (parseMethodDescriptor y.desc).map (fun d => d.parameters.length) = some na
def CWS (y : MethodName) (bytes : ByteArray) (maxL : Nat) (ret : Option FieldType) (na : Nat) : Prop := Cond.code y bytes maxL ret ∈ BIG ∧ Cond.static y ∈ BIG ∧ Cond.initialized y.cls ∈ BIG ∧ y.cls ≠ "java/lang/invoke/MethodHandle" ∧ y.cls ≠ "java/lang/invoke/VarHandle" ∧ (parseMethodDescriptor y.desc).map (fun d => d.parameters.length) = some na
theorem pre_at {H : Heap} {locs : List Loc} (C : CX G A own cc nL p s m args c) (hP : va_P G.1 vwCl (wd G ad a b) H) (hD : va_D A (wd G ad a b)) (hS : va_S A s.heap H locs) (av : List Value) (U : State) (hU : U.heap = H) (hW : s.WarmedH U.vm) : va_Pc av (PreW G ad a b H.size) av.toArray U := by
  refine ⟨rfl, by rw [hU], by rw [hU]; exact hP, va_K.moved hW.alike C.2.2.2.2.2.1, hD.weaken (fun _ _ _ _ => trivial), ?_⟩
  rw [hU]
  refine EV.mv (u := s) hW.alike (fun own k tx a h => vk_R.warm hW h) ?_
  refine EV.kn hS.2.1 ?_ C.2.2.2.2.2.2.2
  exact FP_le hD (fun q h => C.2.2.2.2.2.2.1 q (Nat.le_trans hS.1 h))
theorem run_end {H : Heap} {locs : List Loc} {ls : Array Slot} {st0 rest : List Value} {ar : Array Value} {v : Option Value} {a' : KS} {b' : MS} {mc ms : Nat} (C : CX G A own cc nL p s m args c) (hl : lv_has ls nL lv) (hD : va_D A (wd G ad a b)) (hS : va_S A s.heap H locs) (hN : Kn a' = Kn a)
    (hr : va_Run p l e R s m args below meth c H locs k n mc ms (F0 m pc ls st0) rest (QV v (PosW G ad a' b' (FP ad (Kn a) H.size)) (FP ad (Kn a) H.size) ar) (FP ad (Kn a) H.size))
    (kk : J p l e R s m args below meth c G A nL Q (k + mc) (n + ms) ad a' b' (pc + 3) (lv) (v.toList ++ rest)) : W p l e R s m args below meth c H locs k n Q (F0 m pc ls st0) := by
  intro T hT X
  obtain ⟨v1, st₀, t, T', L, h0, X', hL, e1, e2, ⟨hv, ⟨hP1, hD1⟩, hz, hk⟩, go⟩ := hr T hT X
  obtain rfl : v1 = v := by injection hv
  rw [h0] at hz hk
  have hA := FP_le hD (fun q h => C.2.2.2.2.2.2.1 q (Nat.le_trans hS.1 h))
  have hD2 : va_D A (wd G ad a' b') := hD1.weaken (fun _ _ _ h => hA _ h)
  obtain ⟨t2, a1, b1⟩ := kk T'.heap (locs ++ L) ls (by rw [e1]; exact hP1) hD2
    ⟨Nat.le_trans hS.1 (by rw [e1]; exact hz), fun q h1 h2 => by rw [e1, hk q (Nat.lt_of_lt_of_le h1 hS.1) (fun z => h2 (hA q z))]; exact hS.2.1 q h1 h2, fun q hq => by
      rcases List.mem_append.mp hq with h | h
      · exact hS.2.2 q h
      · exact hA _ (hL q h)⟩ hl T' rfl X'
  exact ⟨t2, go t2 a1, b1⟩
theorem ws_V {own C : String} {idx : Nat} {y : MethodName} {bytes : ByteArray} {maxL na : Nat} {ret : Option FieldType} (h : CWV y bytes maxL ret C na) (hl : Cond.methodLink own idx y ∈ BIG) : GoodIn BIG (wsV own idx C y (Cond.code y bytes maxL ret :: BIG)) := by
  obtain ⟨-, h1, h2, h3, h4, -⟩ := h
  refine goodIn_big (fun w hw => ?_)
  rcases List.mem_append.mp hw with hw | hw
  · simp only [List.mem_cons, List.mem_nil_iff, or_false] at hw
    rcases hw with rfl | rfl | rfl | rfl
    · exact hl
    · exact h2
    · exact h3
    · exact h4
  · rcases List.mem_cons.mp hw with rfl | hw
    · exact h1
    · exact hw
theorem ws_S {own : String} {idx : Nat} {y : MethodName} {bytes : ByteArray} {maxL na : Nat} {ret : Option FieldType} (h : CWS y bytes maxL ret na) (hl : Cond.methodLink own idx y ∈ BIG) : GoodIn BIG (va_wsS own idx y (Cond.code y bytes maxL ret :: BIG)) := by
  obtain ⟨h1, h2, h3, -⟩ := h
  refine goodIn_big (fun w hw => ?_)
  rcases List.mem_append.mp hw with hw | hw
  · simp only [List.mem_cons, List.mem_nil_iff, or_false] at hw
    rcases hw with rfl | rfl | rfl
    · exact hl
    · exact h2
    · exact h3
  · rcases List.mem_cons.mp hw with rfl | hw
    · exact h1
    · exact hw
/-- a call of an object's method -/
theorem j_callV (C : CX G A own cc nL p s m args c) {y : MethodName} {bytes : ByteArray} {maxL na idx q ci N : Nat} {ret : Option FieldType} {rm : Room} {As rest : List Value} {v : Option Value} {a' : KS} {b' : MS} {fs : List Value} {RC : String} {T : u_T} (hM : MT l G y bytes maxL ret rm (.ref (ad q) :: As) ad a b v a' b') (cw : CWV y bytes maxL ret RC na) (hlink : Cond.methodLink own idx y ∈ BIG) (hq : q ∈ pls (Kn a)) (hcel : cel G ad a b q = .inr (ci, fs)) (hc : vwCl[ci]? = some (RC, T, N)) (hna : As.length = na)
    (hR : rm.frames + 1 ≤ R.frames ∧ 8 + (maxL + 11) + rm.locals ≤ R.locals) (hcs : k + rm.cells ≤ R.cells ∧ n + rm.slots ≤ R.slots) (hst : st = As.reverse ++ .ref (ad q) :: rest) (hW : (rest.map fun v => v.category).sum ≤ 8) (d : decode cc pc = .ok (.invokevirtual idx, 3)) (kk : J p l e R s m args below meth c G A nL Q (k + rm.cells) (n + rm.slots) ad a' b' (pc + 3) (lv) (v.toList ++ rest)) : J p l e R s m args below meth c G A nL Q k n ad a b (pc) (lv) (st) := fun H locs ls hP hD hS hl => by
  obtain ⟨k0, hk0, hk1⟩ := wd_get (G := G) (ad := ad) (b := b) hq
  rw [hcel] at hk1
  obtain ⟨hN, hM⟩ := hM
  have cw1 := cwV (R := R) (s := s) (args := args) (rm := rm) na C.2.2.2.2.1 (ws_V (own := own) cw hlink) rfl rfl rfl ⟨cw.1, cw.2.2.2.2.2.1, cw.2.2.2.2.2.2.1, cw.2.2.2.2.2.2.2⟩ hR
  refine run_end C hl hD hS hN (va_runV (As := As) (rest := rest) ⟨C.1, C.2.1, C.2.2.1, C.2.2.2.1, C.2.2.2.2.1⟩ (hM H.size) cw1 ⟨pre_blind, va_recv C.2.2.2.2.2.1 hP hc hk1, fun U hU hW => pre_at C hP hD hS _ U hU hW⟩ rfl hna hl.1 hst (by simpa [JFrame.monitorRoom, F0] using hW) d hcs) kk
/-- a call of a static method -/
theorem j_callS (C : CX G A own cc nL p s m args c) {y : MethodName} {bytes : ByteArray} {maxL na idx : Nat} {ret : Option FieldType} {rm : Room} {As rest : List Value} {v : Option Value} {a' : KS} {b' : MS} (hM : MT l G y bytes maxL ret rm As ad a b v a' b') (cw : CWS y bytes maxL ret na) (hlink : Cond.methodLink own idx y ∈ BIG) (hna : As.length = na)
    (hR : rm.frames + 1 ≤ R.frames ∧ 8 + (maxL + 11) + rm.locals ≤ R.locals) (hcs : k + rm.cells ≤ R.cells ∧ n + rm.slots ≤ R.slots) (hst : st = As.reverse ++ rest) (hW : (rest.map fun v => v.category).sum ≤ 8) (d : decode cc pc = .ok (.invokestatic idx, 3)) (kk : J p l e R s m args below meth c G A nL Q (k + rm.cells) (n + rm.slots) ad a' b' (pc + 3) (lv) (v.toList ++ rest)) : J p l e R s m args below meth c G A nL Q k n ad a b (pc) (lv) (st) := fun H locs ls hP hD hS hl => by
  obtain ⟨hN, hM⟩ := hM
  have cw1 := va_cwS (R := R) (s := s) (args := args) (rm := rm) na C.2.2.2.2.1 (ws_S (own := own) cw hlink) rfl rfl rfl ⟨cw.2.2.2.1, cw.2.2.2.2.1, cw.2.2.2.2.2⟩ hR
  refine run_end C hl hD hS hN (va_runS (As := As) (rest := rest) ⟨C.1, C.2.1, C.2.2.1, C.2.2.2.1, C.2.2.2.2.1⟩ (hM H.size) cw1 ⟨pre_blind, fun U hU hW => pre_at C hP hD hS _ U hU hW⟩ rfl hna hl.1 hst (by simpa [JFrame.monitorRoom, F0] using hW) d hcs) kk
/-- fewer locals are known -/
theorem j_sub (ks : List Nat) {lv' : List (Nat × Value)} (h : lv_pick lv ks = lv') (kk : J p l e R s m args below meth c G A nL Q k n ad a b (pc) (lv') (st)) : J p l e R s m args below meth c G A nL Q k n ad a b (pc) (lv) (st) := fun H locs ls hP hD hS hl => kk H locs ls hP hD hS (lv_sub hl ks h)
end JR
end
