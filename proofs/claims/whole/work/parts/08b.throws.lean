def exNm : List String := ["java/lang/RuntimeException", "java/lang/Exception"]
theorem at_1 : ∀ w ∈ vx_atS RX8 150 (exN 1) exNm, w ∈ lw_tbl ∧ (goodWord w = true ∨ w ∈ exW) := by decide +kernel
theorem at_2 : ∀ w ∈ vx_atS RX8 81 (exN 2) exNm, w ∈ lw_tbl ∧ (goodWord w = true ∨ w ∈ exW) := by decide +kernel
theorem at_3 : ∀ w ∈ vx_atS RX8 70 (exN 3) exNm, w ∈ lw_tbl ∧ (goodWord w = true ∨ w ∈ exW) := by decide +kernel
theorem ck_1 : Cond.classLink RX8 146 (exN 1) ∈ BIG := big_of 762 (by decide +kernel) (by decide +kernel)
theorem ck_2 : Cond.classLink RX8 77 (exN 2) ∈ BIG := big_of 829 (by decide +kernel) (by decide +kernel)
theorem ck_3 : Cond.classLink RX8 66 (exN 3) ∈ BIG := big_of 845 (by decide +kernel) (by decide +kernel)
theorem xi_1 : Cond.initialized (exN 1) ∈ BIG := big_of 89 (by decide +kernel) (by decide +kernel)
theorem xi_2 : Cond.initialized (exN 2) ∈ BIG := big_of 90 (by decide +kernel) (by decide +kernel)
theorem xi_3 : Cond.initialized (exN 3) ∈ BIG := big_of 91 (by decide +kernel) (by decide +kernel)
theorem og_1 : ∀ w ∈ Cond.classLink RX8 146 (exN 1) :: Cond.initialized (exN 1) :: vx_atS RX8 150 (exN 1) exNm, vx_ot w = true := by decide +kernel
theorem og_2 : ∀ w ∈ Cond.classLink RX8 77 (exN 2) :: Cond.initialized (exN 2) :: vx_atS RX8 81 (exN 2) exNm, vx_ot w = true := by decide +kernel
theorem og_3 : ∀ w ∈ Cond.classLink RX8 66 (exN 3) :: Cond.initialized (exN 3) :: vx_atS RX8 70 (exN 3) exNm, vx_ot w = true := by decide +kernel
theorem fit_1 : Bundle.fit (exN 1) = true := by decide +kernel
theorem fit_2 : Bundle.fit (exN 2) = true := by decide +kernel
theorem fit_3 : Bundle.fit (exN 3) = true := by decide +kernel
theorem fitN : ∀ n ∈ exNm, Bundle.fit n = true := by decide +kernel
def AG (ad ad' : Nat → Nat) (n : Nat) : Prop := ∀ z, z ∈ pls n → ad' z = ad z
/-- .. and the world may stand at more places behind it: ad' -/
def PosA (G : GT) (ad : Nat → Nat) (n : Nat) (a : KS) (b : MS) (A : Nat → Prop) (t : State) : Prop := ∃ ad' : Nat → Nat, AG ad ad' n ∧ PosW G ad' a b A t
def RX (h c s : Nat) : Room := { frames := h, cells := c, slots := s, locals := 35 * h }
def QX (code : Nat) (v : Option Value) (B : State → Prop) (A : Nat → Prop) : Array Value → State → Outcome → State → Prop := fun ar st oc t => code = 0 ∧ QV v B A ar st oc t
def XX (code : Nat) (B : State → Prop) (A : Nat → Prop) : String → State → State → Prop := fun E st t => ¬ code = 0 ∧ E = exN code ∧ B t ∧ va_F A st t
/-- the contract of a method that returns (code 0) or throws exN code -/
def MX (l : Launch) (G : GT) (y : MethodName) (cc : ByteArray) (nL : Nat) (ret : Option FieldType) (rm : Room) (av : List Value) (ad : Nat → Nat) (a : KS) (b : MS) (code : Nat) (v : Option Value) (a' : KS) (b' : MS) : Prop :=
  ∀ sz : Nat, vx_Met l y (Cond.code y cc nL ret :: BIG) rm (va_Pc av (PreW G ad a b sz)) (QX code v (PosW G ad a' b' (FP ad (Kn a) sz)) (FP ad (Kn a) sz)) (XX code (PosW G ad a' b' (FP ad (Kn a) sz)) (FP ad (Kn a) sz)) rm.cells rm.slots (FP ad (Kn a) sz)
set_option maxHeartbeats 4000000 in
theorem MX_of {l : Launch} {G : GT} {y : MethodName} {cc : ByteArray} {nL : Nat} {ret : Option FieldType} {rm : Room} {av : List Value} {ad : Nat → Nat} {a a' : KS} {b b' : MS} {code : Nat} {v : Option Value} {lv : List (Nat × Value)} (hy : plainName y.cls = true) (hlen : (lg_sl av).length ≤ nL) (hlv : lv_args 0 av = lv)
    (body : ∀ (p : Program) (e : Env) (s : State) (m : MethodId) (args : Array Value) (below : List Frame) (meth : Method) (c : Code) (A : Nat → Prop), CX G A y.cls cc nL p s m args c → meth.sig.returnType = ret → meth.locks = false → (∀ x ∈ c.exceptionTable.toList, False) →
      J p l e rm s m args below meth c G A nL (vx_MQ below (QX code v (PosW G ad a' b' A) A) (XX code (PosW G ad a' b' A) A) args s rm.cells rm.slots A) 0 0 ad a b 0 lv []) : MX l G y cc nL ret rm av ad a b code v a' b' := by
  intro sz
  subst hlv
  refine vx_ofW (cc := cc) (maxL := nL) (ret := ret) hy rfl ?_
  intro p e s m args below meth c s₁ B hml htab hv
  obtain ⟨rfl, rfl, hP, hK, hD, hE⟩ := hv
  have hts : ∀ w ∈ (Cond.code y cc nL ret :: BIG), w.before _ s = true := atoms_spec (ws := Cond.code y cc nL ret :: BIG) B.pre
  have hown : s.vm.findClass y.cls = some m.cls := findClass_of_methodNamed B.named
  have hl := lv_entry av (n := nL) hlen
  rw [lg_entry_eq]
  exact body p e s m _ below meth c _ ⟨B.exec, B.bytes, hml, hown, fun w h => hts w (List.mem_cons_of_mem _ h), hK, fun q h => Or.inr h, hE⟩ B.returns B.notSynchronized htab s.heap [] _ hP (wd_DF hD _) va_S.rf hl
/-- the contract of a method that may make an item -/
def MA (l : Launch) (G : GT) (y : MethodName) (cc : ByteArray) (nL : Nat) (ret : Option FieldType) (rm : Room) (av : List Value) (ad : Nat → Nat) (a : KS) (b : MS) (code : Nat) (v : Option Value) (a' : KS) (b' : MS) : Prop :=
  ∀ sz : Nat, vx_Met l y (Cond.code y cc nL ret :: BIG) rm (va_Pc av (PreW G ad a b sz)) (QX code v (PosA G ad (Kn a) a' b' (FP ad (Kn a) sz)) (FP ad (Kn a) sz)) (XX code (PosW G ad a' b' (FP ad (Kn a) sz)) (FP ad (Kn a) sz)) rm.cells rm.slots (FP ad (Kn a) sz)
set_option maxHeartbeats 4000000 in
theorem MA_of {l : Launch} {G : GT} {y : MethodName} {cc : ByteArray} {nL : Nat} {ret : Option FieldType} {rm : Room} {av : List Value} {ad : Nat → Nat} {a a' : KS} {b b' : MS} {code : Nat} {v : Option Value} {lv : List (Nat × Value)} (hy : plainName y.cls = true) (hlen : (lg_sl av).length ≤ nL) (hlv : lv_args 0 av = lv)
    (body : ∀ (p : Program) (e : Env) (s : State) (m : MethodId) (args : Array Value) (below : List Frame) (meth : Method) (c : Code) (A : Nat → Prop), CX G A y.cls cc nL p s m args c → meth.sig.returnType = ret → meth.locks = false → (∀ x ∈ c.exceptionTable.toList, False) →
      J p l e rm s m args below meth c G A nL (vx_MQ below (QX code v (PosA G ad (Kn a) a' b' A) A) (XX code (PosW G ad a' b' A) A) args s rm.cells rm.slots A) 0 0 ad a b 0 lv []) : MA l G y cc nL ret rm av ad a b code v a' b' := by
  intro sz
  subst hlv
  refine vx_ofW (cc := cc) (maxL := nL) (ret := ret) hy rfl ?_
  intro p e s m args below meth c s₁ B hml htab hv
  obtain ⟨rfl, rfl, hP, hK, hD, hE⟩ := hv
  have hts : ∀ w ∈ (Cond.code y cc nL ret :: BIG), w.before _ s = true := atoms_spec (ws := Cond.code y cc nL ret :: BIG) B.pre
  have hown : s.vm.findClass y.cls = some m.cls := findClass_of_methodNamed B.named
  have hl := lv_entry av (n := nL) hlen
  rw [lg_entry_eq]
  exact body p e s m _ below meth c _ ⟨B.exec, B.bytes, hml, hown, fun w h => hts w (List.mem_cons_of_mem _ h), hK, fun q h => Or.inr h, hE⟩ B.returns B.notSynchronized htab s.heap [] _ hP (wd_DF hD _) va_S.rf hl
section TH
variable {p : Program} {l : Launch} {e : Env} {R : Room} {s : State} {m : MethodId} {args : Array Value} {below : List Frame} {meth : Method} {c : Code} {G : GT} {A : Nat → Prop} {nL : Nat} {Q : State → Prop} {k n : Nat} {ad : Nat → Nat} {a : KS} {b : MS} {own : String} {cc : ByteArray} {pc : Nat} {lv : List (Nat × Value)} {st : List Value}
theorem j_widen (k' n' : Nat) (h1 : k ≤ k') (h2 : n ≤ n') (kk : J p l e R s m args below meth c G A nL Q k' n' ad a b (pc) (lv) (st)) : J p l e R s m args below meth c G A nL Q k n ad a b (pc) (lv) (st) := fun H locs ls hP hD hS hl => W.widen (k := k') (n := n') h1 h2 (kk H locs ls hP hD hS hl)
/-- q has been thrown out of the call at pc -/
def JX (p : Program) (l : Launch) (e : Env) (R : Room) (s : State) (m : MethodId) (args : Array Value) (below : List Frame) (meth : Method) (c : Code) (G : GT) (A : Nat → Prop) (nL : Nat) (Q : State → Prop) (k n : Nat) (ad : Nat → Nat) (a : KS) (b : MS) (E : String) (pc : Nat) (lv : List (Nat × Value)) (st : List Value) : Prop :=
  ∀ (H : Heap) (locs : List Loc) (ls : Array Slot) (q : Addr) (ce : Cell), va_P G.1 vwCl (wd G ad a b) H → va_D A (wd G ad a b) → va_S A s.heap H locs → lv_has ls nL lv → H[q]? = some ce → ce.vm = .none → s.vm.findClass E = some ce.cls → vx_W p l e R s m args below meth c H locs k n Q (F0 m pc ls st) q
theorem j_xout {code mc ms : Nat} {Qc : Array Value → State → Outcome → State → Prop} (htab : ∀ x ∈ c.exceptionTable.toList, False) (hlocks : meth.locks = false) (hcode : ¬ code = 0) (hc : k ≤ mc ∧ n ≤ ms) : JX p l e R s m args below meth c G A nL (vx_MQ below Qc (XX code (PosW G ad a b A) A) args s mc ms A) k n ad a b (exN code) pc lv st := fun H locs ls q ce hP hD hS hl hce hvm hcl =>
  vx_out (fun x hx => (htab x hx).elim) hlocks hce hvm hcl (fun t ht hW => ⟨hcode, rfl, ⟨by rw [ht]; exact hP, hD⟩, hS.F ht⟩) hS.2.2 hc.1 hc.2
theorem x_run_end {H : Heap} {locs : List Loc} {ls : Array Slot} {st0 rest : List Value} {ar : Array Value} {code : Nat} {v : Option Value} {a' : KS} {b' : MS} {mc ms : Nat} (C : CX G A own cc nL p s m args c) (hl : lv_has ls nL lv) (hD : va_D A (wd G ad a b)) (hS : va_S A s.heap H locs)
    (hr : vx_Run p l e R s m args below meth c H locs k n mc ms (F0 m pc ls st0) rest (QX code v (PosW G ad a' b' (FP ad (Kn a) H.size)) (FP ad (Kn a) H.size) ar) (XX code (PosW G ad a' b' (FP ad (Kn a) H.size)) (FP ad (Kn a) H.size)) (FP ad (Kn a) H.size))
    (kx : ¬ code = 0 → JX p l e R s m args below meth c G A nL Q (k + mc) (n + ms) ad a' b' (exN code) pc lv rest)
    (kk : code = 0 → J p l e R s m args below meth c G A nL Q (k + mc) (n + ms) ad a' b' (pc + 3) (lv) (v.toList ++ rest)) : W p l e R s m args below meth c H locs k n Q (F0 m pc ls st0) := by
  intro T hT X
  have hA := FP_le hD (fun q h => C.2.2.2.2.2.2.1 q (Nat.le_trans hS.1 h))
  rcases hr T hT X with ⟨v1, st₀, t, T', L, h0, X', hL, e1, e2, ⟨hcd, hv, ⟨hP1, hD1⟩, hz, hk⟩, go⟩ | ⟨q9, st₀, t, T', L, E, ce, h0, X', hL, e1, e2, ⟨hcd, hE, ⟨hP1, hD1⟩, hz, hk⟩, hce, hcv, hcl, go⟩
  · obtain rfl : v1 = v := by injection hv
    rw [h0] at hz hk
    have hD2 : va_D A (wd G ad a' b') := hD1.weaken (fun _ _ _ h => hA _ h)
    obtain ⟨t2, a1, b1⟩ := kk hcd T'.heap (locs ++ L) ls (by rw [e1]; exact hP1) hD2
      ⟨Nat.le_trans hS.1 (by rw [e1]; exact hz), fun q h1 h2 => by rw [e1, hk q (Nat.lt_of_lt_of_le h1 hS.1) (fun z => h2 (hA q z))]; exact hS.2.1 q h1 h2, fun q hq => by
        rcases List.mem_append.mp hq with h | h
        · exact hS.2.2 q h
        · exact hA _ (hL q h)⟩ hl T' rfl X'
    exact ⟨t2, go t2 a1, b1⟩
  · subst hE
    rw [h0] at hz hk
    have hD2 : va_D A (wd G ad a' b') := hD1.weaken (fun _ _ _ h => hA _ h)
    obtain ⟨t2, a1, b1⟩ := kx hcd T'.heap (locs ++ L) ls q9 ce (by rw [e1]; exact hP1) hD2
      ⟨Nat.le_trans hS.1 (by rw [e1]; exact hz), fun q h1 h2 => by rw [e1, hk q (Nat.lt_of_lt_of_le h1 hS.1) (fun z => h2 (hA q z))]; exact hS.2.1 q h1 h2, fun q hq => by
        rcases List.mem_append.mp hq with h | h
        · exact hS.2.2 q h
        · exact hA _ (hL q h)⟩ hl (by rw [e1]; exact hce) hcv hcl T' rfl X'
    exact ⟨t2, go.trans a1, b1⟩
theorem j_xcallV (C : CX G A own cc nL p s m args c) {y : MethodName} {bytes : ByteArray} {maxL na idx q ci N code : Nat} {ret : Option FieldType} {rm : Room} {As rest : List Value} {v : Option Value} {a' : KS} {b' : MS} {fs : List Value} {RC : String} {T : u_T} (hM : MX l G y bytes maxL ret rm (.ref (ad q) :: As) ad a b code v a' b') (cw : CWV y bytes maxL ret RC na) (hlink : Cond.methodLink own idx y ∈ BIG) (hq : q ∈ pls (Kn a)) (hcel : cel G ad a b q = .inr (ci, fs)) (hc : vwCl[ci]? = some (RC, T, N)) (hna : As.length = na)
    (hR : rm.frames + 1 ≤ R.frames ∧ 8 + (maxL + 11) + rm.locals ≤ R.locals) (hcs : k + rm.cells ≤ R.cells ∧ n + rm.slots ≤ R.slots) (hst : st = As.reverse ++ .ref (ad q) :: rest) (hW : (rest.map fun v => v.category).sum ≤ 8) (d : decode cc pc = .ok (.invokevirtual idx, 3))
    (kx : ¬ code = 0 → JX p l e R s m args below meth c G A nL Q (k + rm.cells) (n + rm.slots) ad a' b' (exN code) pc lv rest) (kk : code = 0 → J p l e R s m args below meth c G A nL Q (k + rm.cells) (n + rm.slots) ad a' b' (pc + 3) (lv) (v.toList ++ rest)) : J p l e R s m args below meth c G A nL Q k n ad a b (pc) (lv) (st) := fun H locs ls hP hD hS hl => by
  obtain ⟨k0, hk0, hk1⟩ := wd_get (G := G) (ad := ad) (b := b) hq
  rw [hcel] at hk1
  have cw1 := cwV (R := R) (s := s) (args := args) (rm := rm) na C.2.2.2.2.1 (ws_V (own := own) cw hlink) rfl rfl rfl ⟨cw.1, cw.2.2.2.2.2.1, cw.2.2.2.2.2.2.1, cw.2.2.2.2.2.2.2⟩ hR
  exact x_run_end C hl hD hS (vx_runV (As := As) (rest := rest) ⟨C.1, C.2.1, C.2.2.1, C.2.2.2.1, C.2.2.2.2.1⟩ (hM H.size) cw1 ⟨pre_blind, va_recv C.2.2.2.2.2.1 hP hc hk1, fun U hU hW => pre_at C hP hD hS _ U hU hW⟩ rfl hna hl.1 hst (by simpa [JFrame.monitorRoom, F0] using hW) d hcs) kx kk
theorem j_xcallS (C : CX G A own cc nL p s m args c) {y : MethodName} {bytes : ByteArray} {maxL na idx code : Nat} {ret : Option FieldType} {rm : Room} {As rest : List Value} {v : Option Value} {a' : KS} {b' : MS} (hM : MX l G y bytes maxL ret rm As ad a b code v a' b') (cw : CWS y bytes maxL ret na) (hlink : Cond.methodLink own idx y ∈ BIG) (hna : As.length = na)
    (hR : rm.frames + 1 ≤ R.frames ∧ 8 + (maxL + 11) + rm.locals ≤ R.locals) (hcs : k + rm.cells ≤ R.cells ∧ n + rm.slots ≤ R.slots) (hst : st = As.reverse ++ rest) (hW : (rest.map fun v => v.category).sum ≤ 8) (d : decode cc pc = .ok (.invokestatic idx, 3))
    (kx : ¬ code = 0 → JX p l e R s m args below meth c G A nL Q (k + rm.cells) (n + rm.slots) ad a' b' (exN code) pc lv rest) (kk : code = 0 → J p l e R s m args below meth c G A nL Q (k + rm.cells) (n + rm.slots) ad a' b' (pc + 3) (lv) (v.toList ++ rest)) : J p l e R s m args below meth c G A nL Q k n ad a b (pc) (lv) (st) := fun H locs ls hP hD hS hl => by
  have cw1 := va_cwS (R := R) (s := s) (args := args) (rm := rm) na C.2.2.2.2.1 (ws_S (own := own) cw hlink) rfl rfl rfl ⟨cw.2.2.2.1, cw.2.2.2.2.1, cw.2.2.2.2.2⟩ hR
  exact x_run_end C hl hD hS (vx_runS (As := As) (rest := rest) ⟨C.1, C.2.1, C.2.2.1, C.2.2.2.1, C.2.2.2.2.1⟩ (hM H.size) cw1 ⟨pre_blind, fun U hU hW => pre_at C hP hD hS _ U hU hW⟩ rfl hna hl.1 hst (by simpa [JFrame.monitorRoom, F0] using hW) d hcs) kx kk
theorem a_run_end {H : Heap} {locs : List Loc} {ls : Array Slot} {st0 rest : List Value} {ar : Array Value} {code : Nat} {v : Option Value} {a' : KS} {b' : MS} {mc ms : Nat} (C : CX G A own cc nL p s m args c) (hl : lv_has ls nL lv) (hD : va_D A (wd G ad a b)) (hS : va_S A s.heap H locs)
    (hr : vx_Run p l e R s m args below meth c H locs k n mc ms (F0 m pc ls st0) rest (QX code v (PosA G ad (Kn a) a' b' (FP ad (Kn a) H.size)) (FP ad (Kn a) H.size) ar) (XX code (PosW G ad a' b' (FP ad (Kn a) H.size)) (FP ad (Kn a) H.size)) (FP ad (Kn a) H.size))
    (kx : ¬ code = 0 → JX p l e R s m args below meth c G A nL Q (k + mc) (n + ms) ad a' b' (exN code) pc lv rest)
    (kk : ∀ ad' : Nat → Nat, AG ad ad' (Kn a) → code = 0 → J p l e R s m args below meth c G A nL Q (k + mc) (n + ms) ad' a' b' (pc + 3) lv (v.toList ++ rest)) : W p l e R s m args below meth c H locs k n Q (F0 m pc ls st0) := by
  intro T hT X
  have hA := FP_le hD (fun q h => C.2.2.2.2.2.2.1 q (Nat.le_trans hS.1 h))
  rcases hr T hT X with ⟨v1, st₀, t, T', L, h0, X', hL, e1, e2, ⟨hcd, hv, ⟨ad', hag, hP1, hD1⟩, hz, hk⟩, go⟩ | ⟨q9, st₀, t, T', L, E, ce, h0, X', hL, e1, e2, ⟨hcd, hE, ⟨hP1, hD1⟩, hz, hk⟩, hce, hcv, hcl, go⟩
  · obtain rfl : v1 = v := by injection hv
    rw [h0] at hz hk
    have hD2 : va_D A (wd G ad' a' b') := hD1.weaken (fun _ _ _ h => hA _ h)
    obtain ⟨t2, a1, b1⟩ := kk ad' hag hcd T'.heap (locs ++ L) ls (by rw [e1]; exact hP1) hD2
      ⟨Nat.le_trans hS.1 (by rw [e1]; exact hz), fun q h1 h2 => by rw [e1, hk q (Nat.lt_of_lt_of_le h1 hS.1) (fun z => h2 (hA q z))]; exact hS.2.1 q h1 h2, fun q hq => by
        rcases List.mem_append.mp hq with h | h
        · exact hS.2.2 q h
        · exact hA _ (hL q h)⟩ hl T' rfl X'
    exact ⟨t2, go t2 a1, b1⟩
  · subst hE
    rw [h0] at hz hk
    have hD2 : va_D A (wd G ad a' b') := hD1.weaken (fun _ _ _ h => hA _ h)
    obtain ⟨t2, a1, b1⟩ := kx hcd T'.heap (locs ++ L) ls q9 ce (by rw [e1]; exact hP1) hD2
      ⟨Nat.le_trans hS.1 (by rw [e1]; exact hz), fun q h1 h2 => by rw [e1, hk q (Nat.lt_of_lt_of_le h1 hS.1) (fun z => h2 (hA q z))]; exact hS.2.1 q h1 h2, fun q hq => by
        rcases List.mem_append.mp hq with h | h
        · exact hS.2.2 q h
        · exact hA _ (hL q h)⟩ hl (by rw [e1]; exact hce) hcv hcl T' rfl X'
    exact ⟨t2, go.trans a1, b1⟩
theorem j_acallV (C : CX G A own cc nL p s m args c) {y : MethodName} {bytes : ByteArray} {maxL na idx q ci N code : Nat} {ret : Option FieldType} {rm : Room} {As rest : List Value} {v : Option Value} {a' : KS} {b' : MS} {fs : List Value} {RC : String} {T : u_T} (hM : MA l G y bytes maxL ret rm (.ref (ad q) :: As) ad a b code v a' b') (cw : CWV y bytes maxL ret RC na) (hlink : Cond.methodLink own idx y ∈ BIG) (hq : q ∈ pls (Kn a)) (hcel : cel G ad a b q = .inr (ci, fs)) (hc : vwCl[ci]? = some (RC, T, N)) (hna : As.length = na)
    (hR : rm.frames + 1 ≤ R.frames ∧ 8 + (maxL + 11) + rm.locals ≤ R.locals) (hcs : k + rm.cells ≤ R.cells ∧ n + rm.slots ≤ R.slots) (hst : st = As.reverse ++ .ref (ad q) :: rest) (hW : (rest.map fun v => v.category).sum ≤ 8) (d : decode cc pc = .ok (.invokevirtual idx, 3))
    (kx : ¬ code = 0 → JX p l e R s m args below meth c G A nL Q (k + rm.cells) (n + rm.slots) ad a' b' (exN code) pc lv rest) (kk : ∀ ad' : Nat → Nat, AG ad ad' (Kn a) → code = 0 → J p l e R s m args below meth c G A nL Q (k + rm.cells) (n + rm.slots) ad' a' b' (pc + 3) lv (v.toList ++ rest)) : J p l e R s m args below meth c G A nL Q k n ad a b (pc) (lv) (st) := fun H locs ls hP hD hS hl => by
  obtain ⟨k0, hk0, hk1⟩ := wd_get (G := G) (ad := ad) (b := b) hq
  rw [hcel] at hk1
  have cw1 := cwV (R := R) (s := s) (args := args) (rm := rm) na C.2.2.2.2.1 (ws_V (own := own) cw hlink) rfl rfl rfl ⟨cw.1, cw.2.2.2.2.2.1, cw.2.2.2.2.2.2.1, cw.2.2.2.2.2.2.2⟩ hR
  exact a_run_end C hl hD hS (vx_runV (As := As) (rest := rest) ⟨C.1, C.2.1, C.2.2.1, C.2.2.2.1, C.2.2.2.2.1⟩ (hM H.size) cw1 ⟨pre_blind, va_recv C.2.2.2.2.2.1 hP hc hk1, fun U hU hW => pre_at C hP hD hS _ U hU hW⟩ rfl hna hl.1 hst (by simpa [JFrame.monitorRoom, F0] using hW) d hcs) kx kk
theorem j_airet {ad0 : Nat → Nat} {n0 : Nat} {Xc : String → State → State → Prop} {code mc ms : Nat} {v : Option Value} {x : Int32} (C : CX G A own cc nL p s m args c) (hr : meth.sig.returnType = some .int) (hk : meth.locks = false) (hag : AG ad0 ad n0) (hc : k ≤ mc ∧ n ≤ ms) (hcd : code = 0) (hv : some (.int x) = v) (d : decode cc pc = .ok (.ireturn, 1)) : J p l e R s m args below meth c G A nL (vx_MQ below (QX code v (PosA G ad0 n0 a b A) A) Xc args s mc ms A) k n ad a b pc lv [.int x] := fun H locs ls hP hD hS hl => by
  subst hv
  refine W.widen (k := mc) (n := ms) hc.1 hc.2 (vx_ret ?_)
  exact W.iret C.1 C.2.1 hr (fun t ht hW => ⟨hcd, rfl, ⟨ad, hag, by rw [ht]; exact hP, hD⟩, hS.F ht⟩) hS.2.2 d hk
/-! ends of a method that may throw -/
theorem j_xiret {code mc ms : Nat} {v : Option Value} {x : Int32} (C : CX G A own cc nL p s m args c) (hr : meth.sig.returnType = some .int) (hk : meth.locks = false) (hc : k ≤ mc ∧ n ≤ ms) (hcd : code = 0) (hv : some (.int x) = v) (d : decode cc pc = .ok (.ireturn, 1)) : J p l e R s m args below meth c G A nL (vx_MQ below (QX code v (PosW G ad a b A) A) (XX code (PosW G ad a b A) A) args s mc ms A) k n ad a b pc lv [.int x] := fun H locs ls hP hD hS hl => by
  subst hv
  refine W.widen (k := mc) (n := ms) hc.1 hc.2 (vx_ret ?_)
  exact W.iret C.1 C.2.1 hr (fun t ht hW => ⟨hcd, rfl, ⟨by rw [ht]; exact hP, hD⟩, hS.F ht⟩) hS.2.2 d hk
theorem j_xzret {code mc ms : Nat} {v : Option Value} {x : Int32} {ty : FieldType} (C : CX G A own cc nL p s m args c) (hr : meth.sig.returnType = some ty) (hk : meth.locks = false) (hn : narrow ty (.int x) = .int x) (hc : k ≤ mc ∧ n ≤ ms) (hcd : code = 0) (hv : some (.int x) = v) (d : decode cc pc = .ok (.ireturn, 1)) : J p l e R s m args below meth c G A nL (vx_MQ below (QX code v (PosW G ad a b A) A) (XX code (PosW G ad a b A) A) args s mc ms A) k n ad a b pc lv [.int x] := fun H locs ls hP hD hS hl => by
  subst hv
  refine W.widen (k := mc) (n := ms) hc.1 hc.2 (vx_ret ?_)
  exact W.zret C.1 C.2.1 hr hn (fun t ht hW => ⟨hcd, rfl, ⟨by rw [ht]; exact hP, hD⟩, hS.F ht⟩) hS.2.2 d hk
theorem j_xaret {code mc ms : Nat} {v : Option Value} {x : Value} {rt : FieldType} (C : CX G A own cc nL p s m args c) (hr : meth.sig.returnType = some rt) (hk : meth.locks = false) (hrt : (∃ n, rt = .object n) ∨ ∃ t, rt = .array t) (hx : x = .null ∨ ∃ a, x = .ref a) (hc : k ≤ mc ∧ n ≤ ms) (hcd : code = 0) (hv : some x = v) (d : decode cc pc = .ok (.areturn, 1)) : J p l e R s m args below meth c G A nL (vx_MQ below (QX code v (PosW G ad a b A) A) (XX code (PosW G ad a b A) A) args s mc ms A) k n ad a b pc lv [x] := fun H locs ls hP hD hS hl => by
  subst hv
  refine W.widen (k := mc) (n := ms) hc.1 hc.2 (vx_ret ?_)
  exact W.aret C.1 C.2.1 hr hrt hx (fun t ht hW => ⟨hcd, rfl, ⟨by rw [ht]; exact hP, hD⟩, hS.F ht⟩) hS.2.2 d hk
theorem j_xvret {code mc ms : Nat} {v : Option Value} (C : CX G A own cc nL p s m args c) (hr : meth.sig.returnType = none) (hk : meth.locks = false) (hc : k ≤ mc ∧ n ≤ ms) (hcd : code = 0) (hv : none = v) (d : decode cc pc = .ok (.return_, 1)) : J p l e R s m args below meth c G A nL (vx_MQ below (QX code v (PosW G ad a b A) A) (XX code (PosW G ad a b A) A) args s mc ms A) k n ad a b pc lv [] := fun H locs ls hP hD hS hl => by
  subst hv
  refine W.widen (k := mc) (n := ms) hc.1 hc.2 (vx_ret ?_)
  exact W.vret C.1 C.2.1 hr (fun t ht hW => ⟨hcd, rfl, ⟨by rw [ht]; exact hP, hD⟩, hS.F ht⟩) hS.2.2 d hk
theorem hat_of (C : CX G A own cc nL p s m args c) {L : List Cond} (h : ∀ w ∈ L, w ∈ lw_tbl ∧ (goodWord w = true ∨ w ∈ exW)) : ∀ w ∈ L, w.before args s = true := by
  intro w hw
  obtain ⟨h1, h2⟩ := h w hw
  rcases h2 with h2 | h2
  · exact C.2.2.2.2.1 w (List.mem_filter.mpr ⟨h1, h2⟩)
  · exact exW_use C.2.2.2.2.2.2.2 w h2
theorem hx_of {H : Heap} {locs : List Loc} (hP : va_P G.1 vwCl (wd G ad a b) H) (hD : va_D A (wd G ad a b)) (hS : va_S A s.heap H locs) {code : Nat} (hcode : ¬ code = 0) (t : State) (hz : H.size ≤ t.heap.size) (hk : ∀ q : Nat, q < H.size → t.heap[q]? = H[q]?) : XX code (PosW G ad a b A) A (exN code) s t := by
  refine ⟨hcode, rfl, ⟨fun i q hi => (hP i q hi).kept (hk _ (hP i q hi).lt), hD⟩, Nat.le_trans hS.1 hz, fun q h1 h2 => ?_⟩
  rw [hk q (Nat.lt_of_lt_of_le h1 hS.1)]
  exact hS.2.1 q h1 h2
theorem j_throw1 {code mc ms is : Nat} {Qc : Array Value → State → Outcome → State → Prop} {tx : String} (C : CX G A RX8 cc nL p s m args c) (hst : l.stackTraces = false) (htab : ∀ x ∈ c.exceptionTable.toList, False) (hk : meth.locks = false) (htx : (is, tx) ∈ excL) (hcd : 1 = code) (hR : 5 < R.frames ∧ 82 ≤ R.locals ∧ k + 1 ≤ R.cells ∧ n + 6 ≤ R.slots) (hc : k + 1 ≤ mc ∧ n + 6 ≤ ms) (d0 : decode cc pc = .ok (.new 146, 3)) (d3 : decode cc (pc + 3) = .ok (.dup, 1)) (d4 : decode cc (pc + 4) = .ok (.ldc is, 2)) (d6 : decode cc (pc + 6) = .ok (.invokespecial 150, 3)) (d9 : decode cc (pc + 9) = .ok (.athrow, 1)) : J p l e R s m args below meth c G A nL (vx_MQ below Qc (XX code (PosW G ad a b A) A) args s mc ms A) k n ad a b pc lv [] := fun H locs ls hP hD hS hl => by
  subst hcd
  obtain ⟨sa, hsa⟩ := C.2.2.2.2.2.2.2.2.2.1 (is, tx) htx
  exact vx_throwS (own := RX8) (cls := exN 1) (names := exNm) C.1 C.2.1 hst C.2.2.2.1 fit_1 fitN (C.2.2.2.2.1 _ ck_1) (C.2.2.2.2.1 _ xi_1) hsa (hat_of C at_1) og_1 C.2.2.2.2.2.2.2.2.2.2.1.1 C.2.2.2.2.2.2.2.2.2.2.1.2 hS (hl.1.trans C.2.2.1.symm) d0 d3 d4 d6 d9 (fun x hx => (htab x hx).elim) hR.1 hR.2.1 hR.2.2.1 hR.2.2.2 hk (fun t _ hz hq => hx_of hP hD hS (by decide) t hz hq) hS.2.2 hc.1 hc.2
theorem j_throw1w {code mc ms is : Nat} {Qc : Array Value → State → Outcome → State → Prop} {tx : String} (C : CX G A RX8 cc nL p s m args c) (hst : l.stackTraces = false) (htab : ∀ x ∈ c.exceptionTable.toList, False) (hk : meth.locks = false) (htx : (is, tx) ∈ excL) (hcd : 1 = code) (hR : 5 < R.frames ∧ 82 ≤ R.locals ∧ k + 1 ≤ R.cells ∧ n + 6 ≤ R.slots) (hc : k + 1 ≤ mc ∧ n + 6 ≤ ms) (d0 : decode cc pc = .ok (.new 146, 3)) (d3 : decode cc (pc + 3) = .ok (.dup, 1)) (d4 : decode cc (pc + 4) = .ok (.ldc_w is, 3)) (d7 : decode cc (pc + 7) = .ok (.invokespecial 150, 3)) (d10 : decode cc (pc + 10) = .ok (.athrow, 1)) : J p l e R s m args below meth c G A nL (vx_MQ below Qc (XX code (PosW G ad a b A) A) args s mc ms A) k n ad a b pc lv [] := fun H locs ls hP hD hS hl => by
  subst hcd
  obtain ⟨sa, hsa⟩ := C.2.2.2.2.2.2.2.2.2.1 (is, tx) htx
  exact vx_throwSW (own := RX8) (cls := exN 1) (names := exNm) C.1 C.2.1 hst C.2.2.2.1 fit_1 fitN (C.2.2.2.2.1 _ ck_1) (C.2.2.2.2.1 _ xi_1) hsa (hat_of C at_1) og_1 C.2.2.2.2.2.2.2.2.2.2.1.1 C.2.2.2.2.2.2.2.2.2.2.1.2 hS (hl.1.trans C.2.2.1.symm) d0 d3 d4 d7 d10 (fun x hx => (htab x hx).elim) hR.1 hR.2.1 hR.2.2.1 hR.2.2.2 hk (fun t _ hz hq => hx_of hP hD hS (by decide) t hz hq) hS.2.2 hc.1 hc.2
theorem j_throw2 {code mc ms is : Nat} {Qc : Array Value → State → Outcome → State → Prop} {tx : String} (C : CX G A RX8 cc nL p s m args c) (hst : l.stackTraces = false) (htab : ∀ x ∈ c.exceptionTable.toList, False) (hk : meth.locks = false) (htx : (is, tx) ∈ excL) (hcd : 2 = code) (hR : 5 < R.frames ∧ 82 ≤ R.locals ∧ k + 1 ≤ R.cells ∧ n + 6 ≤ R.slots) (hc : k + 1 ≤ mc ∧ n + 6 ≤ ms) (d0 : decode cc pc = .ok (.new 77, 3)) (d3 : decode cc (pc + 3) = .ok (.dup, 1)) (d4 : decode cc (pc + 4) = .ok (.ldc is, 2)) (d6 : decode cc (pc + 6) = .ok (.invokespecial 81, 3)) (d9 : decode cc (pc + 9) = .ok (.athrow, 1)) : J p l e R s m args below meth c G A nL (vx_MQ below Qc (XX code (PosW G ad a b A) A) args s mc ms A) k n ad a b pc lv [] := fun H locs ls hP hD hS hl => by
  subst hcd
  obtain ⟨sa, hsa⟩ := C.2.2.2.2.2.2.2.2.2.1 (is, tx) htx
  exact vx_throwS (own := RX8) (cls := exN 2) (names := exNm) C.1 C.2.1 hst C.2.2.2.1 fit_2 fitN (C.2.2.2.2.1 _ ck_2) (C.2.2.2.2.1 _ xi_2) hsa (hat_of C at_2) og_2 C.2.2.2.2.2.2.2.2.2.2.1.1 C.2.2.2.2.2.2.2.2.2.2.1.2 hS (hl.1.trans C.2.2.1.symm) d0 d3 d4 d6 d9 (fun x hx => (htab x hx).elim) hR.1 hR.2.1 hR.2.2.1 hR.2.2.2 hk (fun t _ hz hq => hx_of hP hD hS (by decide) t hz hq) hS.2.2 hc.1 hc.2
theorem j_throw2w {code mc ms is : Nat} {Qc : Array Value → State → Outcome → State → Prop} {tx : String} (C : CX G A RX8 cc nL p s m args c) (hst : l.stackTraces = false) (htab : ∀ x ∈ c.exceptionTable.toList, False) (hk : meth.locks = false) (htx : (is, tx) ∈ excL) (hcd : 2 = code) (hR : 5 < R.frames ∧ 82 ≤ R.locals ∧ k + 1 ≤ R.cells ∧ n + 6 ≤ R.slots) (hc : k + 1 ≤ mc ∧ n + 6 ≤ ms) (d0 : decode cc pc = .ok (.new 77, 3)) (d3 : decode cc (pc + 3) = .ok (.dup, 1)) (d4 : decode cc (pc + 4) = .ok (.ldc_w is, 3)) (d7 : decode cc (pc + 7) = .ok (.invokespecial 81, 3)) (d10 : decode cc (pc + 10) = .ok (.athrow, 1)) : J p l e R s m args below meth c G A nL (vx_MQ below Qc (XX code (PosW G ad a b A) A) args s mc ms A) k n ad a b pc lv [] := fun H locs ls hP hD hS hl => by
  subst hcd
  obtain ⟨sa, hsa⟩ := C.2.2.2.2.2.2.2.2.2.1 (is, tx) htx
  exact vx_throwSW (own := RX8) (cls := exN 2) (names := exNm) C.1 C.2.1 hst C.2.2.2.1 fit_2 fitN (C.2.2.2.2.1 _ ck_2) (C.2.2.2.2.1 _ xi_2) hsa (hat_of C at_2) og_2 C.2.2.2.2.2.2.2.2.2.2.1.1 C.2.2.2.2.2.2.2.2.2.2.1.2 hS (hl.1.trans C.2.2.1.symm) d0 d3 d4 d7 d10 (fun x hx => (htab x hx).elim) hR.1 hR.2.1 hR.2.2.1 hR.2.2.2 hk (fun t _ hz hq => hx_of hP hD hS (by decide) t hz hq) hS.2.2 hc.1 hc.2
theorem j_throw3 {code mc ms is : Nat} {Qc : Array Value → State → Outcome → State → Prop} {tx : String} (C : CX G A RX8 cc nL p s m args c) (hst : l.stackTraces = false) (htab : ∀ x ∈ c.exceptionTable.toList, False) (hk : meth.locks = false) (htx : (is, tx) ∈ excL) (hcd : 3 = code) (hR : 5 < R.frames ∧ 82 ≤ R.locals ∧ k + 1 ≤ R.cells ∧ n + 6 ≤ R.slots) (hc : k + 1 ≤ mc ∧ n + 6 ≤ ms) (d0 : decode cc pc = .ok (.new 66, 3)) (d3 : decode cc (pc + 3) = .ok (.dup, 1)) (d4 : decode cc (pc + 4) = .ok (.ldc is, 2)) (d6 : decode cc (pc + 6) = .ok (.invokespecial 70, 3)) (d9 : decode cc (pc + 9) = .ok (.athrow, 1)) : J p l e R s m args below meth c G A nL (vx_MQ below Qc (XX code (PosW G ad a b A) A) args s mc ms A) k n ad a b pc lv [] := fun H locs ls hP hD hS hl => by
  subst hcd
  obtain ⟨sa, hsa⟩ := C.2.2.2.2.2.2.2.2.2.1 (is, tx) htx
  exact vx_throwS (own := RX8) (cls := exN 3) (names := exNm) C.1 C.2.1 hst C.2.2.2.1 fit_3 fitN (C.2.2.2.2.1 _ ck_3) (C.2.2.2.2.1 _ xi_3) hsa (hat_of C at_3) og_3 C.2.2.2.2.2.2.2.2.2.2.1.1 C.2.2.2.2.2.2.2.2.2.2.1.2 hS (hl.1.trans C.2.2.1.symm) d0 d3 d4 d6 d9 (fun x hx => (htab x hx).elim) hR.1 hR.2.1 hR.2.2.1 hR.2.2.2 hk (fun t _ hz hq => hx_of hP hD hS (by decide) t hz hq) hS.2.2 hc.1 hc.2
theorem j_throw3w {code mc ms is : Nat} {Qc : Array Value → State → Outcome → State → Prop} {tx : String} (C : CX G A RX8 cc nL p s m args c) (hst : l.stackTraces = false) (htab : ∀ x ∈ c.exceptionTable.toList, False) (hk : meth.locks = false) (htx : (is, tx) ∈ excL) (hcd : 3 = code) (hR : 5 < R.frames ∧ 82 ≤ R.locals ∧ k + 1 ≤ R.cells ∧ n + 6 ≤ R.slots) (hc : k + 1 ≤ mc ∧ n + 6 ≤ ms) (d0 : decode cc pc = .ok (.new 66, 3)) (d3 : decode cc (pc + 3) = .ok (.dup, 1)) (d4 : decode cc (pc + 4) = .ok (.ldc_w is, 3)) (d7 : decode cc (pc + 7) = .ok (.invokespecial 70, 3)) (d10 : decode cc (pc + 10) = .ok (.athrow, 1)) : J p l e R s m args below meth c G A nL (vx_MQ below Qc (XX code (PosW G ad a b A) A) args s mc ms A) k n ad a b pc lv [] := fun H locs ls hP hD hS hl => by
  subst hcd
  obtain ⟨sa, hsa⟩ := C.2.2.2.2.2.2.2.2.2.1 (is, tx) htx
  exact vx_throwSW (own := RX8) (cls := exN 3) (names := exNm) C.1 C.2.1 hst C.2.2.2.1 fit_3 fitN (C.2.2.2.2.1 _ ck_3) (C.2.2.2.2.1 _ xi_3) hsa (hat_of C at_3) og_3 C.2.2.2.2.2.2.2.2.2.2.1.1 C.2.2.2.2.2.2.2.2.2.2.1.2 hS (hl.1.trans C.2.2.1.symm) d0 d3 d4 d7 d10 (fun x hx => (htab x hx).elim) hR.1 hR.2.1 hR.2.2.1 hR.2.2.2 hk (fun t _ hz hq => hx_of hP hD hS (by decide) t hz hq) hS.2.2 hc.1 hc.2
end TH
