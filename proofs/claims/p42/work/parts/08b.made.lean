def AG (ad ad' : Nat → Nat) (n : Nat) : Prop := ∀ z, z ∈ pls n → ad' z = ad z
def AGK (ad ad' : Nat → Nat) (n n' : Nat) : Prop := AG ad ad' n ∧ n ≤ n'
theorem pls_mono {n n' : Nat} (h : n ≤ n') {z : Nat} (hz : z ∈ pls n) : z ∈ pls n' := by
  rcases List.mem_append.mp hz with hz | hz
  · exact mem_plF hz
  · rcases List.mem_append.mp hz with hz | hz
    · obtain ⟨i, hi, rfl⟩ := List.mem_map.mp hz
      exact mem_ip (Nat.lt_of_lt_of_le (List.mem_range.mp hi) h)
    · obtain ⟨i, hi, rfl⟩ := List.mem_map.mp hz
      exact mem_cp (Nat.lt_of_lt_of_le (List.mem_range.mp hi) h)
theorem AGK.tr {ad ad' ad2 : Nat → Nat} {n n' : Nat} (h : AGK ad ad' n n') (h2 : AG ad' ad2 n') : AG ad ad2 n := fun z hz => (h2 z (pls_mono h.2 hz)).trans (h.1 z hz)
/-- the world may stand at more places behind a call: ad' -/
def PosA (G : GT) (ad : Nat → Nat) (n : Nat) (a : KS) (b : MS) (A : Nat → Prop) (t : State) : Prop := ∃ ad' : Nat → Nat, AG ad ad' n ∧ PosW G ad' a b A t
def RX (h c s : Nat) : Room := { frames := h, cells := c, slots := s, locals := 35 * h }
/-- the contract of a method that may make an item -/
def MN (l : Launch) (G : GT) (y : MethodName) (cc : ByteArray) (nL : Nat) (ret : Option FieldType) (rm : Room) (av : List Value) (ad : Nat → Nat) (a : KS) (b : MS) (v : Option Value) (a' : KS) (b' : MS) : Prop :=
  ∀ sz : Nat, Met l y (Cond.code y cc nL ret :: BIG) rm (va_Pc av (PreW G ad a b sz)) (QV v (PosA G ad (Kn a) a' b' (FP ad (Kn a) sz)) (FP ad (Kn a) sz)) rm.cells rm.slots (FP ad (Kn a) sz)
set_option maxHeartbeats 4000000 in
theorem MN_of2 {l : Launch} {G : GT} {y : MethodName} {cc : ByteArray} {nL : Nat} {ret : Option FieldType} {rm : Room} {av : List Value} {ad : Nat → Nat} {a a' : KS} {b b' : MS} {v : Option Value} {lv : List (Nat × Value)} (hy : plainName y.cls = true) (hlen : (lg_sl av).length ≤ nL) (hlv : lv_args 0 av = lv)
    (body : ∀ (p : Program) (e : Env) (s : State) (m : MethodId) (args : Array Value) (below : List Frame) (meth : Method) (c : Code) (A : Nat → Prop), CX G A y.cls cc nL p s m args c → meth.sig.returnType = ret → meth.locks = false →
      J p l e rm s m args below meth c G A nL (MQ below (QV v (PosA G ad (Kn a) a' b' A) A) args s rm.cells rm.slots A) 0 0 ad a b 0 lv []) : MN l G y cc nL ret rm av ad a b v a' b' := by
  intro sz
  subst hlv
  refine Met.ofW (cc := cc) (maxL := nL) (ret := ret) hy rfl ?_
  intro p e s m args below meth c s₁ B hml hv
  obtain ⟨rfl, rfl, hP, hK, hD, hE⟩ := hv
  have hts : ∀ w ∈ (Cond.code y cc nL ret :: BIG), w.before _ s = true := atoms_spec (ws := Cond.code y cc nL ret :: BIG) B.pre
  have hown : s.vm.findClass y.cls = some m.cls := findClass_of_methodNamed B.named
  have hl := lv_entry av (n := nL) hlen
  rw [lg_entry_eq]
  exact body p e s m _ below meth c _ ⟨B.exec, B.bytes, hml, hown, fun w h => hts w (List.mem_cons_of_mem _ h), hK, fun q h => Or.inr h, hE⟩ B.returns B.notSynchronized s.heap [] _ hP (wd_DF hD _) va_S.rf hl
section NR
variable {p : Program} {l : Launch} {e : Env} {R : Room} {s : State} {m : MethodId} {args : Array Value} {below : List Frame} {meth : Method} {c : Code} {G : GT} {A : Nat → Prop} {nL : Nat} {Q : State → Prop} {k n : Nat} {ad : Nat → Nat} {a : KS} {b : MS} {own : String} {cc : ByteArray} {pc : Nat} {lv : List (Nat × Value)} {st : List Value}
theorem j_widen (k' n' : Nat) (h1 : k ≤ k') (h2 : n ≤ n') (kk : J p l e R s m args below meth c G A nL Q k' n' ad a b pc lv st) : J p l e R s m args below meth c G A nL Q k n ad a b pc lv st := fun H locs ls hP hD hS hl => W.widen (k := k') (n := n') h1 h2 (kk H locs ls hP hD hS hl)
theorem j_niret {ad0 : Nat → Nat} {n0 : Nat} {mc ms : Nat} {v : Option Value} {x : Int32} (C : CX G A own cc nL p s m args c) (hr : meth.sig.returnType = some .int) (hk : meth.locks = false) (hag : AG ad0 ad n0) (hc : k ≤ mc ∧ n ≤ ms) (hv : some (.int x) = v) (d : decode cc pc = .ok (.ireturn, 1)) : J p l e R s m args below meth c G A nL (MQ below (QV v (PosA G ad0 n0 a b A) A) args s mc ms A) k n ad a b pc lv [.int x] := fun H locs ls hP hD hS hl => by
  subst hv
  refine W.widen (k := mc) (n := ms) hc.1 hc.2 ?_
  exact W.iret C.1 C.2.1 hr (fun t ht hW => ⟨rfl, ⟨ad, hag, by rw [ht]; exact hP, hD⟩, hS.F ht⟩) hS.2.2 d hk
theorem j_nzret {ad0 : Nat → Nat} {n0 : Nat} {mc ms : Nat} {v : Option Value} {x : Int32} {ty : FieldType} (C : CX G A own cc nL p s m args c) (hr : meth.sig.returnType = some ty) (hk : meth.locks = false) (hag : AG ad0 ad n0) (hn : narrow ty (.int x) = .int x) (hc : k ≤ mc ∧ n ≤ ms) (hv : some (.int x) = v) (d : decode cc pc = .ok (.ireturn, 1)) : J p l e R s m args below meth c G A nL (MQ below (QV v (PosA G ad0 n0 a b A) A) args s mc ms A) k n ad a b pc lv [.int x] := fun H locs ls hP hD hS hl => by
  subst hv
  refine W.widen (k := mc) (n := ms) hc.1 hc.2 ?_
  exact W.zret C.1 C.2.1 hr hn (fun t ht hW => ⟨rfl, ⟨ad, hag, by rw [ht]; exact hP, hD⟩, hS.F ht⟩) hS.2.2 d hk
theorem nn_run_end {H : Heap} {locs : List Loc} {ls : Array Slot} {st0 rest : List Value} {ar : Array Value} {v : Option Value} {a' : KS} {b' : MS} {mc ms : Nat} (C : CX G A own cc nL p s m args c) (hl : lv_has ls nL lv) (hD : va_D A (wd G ad a b)) (hS : va_S A s.heap H locs)
    (hr : va_Run p l e R s m args below meth c H locs k n mc ms (F0 m pc ls st0) rest (QV v (PosA G ad (Kn a) a' b' (FP ad (Kn a) H.size)) (FP ad (Kn a) H.size) ar) (FP ad (Kn a) H.size))
    (kk : ∀ ad' : Nat → Nat, AG ad ad' (Kn a) → J p l e R s m args below meth c G A nL Q (k + mc) (n + ms) ad' a' b' (pc + 3) lv (v.toList ++ rest)) : W p l e R s m args below meth c H locs k n Q (F0 m pc ls st0) := by
  intro T hT X
  have hA := FP_le hD (fun q h => C.2.2.2.2.2.2.1 q (Nat.le_trans hS.1 h))
  obtain ⟨v1, st₀, t, T', L, h0, X', hL, e1, e2, ⟨hv, ⟨ad', hag, hP1, hD1⟩, hz, hk⟩, go⟩ := hr T hT X
  obtain rfl : v1 = v := by injection hv
  rw [h0] at hz hk
  have hD2 : va_D A (wd G ad' a' b') := hD1.weaken (fun _ _ _ h => hA _ h)
  obtain ⟨t2, a1, b1⟩ := kk ad' hag T'.heap (locs ++ L) ls (by rw [e1]; exact hP1) hD2
    ⟨Nat.le_trans hS.1 (by rw [e1]; exact hz), fun q h1 h2 => by rw [e1, hk q (Nat.lt_of_lt_of_le h1 hS.1) (fun z => h2 (hA q z))]; exact hS.2.1 q h1 h2, fun q hq => by
      rcases List.mem_append.mp hq with h | h
      · exact hS.2.2 q h
      · exact hA _ (hL q h)⟩ hl T' rfl X'
  exact ⟨t2, go t2 a1, b1⟩
theorem j_ncallV (C : CX G A own cc nL p s m args c) {y : MethodName} {bytes : ByteArray} {maxL na idx q ci N : Nat} {ret : Option FieldType} {rm : Room} {As rest : List Value} {v : Option Value} {a' : KS} {b' : MS} {fs : List Value} {RC : String} {T : u_T} (hM : MN l G y bytes maxL ret rm (.ref (ad q) :: As) ad a b v a' b') (cw : CWV y bytes maxL ret RC na) (hlink : Cond.methodLink own idx y ∈ BIG) (hq : q ∈ pls (Kn a)) (hcel : cel G ad a b q = .inr (ci, fs)) (hc : vwCl[ci]? = some (RC, T, N)) (hna : As.length = na)
    (hR : rm.frames + 1 ≤ R.frames ∧ 8 + (maxL + 11) + rm.locals ≤ R.locals) (hcs : k + rm.cells ≤ R.cells ∧ n + rm.slots ≤ R.slots) (hst : st = As.reverse ++ .ref (ad q) :: rest) (hW : (rest.map fun v => v.category).sum ≤ 8) (d : decode cc pc = .ok (.invokevirtual idx, 3)) (kk : ∀ ad' : Nat → Nat, AG ad ad' (Kn a) → J p l e R s m args below meth c G A nL Q (k + rm.cells) (n + rm.slots) ad' a' b' (pc + 3) lv (v.toList ++ rest)) : J p l e R s m args below meth c G A nL Q k n ad a b pc lv st := fun H locs ls hP hD hS hl => by
  obtain ⟨k0, hk0, hk1⟩ := wd_get (G := G) (ad := ad) (b := b) hq
  rw [hcel] at hk1
  have cw1 := cwV (R := R) (s := s) (args := args) (rm := rm) na C.2.2.2.2.1 (ws_V (own := own) cw hlink) rfl rfl rfl ⟨cw.1, cw.2.2.2.2.2.1, cw.2.2.2.2.2.2.1, cw.2.2.2.2.2.2.2⟩ hR
  refine nn_run_end C hl hD hS (va_runV (As := As) (rest := rest) ⟨C.1, C.2.1, C.2.2.1, C.2.2.2.1, C.2.2.2.2.1⟩ (hM H.size) cw1 ⟨pre_blind, va_recv C.2.2.2.2.2.1 hP hc hk1, fun U hU hW => pre_at C hP hD hS _ U hU hW⟩ rfl hna hl.1 hst (by simpa [JFrame.monitorRoom, F0] using hW) d hcs) kk
theorem j_ncallS (C : CX G A own cc nL p s m args c) {y : MethodName} {bytes : ByteArray} {maxL na idx : Nat} {ret : Option FieldType} {rm : Room} {As rest : List Value} {v : Option Value} {a' : KS} {b' : MS} (hM : MN l G y bytes maxL ret rm As ad a b v a' b') (cw : CWS y bytes maxL ret na) (hlink : Cond.methodLink own idx y ∈ BIG) (hna : As.length = na)
    (hR : rm.frames + 1 ≤ R.frames ∧ 8 + (maxL + 11) + rm.locals ≤ R.locals) (hcs : k + rm.cells ≤ R.cells ∧ n + rm.slots ≤ R.slots) (hst : st = As.reverse ++ rest) (hW : (rest.map fun v => v.category).sum ≤ 8) (d : decode cc pc = .ok (.invokestatic idx, 3)) (kk : ∀ ad' : Nat → Nat, AG ad ad' (Kn a) → J p l e R s m args below meth c G A nL Q (k + rm.cells) (n + rm.slots) ad' a' b' (pc + 3) lv (v.toList ++ rest)) : J p l e R s m args below meth c G A nL Q k n ad a b pc lv st := fun H locs ls hP hD hS hl => by
  have cw1 := va_cwS (R := R) (s := s) (args := args) (rm := rm) na C.2.2.2.2.1 (ws_S (own := own) cw hlink) rfl rfl rfl ⟨cw.2.2.2.1, cw.2.2.2.2.1, cw.2.2.2.2.2⟩ hR
  exact nn_run_end C hl hD hS (va_runS (As := As) (rest := rest) ⟨C.1, C.2.1, C.2.2.1, C.2.2.2.1, C.2.2.2.2.1⟩ (hM H.size) cw1 ⟨pre_blind, fun U hU hW => pre_at C hP hD hS _ U hU hW⟩ rfl hna hl.1 hst (by simpa [JFrame.monitorRoom, F0] using hW) d hcs) kk
end NR
