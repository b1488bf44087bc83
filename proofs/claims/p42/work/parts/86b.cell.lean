/-! ===== the law reads its script ===== -/
def SX (A : Nat → Prop) (sc L : Nat) (xs : Nat → Int32) (s : State) : Prop := va_X sc L xs s s.heap ∧ sc < s.heap.size ∧ ¬ A sc
/-- what the law reads at the place k -/
def cellv (L : Nat) (xs : Nat → Int32) (k : Nat) : Int32 := if k < L then xs k else 1812433253 * (oN k + 181)
def PreX (G : GT) (ad : Nat → Nat) (a : KS) (b : MS) (sc L : Nat) (xs : Nat → Int32) (sz : Nat) (U : State) : Prop := PreW G ad a b sz U ∧ va_X sc L xs U U.heap ∧ sc < U.heap.size ∧ ¬ FP ad (Kn a) sz sc
theorem preX_blind {G : GT} {ad : Nat → Nat} {a : KS} {b : MS} {sc L : Nat} {xs : Nat → Int32} {sz : Nat} {av : List Value} : FrameBlind (va_Pc av (PreX G ad a b sc L xs sz)) := by
  intro x U g mk q
  obtain ⟨q0, qq, qX, q1, q2⟩ := q
  exact ⟨q0, (pre_blind (G := G) (ad := ad) (a := a) (b := b) (sz := sz) (av := av) x U g mk ⟨q0, qq⟩).2, va_X.moved (u := U) (U := U.calling g mk x) (Vm.Alike.refl U.vm) qX, q1, q2⟩
section LW
variable {p : Program} {l : Launch} {e : Env} {R : Room} {s : State} {m : MethodId} {args : Array Value} {below : List Frame} {meth : Method} {c : Code} {G : GT} {A : Nat → Prop} {nL : Nat} {Q : State → Prop} {k n : Nat} {ad : Nat → Nat} {a : KS} {b : MS} {sc L : Nat} {xs : Nat → Int32} {own : String} {cc : ByteArray} {pc : Nat} {lv : List (Nat × Value)} {st : List Value}
theorem j_sld {i : Int32} (C : CX G A own cc nL p s m args c) (hX : SX A sc L xs s) (hin : vp_in i L) (d : decode cc pc = .ok (.iaload, 1)) (kk : J p l e R s m args below meth c G A nL Q k n ad a b (pc + 1) lv (.int (xs i.toNatClampNeg) :: st)) : J p l e R s m args below meth c G A nL Q k n ad a b pc lv (.int i :: .ref sc :: st) := fun H locs ls hP hD hS hl => va_sld C.1 C.2.1 hX.1 hX.2.1 hX.2.2 hS hin d (kk H locs ls hP hD hS hl)
theorem j_slen (C : CX G A own cc nL p s m args c) (hX : SX A sc L xs s) (d : decode cc pc = .ok (.arraylength, 1)) (kk : J p l e R s m args below meth c G A nL Q k n ad a b (pc + 1) lv (.int (Int32.ofNat L) :: st)) : J p l e R s m args below meth c G A nL Q k n ad a b pc lv (.ref sc :: st) := fun H locs ls hP hD hS hl => va_slen C.1 C.2.1 hX.1 hX.2.1 hX.2.2 hS d (kk H locs ls hP hD hS hl)
theorem j_callSX (C : CX G A own cc nL p s m args c) (hX : SX A sc L xs s) {y : MethodName} {bytes : ByteArray} {maxL na idx : Nat} {ret : Option FieldType} {rm : Room} {As rest : List Value} {v : Option Value} {a' : KS} {b' : MS} (hM : ∀ sz : Nat, Met l y (Cond.code y bytes maxL ret :: BIG) rm (va_Pc As (PreX G ad a b sc L xs sz)) (QV v (PosW G ad a' b' (FP ad (Kn a) sz)) (FP ad (Kn a) sz)) rm.cells rm.slots (FP ad (Kn a) sz)) (cw : CWS y bytes maxL ret na) (hlink : Cond.methodLink own idx y ∈ BIG) (hna : As.length = na)
    (hR : rm.frames + 1 ≤ R.frames ∧ 8 + (maxL + 11) + rm.locals ≤ R.locals) (hcs : k + rm.cells ≤ R.cells ∧ n + rm.slots ≤ R.slots) (hst : st = As.reverse ++ rest) (hW : (rest.map fun v => v.category).sum ≤ 8) (d : decode cc pc = .ok (.invokestatic idx, 3)) (kk : J p l e R s m args below meth c G A nL Q (k + rm.cells) (n + rm.slots) ad a' b' (pc + 3) lv (v.toList ++ rest)) : J p l e R s m args below meth c G A nL Q k n ad a b pc lv st := fun H locs ls hP hD hS hl => by
  have cw1 := va_cwS (R := R) (s := s) (args := args) (rm := rm) na C.2.2.2.2.1 (ws_S (own := own) cw hlink) rfl rfl rfl ⟨cw.2.2.2.1, cw.2.2.2.2.1, cw.2.2.2.2.2⟩ hR
  have hnf : ¬ FP ad (Kn a) H.size sc := fun z => hX.2.2 (FP_le hD (fun q h => C.2.2.2.2.2.2.1 q (Nat.le_trans hS.1 h)) sc z)
  refine run_end C hl hD hS (va_runS (As := As) (rest := rest) ⟨C.1, C.2.1, C.2.2.1, C.2.2.2.1, C.2.2.2.2.1⟩ (hM H.size) cw1 ⟨preX_blind, fun U hU hW => ?_⟩ rfl hna hl.1 hst (by simpa [JFrame.monitorRoom, F0] using hW) d hcs) kk
  obtain ⟨r0, r1⟩ := pre_at C hP hD hS As U hU hW
  refine ⟨r0, r1, ?_, ?_, hnf⟩
  · rw [hU]
    exact va_X.kept (va_X.moved hW.alike hX.1) (hS.2.1 sc hX.2.1 hX.2.2)
  · rw [hU]
    exact Nat.lt_of_lt_of_le hX.2.1 hS.1
end LW
set_option maxHeartbeats 4000000 in
theorem k_cell {l : Launch} {G : GT} {ad : Nat → Nat} {a : KS} {b : MS} {sc L : Nat} {xs : Nat → Int32} (hL : L ≤ 260) {k : Nat} (hk : k ≤ 1000) : ∀ sz : Nat, Met l yL_cell (Cond.code yL_cell cL_cell 2 (some .int) :: BIG) (RM 0) (va_Pc [.ref sc, .int (oN k)] (PreX G ad a b sc L xs sz)) (QV (some (.int (cellv L xs k))) (PosW G ad a b (FP ad (Kn a) sz)) (FP ad (Kn a) sz)) 0 0 (FP ad (Kn a) sz) := by
  intro sz
  refine Met.ofW (cc := cL_cell) (maxL := 2) (ret := some .int) (by decide) rfl ?_
  intro p e s m args below meth c s₁ B hml hv
  obtain ⟨rfl, ⟨rfl, hP, hK, hD, hE⟩, hX0, hX1, hX2⟩ := hv
  have hts : ∀ w ∈ (Cond.code yL_cell cL_cell 2 (some .int) :: BIG), w.before _ s = true := atoms_spec (ws := Cond.code yL_cell cL_cell 2 (some .int) :: BIG) B.pre
  have hown : s.vm.findClass yL_cell.cls = some m.cls := findClass_of_methodNamed B.named
  have hl := lv_entry [Value.ref sc, Value.int (oN k)] (n := 2) (Nat.le_of_ble_eq_true rfl)
  rw [lg_entry_eq]
  have C : CX G (FP ad (Kn a) s.heap.size) RL cL_cell 2 p s m ([Value.ref sc, Value.int (oN k)] : List Value).toArray c := ⟨B.exec, B.bytes, hml, hown, fun w h => hts w (List.mem_cons_of_mem _ h), hK, fun q h => Or.inr h, hE⟩
  have hX : SX (FP ad (Kn a) s.heap.size) sc L xs s := ⟨hX0, hX1, hX2⟩
  have hr := B.returns
  have hkk := B.notSynchronized
  have body : J p l e (RM 0) s m ([Value.ref sc, Value.int (oN k)] : List Value).toArray below meth c G (FP ad (Kn a) s.heap.size) 2 (MQ below (QV (some (.int (cellv L xs k))) (PosW G ad a b (FP ad (Kn a) s.heap.size)) (FP ad (Kn a) s.heap.size)) ([Value.ref sc, Value.int (oN k)] : List Value).toArray s 0 0 (FP ad (Kn a) s.heap.size)) 0 0 ad a b 0 [(0, .ref sc), (1, .int (oN k))] [] := by
    refine j_iload_n C 1 rfl dL_cell_0 ?_
    refine j_aload_n C 0 rfl dL_cell_1 ?_
    refine j_slen C hX dL_cell_2 ?_
    refine j_icmp_ge C (X := Unit) (f := ()) (g := ()) (r := ()) 12 dL_cell_3 rfl (ite_self _) (fun h _ => ?_) (fun h _ => ?_)
    · refine j_ldc C wk_L_7 dL_cell_12 ?_
      refine j_iload_n C 1 rfl dL_cell_14 ?_
      refine j_sipush C (v := 181) (by decide) dL_cell_15 ?_
      refine j_iadd C dL_cell_18 ?_
      refine j_imul C dL_cell_19 ?_
      refine j_iret C hr hkk ⟨Nat.le_refl _, Nat.le_refl _⟩ ?_ dL_cell_20
      rw [oN_le (by omega) (by omega)] at h
      unfold cellv
      rw [if_neg (by omega)]
    · have hlt : k < L := by
        rw [oN_le (by omega) (by omega)] at h
        omega
      have hin : vp_in (oN k) L := by
        intro q
        rcases q with q | q
        · rw [Int32.lt_iff_toInt_lt, ofNat_i32 (by omega)] at q
          have : (0 : Int32).toInt = 0 := by decide
          omega
        · rw [ofNat_cl (by omega)] at q
          omega
      refine j_aload_n C 0 rfl dL_cell_6 ?_
      refine j_iload_n C 1 rfl dL_cell_7 ?_
      refine j_sld C hX hin dL_cell_8 ?_
      refine j_goto C 20 dL_cell_9 (by decide) ?_
      refine j_iret C hr hkk ⟨Nat.le_refl _, Nat.le_refl _⟩ ?_ dL_cell_20
      rw [ofNat_cl (by omega)]
      unfold cellv
      rw [if_pos hlt]
  exact body s.heap [] _ hP (wd_DF hD _) va_S.rf hl
