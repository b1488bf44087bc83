section JR
variable {p : Program} {l : Launch} {e : Env} {R : Room} {s : State} {m : MethodId} {args : Array Value} {below : List Frame} {meth : Method} {c : Code} {G : GT} {A : Nat → Prop} {nL : Nat} {Q : State → Prop} {k n : Nat} {ad : Nat → Nat} {a : KS} {b : MS} {own : String} {cc : ByteArray} {pc : Nat} {lv : List (Nat × Value)} {st : List Value}
/-! what a decompiled method may ask -/
def inb (i : Int32) (N : Nat) : Bool := decide (0 ≤ i.toInt ∧ i.toInt < N)
def okr (N : Nat) (o : Option Nat) : Bool := match o with
  | none => true
  | some i => decide (i < N)
def gd {α : Type} (t : Bool) (x : Option α) : Option α := if t = true then x else none
def odr {α : Type} (N : Nat) (o : Option Nat) (f : Nat → Option α) : Option α := match o with
  | none => none
  | some i => if i < N then f i else none
def ocs {α : Type} (o : Option Nat) (f : α) (g : Nat → α) : α := match o with
  | none => f
  | some i => g i
def lt {α β : Type} (x : α) (f : α → β) : β := f x
def okp (q : Nat) : Bool := decide (q = 6 ∨ q = 8)
def nz (x : Int32) : Bool := decide (¬ x = 0)
def okz (x : Int32) : Bool := decide (x = 0 ∨ x = 1)
def okc (x : Int32) : Bool := decide (narrow .char (.int x) = .int x) && fits .char (.int x)
def nn32 (r : UInt32) : Bool := decide (r &&& 0x7fffffff ≤ 0x7f800000)
def nn64 (r : UInt64) : Bool := decide (r &&& 0x7fffffffffffffff ≤ 0x7ff0000000000000)
def mmax (x y : Int32) : Int32 := if x < y then y else x
def mmin (x y : Int32) : Int32 := if y < x then y else x
def mabs (x : Int32) : Int32 := if 0 ≤ x then x else 0 - x
def FU : Nat := 1000
def RM (h : Nat) : Room := { frames := h, cells := 0, slots := 0, locals := 35 * h }
theorem nz_ne {x : Int32} (h : nz x = true) : ¬ x = 0 := of_decide_eq_true h
theorem nn32_of {r : UInt32} (h : nn32 r = true) : vf_n32 r := by
  have h1 : r &&& 0x7fffffff ≤ 0x7f800000 := of_decide_eq_true h
  exact h1
theorem nn64_of {r : UInt64} (h : nn64 r = true) : vf_n64 r := by
  have h1 : r &&& 0x7fffffffffffffff ≤ 0x7ff0000000000000 := of_decide_eq_true h
  exact h1
theorem okz_n {x : Int32} (h : okz x = true) : narrow .boolean (.int x) = .int x := by
  rcases of_decide_eq_true h with rfl | rfl <;> rfl
theorem okz_f {x : Int32} (h : okz x = true) : fits .boolean (.int x) = true := by
  rcases of_decide_eq_true h with rfl | rfl <;> rfl
theorem okc_n {x : Int32} (h : okc x = true) : narrow .char (.int x) = .int x := of_decide_eq_true ((Bool.and_eq_true _ _).mp h).1
theorem okc_f {x : Int32} (h : okc x = true) : fits .char (.int x) = true := ((Bool.and_eq_true _ _).mp h).2
theorem wt_max : Cond.static Lib.Math.max.name ∈ BIG := big_of 588 (by decide +kernel) (by decide +kernel)
theorem wt_min : Cond.static Lib.Math.min.name ∈ BIG := big_of 585 (by decide +kernel) (by decide +kernel)
theorem wt_abs : Cond.static Lib.Math.abs.name ∈ BIG := big_of 682 (by decide +kernel) (by decide +kernel)
theorem wi_math : Cond.initialized "java/lang/Math" ∈ BIG := big_of 49 (by decide +kernel) (by decide +kernel)
theorem wc_max : Cond.code Lib.Math.max.name Lib.Math.max.code 2 (some .int) ∈ BIG := big_of 589 (by decide +kernel) (by decide +kernel)
theorem wc_min : Cond.code Lib.Math.min.name Lib.Math.min.code 2 (some .int) ∈ BIG := big_of 586 (by decide +kernel) (by decide +kernel)
theorem wc_abs : Cond.code Lib.Math.abs.name Lib.Math.abs.code 1 (some .int) ∈ BIG := big_of 683 (by decide +kernel) (by decide +kernel)
theorem gd_some {α : Type} {t : Bool} {x : Option α} {r : α} (h : gd t x = some r) : t = true ∧ x = some r := by
  unfold gd at h
  split at h
  · exact ⟨by assumption, h⟩
  · cases h
theorem odr_some {α : Type} {N : Nat} {o : Option Nat} {f : Nat → Option α} {r : α} (h : odr N o f = some r) : ∃ i, o = some i ∧ i < N ∧ f i = some r := by
  cases o with
  | none => cases h
  | some i =>
    have h : (if i < N then f i else none) = some r := h
    by_cases hi : i < N
    · rw [if_pos hi] at h
      exact ⟨i, rfl, hi, h⟩
    · rw [if_neg hi] at h
      cases h
theorem bnd_some {α β : Type} {x : Option α} {f : α → Option β} {r : β} (h : x.bind f = some r) : ∃ y, x = some y ∧ f y = some r := Option.bind_eq_some_iff.mp h
theorem inb_in {i : Int32} {N : Nat} (h : inb i N = true) : vp_in i N := by
  have h1 := of_decide_eq_true h
  exact vp_in_iff.mpr h1

theorem j_iconst (C : CX G A own cc nL p s m args c) {z : Int} {v : Int32} (hv : Int32.ofInt z = v) (d : decode cc pc = .ok (.iconst z, 1)) (kk : J p l e R s m args below meth c G A nL Q k n ad a b (pc + 1) (lv) (.int v :: st)) : J p l e R s m args below meth c G A nL Q k n ad a b (pc) (lv) (st) := fun H locs ls hP hD hS hl => lv_iconst C.1 C.2.1 d hv (kk H locs ls hP hD hS hl)
theorem j_bipush (C : CX G A own cc nL p s m args c) {z : Int} {v : Int32} (hv : (Int8.ofInt z).toInt32 = v) (d : decode cc pc = .ok (.bipush z, 2)) (kk : J p l e R s m args below meth c G A nL Q k n ad a b (pc + 2) (lv) (.int v :: st)) : J p l e R s m args below meth c G A nL Q k n ad a b (pc) (lv) (st) := fun H locs ls hP hD hS hl => lv_bipush C.1 C.2.1 d hv (kk H locs ls hP hD hS hl)
theorem j_sipush (C : CX G A own cc nL p s m args c) {z : Int} {v : Int32} (hv : (Int16.ofInt z).toInt32 = v) (d : decode cc pc = .ok (.sipush z, 3)) (kk : J p l e R s m args below meth c G A nL Q k n ad a b (pc + 3) (lv) (.int v :: st)) : J p l e R s m args below meth c G A nL Q k n ad a b (pc) (lv) (st) := fun H locs ls hP hD hS hl => lv_sipush C.1 C.2.1 d hv (kk H locs ls hP hD hS hl)
theorem j_lconst (C : CX G A own cc nL p s m args c) {z : Fin 2} {v : Int64} (hv : Int64.ofNat (z : Nat) = v) (d : decode cc pc = .ok (.lconst z, 1)) (kk : J p l e R s m args below meth c G A nL Q k n ad a b (pc + 1) (lv) (.long v :: st)) : J p l e R s m args below meth c G A nL Q k n ad a b (pc) (lv) (st) := fun H locs ls hP hD hS hl => lv_lconst C.1 C.2.1 d hv (kk H locs ls hP hD hS hl)
theorem j_fconst0 (C : CX G A own cc nL p s m args c)  (d : decode cc pc = .ok (.fconst 0, 1)) (kk : J p l e R s m args below meth c G A nL Q k n ad a b (pc + 1) (lv) (.float FP.fconst0 :: st)) : J p l e R s m args below meth c G A nL Q k n ad a b (pc) (lv) (st) := fun H locs ls hP hD hS hl => lv_fconst0 C.1 C.2.1 d (kk H locs ls hP hD hS hl)
theorem j_fconst1 (C : CX G A own cc nL p s m args c)  (d : decode cc pc = .ok (.fconst 1, 1)) (kk : J p l e R s m args below meth c G A nL Q k n ad a b (pc + 1) (lv) (.float FP.fconst1 :: st)) : J p l e R s m args below meth c G A nL Q k n ad a b (pc) (lv) (st) := fun H locs ls hP hD hS hl => lv_fconst1 C.1 C.2.1 d (kk H locs ls hP hD hS hl)
theorem j_fconst2 (C : CX G A own cc nL p s m args c)  (d : decode cc pc = .ok (.fconst 2, 1)) (kk : J p l e R s m args below meth c G A nL Q k n ad a b (pc + 1) (lv) (.float FP.fconst2 :: st)) : J p l e R s m args below meth c G A nL Q k n ad a b (pc) (lv) (st) := fun H locs ls hP hD hS hl => lv_fconst2 C.1 C.2.1 d (kk H locs ls hP hD hS hl)
theorem j_dconst0 (C : CX G A own cc nL p s m args c)  (d : decode cc pc = .ok (.dconst 0, 1)) (kk : J p l e R s m args below meth c G A nL Q k n ad a b (pc + 1) (lv) (.double FP.dconst0 :: st)) : J p l e R s m args below meth c G A nL Q k n ad a b (pc) (lv) (st) := fun H locs ls hP hD hS hl => lv_dconst0 C.1 C.2.1 d (kk H locs ls hP hD hS hl)
theorem j_dconst1 (C : CX G A own cc nL p s m args c)  (d : decode cc pc = .ok (.dconst 1, 1)) (kk : J p l e R s m args below meth c G A nL Q k n ad a b (pc + 1) (lv) (.double FP.dconst1 :: st)) : J p l e R s m args below meth c G A nL Q k n ad a b (pc) (lv) (st) := fun H locs ls hP hD hS hl => lv_dconst1 C.1 C.2.1 d (kk H locs ls hP hD hS hl)
theorem j_null (C : CX G A own cc nL p s m args c)  (d : decode cc pc = .ok (.aconst_null, 1)) (kk : J p l e R s m args below meth c G A nL Q k n ad a b (pc + 1) (lv) (.null :: st)) : J p l e R s m args below meth c G A nL Q k n ad a b (pc) (lv) (st) := fun H locs ls hP hD hS hl => lv_null C.1 C.2.1 d (kk H locs ls hP hD hS hl)
theorem j_iload_n (C : CX G A own cc nL p s m args c) {kf : Fin 4} {x : Int32} (q : Nat) (hq : lv[q]? = some ((kf : Nat), .int x)) (d : decode cc pc = .ok (.iload_n kf, 1)) (kk : J p l e R s m args below meth c G A nL Q k n ad a b (pc + 1) (lv) (.int x :: st)) : J p l e R s m args below meth c G A nL Q k n ad a b (pc) (lv) (st) := fun H locs ls hP hD hS hl => lv_iload_n C.1 C.2.1 d rfl (lv_at hl q hq) (kk H locs ls hP hD hS hl)
theorem j_iload (C : CX G A own cc nL p s m args c) {i : Nat} {x : Int32} (q : Nat) (hq : lv[q]? = some (i, .int x)) (d : decode cc pc = .ok (.iload i, 2)) (kk : J p l e R s m args below meth c G A nL Q k n ad a b (pc + 2) (lv) (.int x :: st)) : J p l e R s m args below meth c G A nL Q k n ad a b (pc) (lv) (st) := fun H locs ls hP hD hS hl => lv_iload C.1 C.2.1 d (lv_at hl q hq) (kk H locs ls hP hD hS hl)
theorem j_lload_n (C : CX G A own cc nL p s m args c) {kf : Fin 4} {x : Int64} (q : Nat) (hq : lv[q]? = some ((kf : Nat), .long x)) (d : decode cc pc = .ok (.lload_n kf, 1)) (kk : J p l e R s m args below meth c G A nL Q k n ad a b (pc + 1) (lv) (.long x :: st)) : J p l e R s m args below meth c G A nL Q k n ad a b (pc) (lv) (st) := fun H locs ls hP hD hS hl => lv_lload_n C.1 C.2.1 d rfl (lv_at hl q hq) (kk H locs ls hP hD hS hl)
theorem j_lload (C : CX G A own cc nL p s m args c) {i : Nat} {x : Int64} (q : Nat) (hq : lv[q]? = some (i, .long x)) (d : decode cc pc = .ok (.lload i, 2)) (kk : J p l e R s m args below meth c G A nL Q k n ad a b (pc + 2) (lv) (.long x :: st)) : J p l e R s m args below meth c G A nL Q k n ad a b (pc) (lv) (st) := fun H locs ls hP hD hS hl => lv_lload C.1 C.2.1 d (lv_at hl q hq) (kk H locs ls hP hD hS hl)
theorem j_fload_n (C : CX G A own cc nL p s m args c) {kf : Fin 4} {x : UInt32} (q : Nat) (hq : lv[q]? = some ((kf : Nat), .float x)) (d : decode cc pc = .ok (.fload_n kf, 1)) (kk : J p l e R s m args below meth c G A nL Q k n ad a b (pc + 1) (lv) (.float x :: st)) : J p l e R s m args below meth c G A nL Q k n ad a b (pc) (lv) (st) := fun H locs ls hP hD hS hl => lv_fload_n C.1 C.2.1 d rfl (lv_at hl q hq) (kk H locs ls hP hD hS hl)
theorem j_fload (C : CX G A own cc nL p s m args c) {i : Nat} {x : UInt32} (q : Nat) (hq : lv[q]? = some (i, .float x)) (d : decode cc pc = .ok (.fload i, 2)) (kk : J p l e R s m args below meth c G A nL Q k n ad a b (pc + 2) (lv) (.float x :: st)) : J p l e R s m args below meth c G A nL Q k n ad a b (pc) (lv) (st) := fun H locs ls hP hD hS hl => lv_fload C.1 C.2.1 d (lv_at hl q hq) (kk H locs ls hP hD hS hl)
theorem j_dload_n (C : CX G A own cc nL p s m args c) {kf : Fin 4} {x : UInt64} (q : Nat) (hq : lv[q]? = some ((kf : Nat), .double x)) (d : decode cc pc = .ok (.dload_n kf, 1)) (kk : J p l e R s m args below meth c G A nL Q k n ad a b (pc + 1) (lv) (.double x :: st)) : J p l e R s m args below meth c G A nL Q k n ad a b (pc) (lv) (st) := fun H locs ls hP hD hS hl => lv_dload_n C.1 C.2.1 d rfl (lv_at hl q hq) (kk H locs ls hP hD hS hl)
theorem j_dload (C : CX G A own cc nL p s m args c) {i : Nat} {x : UInt64} (q : Nat) (hq : lv[q]? = some (i, .double x)) (d : decode cc pc = .ok (.dload i, 2)) (kk : J p l e R s m args below meth c G A nL Q k n ad a b (pc + 2) (lv) (.double x :: st)) : J p l e R s m args below meth c G A nL Q k n ad a b (pc) (lv) (st) := fun H locs ls hP hD hS hl => lv_dload C.1 C.2.1 d (lv_at hl q hq) (kk H locs ls hP hD hS hl)
theorem j_aload_n (C : CX G A own cc nL p s m args c) {kf : Fin 4} {x : Nat} (q : Nat) (hq : lv[q]? = some ((kf : Nat), .ref x)) (d : decode cc pc = .ok (.aload_n kf, 1)) (kk : J p l e R s m args below meth c G A nL Q k n ad a b (pc + 1) (lv) (.ref x :: st)) : J p l e R s m args below meth c G A nL Q k n ad a b (pc) (lv) (st) := fun H locs ls hP hD hS hl => lv_aload_n C.1 C.2.1 d rfl (lv_at hl q hq) (kk H locs ls hP hD hS hl)
theorem j_aload (C : CX G A own cc nL p s m args c) {i : Nat} {x : Nat} (q : Nat) (hq : lv[q]? = some (i, .ref x)) (d : decode cc pc = .ok (.aload i, 2)) (kk : J p l e R s m args below meth c G A nL Q k n ad a b (pc + 2) (lv) (.ref x :: st)) : J p l e R s m args below meth c G A nL Q k n ad a b (pc) (lv) (st) := fun H locs ls hP hD hS hl => lv_aload C.1 C.2.1 d (lv_at hl q hq) (kk H locs ls hP hD hS hl)
theorem j_aload_nq (C : CX G A own cc nL p s m args c) {kf : Fin 4} {o : Option Nat} (q : Nat) (hq : lv[q]? = some ((kf : Nat), itv ad o)) (d : decode cc pc = .ok (.aload_n kf, 1)) (kk : J p l e R s m args below meth c G A nL Q k n ad a b (pc + 1) (lv) (itv ad o :: st)) : J p l e R s m args below meth c G A nL Q k n ad a b (pc) (lv) (st) := fun H locs ls hP hD hS hl => by
  cases o with
  | none => exact lv_aload_nN C.1 C.2.1 d rfl (lv_at hl q hq) (kk H locs ls hP hD hS hl)
  | some i => exact lv_aload_n C.1 C.2.1 d rfl (lv_at hl q hq) (kk H locs ls hP hD hS hl)
theorem j_aloadq (C : CX G A own cc nL p s m args c) {i : Nat} {o : Option Nat} (q : Nat) (hq : lv[q]? = some (i, itv ad o)) (d : decode cc pc = .ok (.aload i, 2)) (kk : J p l e R s m args below meth c G A nL Q k n ad a b (pc + 2) (lv) (itv ad o :: st)) : J p l e R s m args below meth c G A nL Q k n ad a b (pc) (lv) (st) := fun H locs ls hP hD hS hl => by
  cases o with
  | none => exact lv_aloadN C.1 C.2.1 d (lv_at hl q hq) (kk H locs ls hP hD hS hl)
  | some i => exact lv_aload C.1 C.2.1 d (lv_at hl q hq) (kk H locs ls hP hD hS hl)
theorem j_istore_n (C : CX G A own cc nL p s m args c) {kf : Fin 4} {i : Nat} {x : Int32} {lv' : List (Nat × Value)} (d : decode cc pc = .ok (.istore_n kf, 1)) (hi : (kf : Nat) = i) (hn : i < nL) (hlv : (i, Value.int x) :: lv.filter (fun q => !(q.1 == i) && !(q.1 + 1 == i && q.2.category == 2)) = lv') (kk : J p l e R s m args below meth c G A nL Q k n ad a b (pc + 1) (lv') (st)) : J p l e R s m args below meth c G A nL Q k n ad a b (pc) (lv) (.int x :: st) := fun H locs ls hP hD hS hl => lv_istore_n C.1 C.2.1 d hi hl hn hlv (fun ls' hl' => kk H locs ls' hP hD hS hl')
theorem j_istore (C : CX G A own cc nL p s m args c) {i : Nat} {x : Int32} {lv' : List (Nat × Value)} (d : decode cc pc = .ok (.istore i, 2)) (hn : i < nL) (hlv : (i, Value.int x) :: lv.filter (fun q => !(q.1 == i) && !(q.1 + 1 == i && q.2.category == 2)) = lv') (kk : J p l e R s m args below meth c G A nL Q k n ad a b (pc + 2) (lv') (st)) : J p l e R s m args below meth c G A nL Q k n ad a b (pc) (lv) (.int x :: st) := fun H locs ls hP hD hS hl => lv_istore C.1 C.2.1 d hl hn hlv (fun ls' hl' => kk H locs ls' hP hD hS hl')
theorem j_fstore_n (C : CX G A own cc nL p s m args c) {kf : Fin 4} {i : Nat} {x : UInt32} {lv' : List (Nat × Value)} (d : decode cc pc = .ok (.fstore_n kf, 1)) (hi : (kf : Nat) = i) (hn : i < nL) (hlv : (i, Value.float x) :: lv.filter (fun q => !(q.1 == i) && !(q.1 + 1 == i && q.2.category == 2)) = lv') (kk : J p l e R s m args below meth c G A nL Q k n ad a b (pc + 1) (lv') (st)) : J p l e R s m args below meth c G A nL Q k n ad a b (pc) (lv) (.float x :: st) := fun H locs ls hP hD hS hl => lv_fstore_n C.1 C.2.1 d hi hl hn hlv (fun ls' hl' => kk H locs ls' hP hD hS hl')
theorem j_fstore (C : CX G A own cc nL p s m args c) {i : Nat} {x : UInt32} {lv' : List (Nat × Value)} (d : decode cc pc = .ok (.fstore i, 2)) (hn : i < nL) (hlv : (i, Value.float x) :: lv.filter (fun q => !(q.1 == i) && !(q.1 + 1 == i && q.2.category == 2)) = lv') (kk : J p l e R s m args below meth c G A nL Q k n ad a b (pc + 2) (lv') (st)) : J p l e R s m args below meth c G A nL Q k n ad a b (pc) (lv) (.float x :: st) := fun H locs ls hP hD hS hl => lv_fstore C.1 C.2.1 d hl hn hlv (fun ls' hl' => kk H locs ls' hP hD hS hl')
theorem j_astore_n (C : CX G A own cc nL p s m args c) {kf : Fin 4} {i : Nat} {x : Nat} {lv' : List (Nat × Value)} (d : decode cc pc = .ok (.astore_n kf, 1)) (hi : (kf : Nat) = i) (hn : i < nL) (hlv : (i, Value.ref x) :: lv.filter (fun q => !(q.1 == i) && !(q.1 + 1 == i && q.2.category == 2)) = lv') (kk : J p l e R s m args below meth c G A nL Q k n ad a b (pc + 1) (lv') (st)) : J p l e R s m args below meth c G A nL Q k n ad a b (pc) (lv) (.ref x :: st) := fun H locs ls hP hD hS hl => lv_astore_n C.1 C.2.1 d hi hl hn hlv (fun ls' hl' => kk H locs ls' hP hD hS hl')
theorem j_astore (C : CX G A own cc nL p s m args c) {i : Nat} {x : Nat} {lv' : List (Nat × Value)} (d : decode cc pc = .ok (.astore i, 2)) (hn : i < nL) (hlv : (i, Value.ref x) :: lv.filter (fun q => !(q.1 == i) && !(q.1 + 1 == i && q.2.category == 2)) = lv') (kk : J p l e R s m args below meth c G A nL Q k n ad a b (pc + 2) (lv') (st)) : J p l e R s m args below meth c G A nL Q k n ad a b (pc) (lv) (.ref x :: st) := fun H locs ls hP hD hS hl => lv_astore C.1 C.2.1 d hl hn hlv (fun ls' hl' => kk H locs ls' hP hD hS hl')
theorem j_lstore_n (C : CX G A own cc nL p s m args c) {kf : Fin 4} {i : Nat} {x : Int64} {lv' : List (Nat × Value)} (d : decode cc pc = .ok (.lstore_n kf, 1)) (hi : (kf : Nat) = i) (hn : i + 1 < nL) (hlv : (i, Value.long x) :: lv.filter (fun q => !(q.1 == i) && (!(q.1 == i + 1) && !(q.1 + 1 == i && q.2.category == 2))) = lv') (kk : J p l e R s m args below meth c G A nL Q k n ad a b (pc + 1) (lv') (st)) : J p l e R s m args below meth c G A nL Q k n ad a b (pc) (lv) (.long x :: st) := fun H locs ls hP hD hS hl => lv_lstore_n C.1 C.2.1 d hi hl hn hlv (fun ls' hl' => kk H locs ls' hP hD hS hl')
theorem j_lstore (C : CX G A own cc nL p s m args c) {i : Nat} {x : Int64} {lv' : List (Nat × Value)} (d : decode cc pc = .ok (.lstore i, 2)) (hn : i + 1 < nL) (hlv : (i, Value.long x) :: lv.filter (fun q => !(q.1 == i) && (!(q.1 == i + 1) && !(q.1 + 1 == i && q.2.category == 2))) = lv') (kk : J p l e R s m args below meth c G A nL Q k n ad a b (pc + 2) (lv') (st)) : J p l e R s m args below meth c G A nL Q k n ad a b (pc) (lv) (.long x :: st) := fun H locs ls hP hD hS hl => lv_lstore C.1 C.2.1 d hl hn hlv (fun ls' hl' => kk H locs ls' hP hD hS hl')
theorem j_dstore_n (C : CX G A own cc nL p s m args c) {kf : Fin 4} {i : Nat} {x : UInt64} {lv' : List (Nat × Value)} (d : decode cc pc = .ok (.dstore_n kf, 1)) (hi : (kf : Nat) = i) (hn : i + 1 < nL) (hlv : (i, Value.double x) :: lv.filter (fun q => !(q.1 == i) && (!(q.1 == i + 1) && !(q.1 + 1 == i && q.2.category == 2))) = lv') (kk : J p l e R s m args below meth c G A nL Q k n ad a b (pc + 1) (lv') (st)) : J p l e R s m args below meth c G A nL Q k n ad a b (pc) (lv) (.double x :: st) := fun H locs ls hP hD hS hl => lv_dstore_n C.1 C.2.1 d hi hl hn hlv (fun ls' hl' => kk H locs ls' hP hD hS hl')
theorem j_dstore (C : CX G A own cc nL p s m args c) {i : Nat} {x : UInt64} {lv' : List (Nat × Value)} (d : decode cc pc = .ok (.dstore i, 2)) (hn : i + 1 < nL) (hlv : (i, Value.double x) :: lv.filter (fun q => !(q.1 == i) && (!(q.1 == i + 1) && !(q.1 + 1 == i && q.2.category == 2))) = lv') (kk : J p l e R s m args below meth c G A nL Q k n ad a b (pc + 2) (lv') (st)) : J p l e R s m args below meth c G A nL Q k n ad a b (pc) (lv) (.double x :: st) := fun H locs ls hP hD hS hl => lv_dstore C.1 C.2.1 d hl hn hlv (fun ls' hl' => kk H locs ls' hP hD hS hl')
theorem j_astore_nq (C : CX G A own cc nL p s m args c) {kf : Fin 4} {i : Nat} {o : Option Nat} {lv' : List (Nat × Value)} (d : decode cc pc = .ok (.astore_n kf, 1)) (hi : (kf : Nat) = i) (hn : i < nL) (hlv : (i, itv ad o) :: lv.filter (fun q => !(q.1 == i) && !(q.1 + 1 == i && q.2.category == 2)) = lv') (kk : J p l e R s m args below meth c G A nL Q k n ad a b (pc + 1) (lv') (st)) : J p l e R s m args below meth c G A nL Q k n ad a b (pc) (lv) (itv ad o :: st) := fun H locs ls hP hD hS hl => by
  cases o with
  | none => exact lv_astore_nN C.1 C.2.1 d hi hl hn hlv (fun ls' hl' => kk H locs ls' hP hD hS hl')
  | some i => exact lv_astore_n C.1 C.2.1 d hi hl hn hlv (fun ls' hl' => kk H locs ls' hP hD hS hl')
theorem j_astoreq (C : CX G A own cc nL p s m args c) {i : Nat} {o : Option Nat} {lv' : List (Nat × Value)} (d : decode cc pc = .ok (.astore i, 2)) (hn : i < nL) (hlv : (i, itv ad o) :: lv.filter (fun q => !(q.1 == i) && !(q.1 + 1 == i && q.2.category == 2)) = lv') (kk : J p l e R s m args below meth c G A nL Q k n ad a b (pc + 2) (lv') (st)) : J p l e R s m args below meth c G A nL Q k n ad a b (pc) (lv) (itv ad o :: st) := fun H locs ls hP hD hS hl => by
  cases o with
  | none => exact lv_astoreN C.1 C.2.1 d hl hn hlv (fun ls' hl' => kk H locs ls' hP hD hS hl')
  | some i => exact lv_astore C.1 C.2.1 d hl hn hlv (fun ls' hl' => kk H locs ls' hP hD hS hl')
theorem j_iinc (C : CX G A own cc nL p s m args c) {i : Nat} {z : Int} {x v : Int32} {lv' : List (Nat × Value)} (q : Nat) (hq : lv[q]? = some (i, .int x)) (hv : x + Int32.ofInt z = v) (hn : i < nL) (hlv : (i, Value.int v) :: lv.filter (fun q => !(q.1 == i) && !(q.1 + 1 == i && q.2.category == 2)) = lv') (d : decode cc pc = .ok (.iinc i z, 3)) (kk : J p l e R s m args below meth c G A nL Q k n ad a b (pc + 3) (lv') (st)) : J p l e R s m args below meth c G A nL Q k n ad a b (pc) (lv) (st) := fun H locs ls hP hD hS hl => lv_iinc C.1 C.2.1 d hl hq hv hn hlv (fun ls' hl' => kk H locs ls' hP hD hS hl')
theorem j_iadd (C : CX G A own cc nL p s m args c) {x y : Int32} (d : decode cc pc = .ok (.iadd, 1)) (kk : J p l e R s m args below meth c G A nL Q k n ad a b (pc + 1) (lv) (.int (x + y) :: st)) : J p l e R s m args below meth c G A nL Q k n ad a b (pc) (lv) (.int y :: .int x :: st) := fun H locs ls hP hD hS hl => lv_iadd C.1 C.2.1 d (kk H locs ls hP hD hS hl)
theorem j_isub (C : CX G A own cc nL p s m args c) {x y : Int32} (d : decode cc pc = .ok (.isub, 1)) (kk : J p l e R s m args below meth c G A nL Q k n ad a b (pc + 1) (lv) (.int (x - y) :: st)) : J p l e R s m args below meth c G A nL Q k n ad a b (pc) (lv) (.int y :: .int x :: st) := fun H locs ls hP hD hS hl => lv_isub C.1 C.2.1 d (kk H locs ls hP hD hS hl)
theorem j_imul (C : CX G A own cc nL p s m args c) {x y : Int32} (d : decode cc pc = .ok (.imul, 1)) (kk : J p l e R s m args below meth c G A nL Q k n ad a b (pc + 1) (lv) (.int (x * y) :: st)) : J p l e R s m args below meth c G A nL Q k n ad a b (pc) (lv) (.int y :: .int x :: st) := fun H locs ls hP hD hS hl => lv_imul C.1 C.2.1 d (kk H locs ls hP hD hS hl)
theorem j_iand (C : CX G A own cc nL p s m args c) {x y : Int32} (d : decode cc pc = .ok (.iand, 1)) (kk : J p l e R s m args below meth c G A nL Q k n ad a b (pc + 1) (lv) (.int (x &&& y) :: st)) : J p l e R s m args below meth c G A nL Q k n ad a b (pc) (lv) (.int y :: .int x :: st) := fun H locs ls hP hD hS hl => lv_iand C.1 C.2.1 d (kk H locs ls hP hD hS hl)
theorem j_ixor (C : CX G A own cc nL p s m args c) {x y : Int32} (d : decode cc pc = .ok (.ixor, 1)) (kk : J p l e R s m args below meth c G A nL Q k n ad a b (pc + 1) (lv) (.int (x ^^^ y) :: st)) : J p l e R s m args below meth c G A nL Q k n ad a b (pc) (lv) (.int y :: .int x :: st) := fun H locs ls hP hD hS hl => lv_ixor C.1 C.2.1 d (kk H locs ls hP hD hS hl)
theorem j_ishl (C : CX G A own cc nL p s m args c) {x y : Int32} (d : decode cc pc = .ok (.ishl, 1)) (kk : J p l e R s m args below meth c G A nL Q k n ad a b (pc + 1) (lv) (.int (x <<< (y &&& 31)) :: st)) : J p l e R s m args below meth c G A nL Q k n ad a b (pc) (lv) (.int y :: .int x :: st) := fun H locs ls hP hD hS hl => lv_ishl C.1 C.2.1 d (kk H locs ls hP hD hS hl)
theorem j_ishr (C : CX G A own cc nL p s m args c) {x y : Int32} (d : decode cc pc = .ok (.ishr, 1)) (kk : J p l e R s m args below meth c G A nL Q k n ad a b (pc + 1) (lv) (.int (x >>> (y &&& 31)) :: st)) : J p l e R s m args below meth c G A nL Q k n ad a b (pc) (lv) (.int y :: .int x :: st) := fun H locs ls hP hD hS hl => lv_ishr C.1 C.2.1 d (kk H locs ls hP hD hS hl)
theorem j_idiv (C : CX G A own cc nL p s m args c) {x y : Int32} (h0 : ¬ y = 0) (d : decode cc pc = .ok (.idiv, 1)) (kk : J p l e R s m args below meth c G A nL Q k n ad a b (pc + 1) (lv) (.int (x / y) :: st)) : J p l e R s m args below meth c G A nL Q k n ad a b (pc) (lv) (.int y :: .int x :: st) := fun H locs ls hP hD hS hl => lv_idiv C.1 C.2.1 d h0 (kk H locs ls hP hD hS hl)
theorem j_irem (C : CX G A own cc nL p s m args c) {x y : Int32} (h0 : ¬ y = 0) (d : decode cc pc = .ok (.irem, 1)) (kk : J p l e R s m args below meth c G A nL Q k n ad a b (pc + 1) (lv) (.int (x - x / y * y) :: st)) : J p l e R s m args below meth c G A nL Q k n ad a b (pc) (lv) (.int y :: .int x :: st) := fun H locs ls hP hD hS hl => lv_irem C.1 C.2.1 d h0 (kk H locs ls hP hD hS hl)
theorem j_ineg (C : CX G A own cc nL p s m args c) {x : Int32} (d : decode cc pc = .ok (.ineg, 1)) (kk : J p l e R s m args below meth c G A nL Q k n ad a b (pc + 1) (lv) (.int (-x) :: st)) : J p l e R s m args below meth c G A nL Q k n ad a b (pc) (lv) (.int x :: st) := fun H locs ls hP hD hS hl => lv_ineg C.1 C.2.1 d (kk H locs ls hP hD hS hl)
theorem j_i2l (C : CX G A own cc nL p s m args c) {x : Int32} (d : decode cc pc = .ok (.i2l, 1)) (kk : J p l e R s m args below meth c G A nL Q k n ad a b (pc + 1) (lv) (.long x.toInt64 :: st)) : J p l e R s m args below meth c G A nL Q k n ad a b (pc) (lv) (.int x :: st) := fun H locs ls hP hD hS hl => lv_i2l C.1 C.2.1 d rfl (kk H locs ls hP hD hS hl)
theorem j_i2c (C : CX G A own cc nL p s m args c) {x : Int32} (d : decode cc pc = .ok (.i2c, 1)) (kk : J p l e R s m args below meth c G A nL Q k n ad a b (pc + 1) (lv) (.int (x.toUInt32 % 65536).toInt32 :: st)) : J p l e R s m args below meth c G A nL Q k n ad a b (pc) (lv) (.int x :: st) := fun H locs ls hP hD hS hl => lv_i2c C.1 C.2.1 d rfl (kk H locs ls hP hD hS hl)
theorem j_ladd (C : CX G A own cc nL p s m args c) {x y : Int64} (d : decode cc pc = .ok (.ladd, 1)) (kk : J p l e R s m args below meth c G A nL Q k n ad a b (pc + 1) (lv) (.long (x + y) :: st)) : J p l e R s m args below meth c G A nL Q k n ad a b (pc) (lv) (.long y :: .long x :: st) := fun H locs ls hP hD hS hl => lv_ladd C.1 C.2.1 d (kk H locs ls hP hD hS hl)
theorem j_lmul (C : CX G A own cc nL p s m args c) {x y : Int64} (d : decode cc pc = .ok (.lmul, 1)) (kk : J p l e R s m args below meth c G A nL Q k n ad a b (pc + 1) (lv) (.long (x * y) :: st)) : J p l e R s m args below meth c G A nL Q k n ad a b (pc) (lv) (.long y :: .long x :: st) := fun H locs ls hP hD hS hl => lv_lmul C.1 C.2.1 d (kk H locs ls hP hD hS hl)
theorem j_lcmp (C : CX G A own cc nL p s m args c) {x y : Int64} (d : decode cc pc = .ok (.lcmp, 1)) (kk : J p l e R s m args below meth c G A nL Q k n ad a b (pc + 1) (lv) (.int (lg_cmp x y) :: st)) : J p l e R s m args below meth c G A nL Q k n ad a b (pc) (lv) (.long y :: .long x :: st) := fun H locs ls hP hD hS hl => W.lcmp C.1 C.2.1 d (kk H locs ls hP hD hS hl)
theorem j_i2d (C : CX G A own cc nL p s m args c) {x : Int32} (d : decode cc pc = .ok (.i2d, 1)) (kk : J p l e R s m args below meth c G A nL Q k n ad a b (pc + 1) (lv) (.double (FP.i2d x) :: st)) : J p l e R s m args below meth c G A nL Q k n ad a b (pc) (lv) (.int x :: st) := fun H locs ls hP hD hS hl => lv_i2d C.1 C.2.1 d (kk H locs ls hP hD hS hl)
theorem j_f2i (C : CX G A own cc nL p s m args c) {x : UInt32} (d : decode cc pc = .ok (.f2i, 1)) (kk : J p l e R s m args below meth c G A nL Q k n ad a b (pc + 1) (lv) (.int (FP.f2i x) :: st)) : J p l e R s m args below meth c G A nL Q k n ad a b (pc) (lv) (.float x :: st) := fun H locs ls hP hD hS hl => lv_f2i C.1 C.2.1 d (kk H locs ls hP hD hS hl)
theorem j_fmul (C : CX G A own cc nL p s m args c) {x y : UInt32} (hn : vf_n32 (FP.fmul x y)) (d : decode cc pc = .ok (.fmul, 1)) (kk : J p l e R s m args below meth c G A nL Q k n ad a b (pc + 1) (lv) (.float (FP.fmul x y) :: st)) : J p l e R s m args below meth c G A nL Q k n ad a b (pc) (lv) (.float y :: .float x :: st) := fun H locs ls hP hD hS hl => lv_fmul C.1 C.2.1 d hn (kk H locs ls hP hD hS hl)
theorem j_fsub (C : CX G A own cc nL p s m args c) {x y : UInt32} (hn : vf_n32 (FP.fsub x y)) (d : decode cc pc = .ok (.fsub, 1)) (kk : J p l e R s m args below meth c G A nL Q k n ad a b (pc + 1) (lv) (.float (FP.fsub x y) :: st)) : J p l e R s m args below meth c G A nL Q k n ad a b (pc) (lv) (.float y :: .float x :: st) := fun H locs ls hP hD hS hl => lv_fsub C.1 C.2.1 d hn (kk H locs ls hP hD hS hl)
theorem j_ddiv (C : CX G A own cc nL p s m args c) {x y : UInt64} (hn : vf_n64 (FP.ddiv x y)) (d : decode cc pc = .ok (.ddiv, 1)) (kk : J p l e R s m args below meth c G A nL Q k n ad a b (pc + 1) (lv) (.double (FP.ddiv x y) :: st)) : J p l e R s m args below meth c G A nL Q k n ad a b (pc) (lv) (.double y :: .double x :: st) := fun H locs ls hP hD hS hl => lv_ddiv C.1 C.2.1 d hn (kk H locs ls hP hD hS hl)
theorem j_d2f (C : CX G A own cc nL p s m args c) {x : UInt64} (hn : vf_n32 (FP.d2f x)) (d : decode cc pc = .ok (.d2f, 1)) (kk : J p l e R s m args below meth c G A nL Q k n ad a b (pc + 1) (lv) (.float (FP.d2f x) :: st)) : J p l e R s m args below meth c G A nL Q k n ad a b (pc) (lv) (.double x :: st) := fun H locs ls hP hD hS hl => lv_d2f C.1 C.2.1 d hn (kk H locs ls hP hD hS hl)
theorem j_fcmp (C : CX G A own cc nL p s m args c) {x y : UInt32} {op : CmpOp} (d : decode cc pc = .ok (.fcmp op, 1)) (kk : J p l e R s m args below meth c G A nL Q k n ad a b (pc + 1) (lv) (.int (Op.cmpValue (FP.fcmp x y) op) :: st)) : J p l e R s m args below meth c G A nL Q k n ad a b (pc) (lv) (.float y :: .float x :: st) := fun H locs ls hP hD hS hl => lv_fcmp C.1 C.2.1 d (kk H locs ls hP hD hS hl)
theorem j_dcmp (C : CX G A own cc nL p s m args c) {x y : UInt64} {op : CmpOp} (d : decode cc pc = .ok (.dcmp op, 1)) (kk : J p l e R s m args below meth c G A nL Q k n ad a b (pc + 1) (lv) (.int (Op.cmpValue (FP.dcmp x y) op) :: st)) : J p l e R s m args below meth c G A nL Q k n ad a b (pc) (lv) (.double y :: .double x :: st) := fun H locs ls hP hD hS hl => lv_dcmp C.1 C.2.1 d (kk H locs ls hP hD hS hl)
theorem j_dup (C : CX G A own cc nL p s m args c) {v : Value} (hv : v.category = 1) (d : decode cc pc = .ok (.dup, 1)) (kk : J p l e R s m args below meth c G A nL Q k n ad a b (pc + 1) (lv) (v :: v :: st)) : J p l e R s m args below meth c G A nL Q k n ad a b (pc) (lv) (v :: st) := fun H locs ls hP hD hS hl => lv_dup C.1 C.2.1 d hv (kk H locs ls hP hD hS hl)
theorem j_pop (C : CX G A own cc nL p s m args c) {v : Value} (hv : v.category = 1) (d : decode cc pc = .ok (.pop, 1)) (kk : J p l e R s m args below meth c G A nL Q k n ad a b (pc + 1) (lv) (st)) : J p l e R s m args below meth c G A nL Q k n ad a b (pc) (lv) (v :: st) := fun H locs ls hP hD hS hl => lv_pop C.1 C.2.1 d hv (kk H locs ls hP hD hS hl)
theorem j_dup2 (C : CX G A own cc nL p s m args c) {v w : Value} (hv : v.category = 1) (hw : w.category = 1) (d : decode cc pc = .ok (.dup2, 1)) (kk : J p l e R s m args below meth c G A nL Q k n ad a b (pc + 1) (lv) (v :: w :: v :: w :: st)) : J p l e R s m args below meth c G A nL Q k n ad a b (pc) (lv) (v :: w :: st) := fun H locs ls hP hD hS hl => lv_dup2_11 C.1 C.2.1 d hv hw (kk H locs ls hP hD hS hl)
theorem j_ldc (C : CX G A own cc nL p s m args c) {idx : Nat} {v : Int32} (hw : Cond.constant own idx v ∈ BIG) (d : decode cc pc = .ok (.ldc idx, 2)) (kk : J p l e R s m args below meth c G A nL Q k n ad a b (pc + 2) (lv) (.int v :: st)) : J p l e R s m args below meth c G A nL Q k n ad a b (pc) (lv) (st) := fun H locs ls hP hD hS hl => lv_ldc C.1 C.2.1 C.2.2.2.1 (C.2.2.2.2.1 _ hw) d (kk H locs ls hP hD hS hl)
theorem j_ldcf (C : CX G A own cc nL p s m args c) {idx : Nat} {v : UInt32} (hw : Cond.constantFloat own idx v ∈ BIG) (d : decode cc pc = .ok (.ldc idx, 2)) (kk : J p l e R s m args below meth c G A nL Q k n ad a b (pc + 2) (lv) (.float v :: st)) : J p l e R s m args below meth c G A nL Q k n ad a b (pc) (lv) (st) := fun H locs ls hP hD hS hl => lv_ldcf C.1 C.2.1 C.2.2.2.1 (C.2.2.2.2.1 _ hw) d (kk H locs ls hP hD hS hl)
theorem j_ldc2 (C : CX G A own cc nL p s m args c) {idx : Nat} {v : Int64} (hw : Cond.constantLong own idx v ∈ BIG) (d : decode cc pc = .ok (.ldc2_w idx, 3)) (kk : J p l e R s m args below meth c G A nL Q k n ad a b (pc + 3) (lv) (.long v :: st)) : J p l e R s m args below meth c G A nL Q k n ad a b (pc) (lv) (st) := fun H locs ls hP hD hS hl => lv_ldc2 C.1 C.2.1 C.2.2.2.1 (C.2.2.2.2.1 _ hw) d (kk H locs ls hP hD hS hl)
theorem j_if_eq (C : CX G A own cc nL p s m args c) {X : Type} {f g r : X} {x : Int32} {off : Int} (tgt : Nat) (d : decode cc pc = .ok (.ifCond .eq off, 3)) (ht : (pc : Int) + off = (tgt : Int)) (hf : (if x = 0 then f else g) = r) (kt : x = 0 → f = r → J p l e R s m args below meth c G A nL Q k n ad a b (tgt) (lv) (st)) (kf : ¬ (x = 0) → g = r → J p l e R s m args below meth c G A nL Q k n ad a b (pc + 3) (lv) (st)) : J p l e R s m args below meth c G A nL Q k n ad a b (pc) (lv) (.int x :: st) := fun H locs ls hP hD hS hl => lv_if_eq C.1 C.2.1 d ht (fun h => kt h ((if_pos h).symm.trans hf) H locs ls hP hD hS hl) (fun h => kf h ((if_neg h).symm.trans hf) H locs ls hP hD hS hl)
theorem j_if_ne (C : CX G A own cc nL p s m args c) {X : Type} {f g r : X} {x : Int32} {off : Int} (tgt : Nat) (d : decode cc pc = .ok (.ifCond .ne off, 3)) (ht : (pc : Int) + off = (tgt : Int)) (hf : (if ¬ x = 0 then f else g) = r) (kt : ¬ x = 0 → f = r → J p l e R s m args below meth c G A nL Q k n ad a b (tgt) (lv) (st)) (kf : ¬ (¬ x = 0) → g = r → J p l e R s m args below meth c G A nL Q k n ad a b (pc + 3) (lv) (st)) : J p l e R s m args below meth c G A nL Q k n ad a b (pc) (lv) (.int x :: st) := fun H locs ls hP hD hS hl => lv_if_ne C.1 C.2.1 d ht (fun h => kt h ((if_pos h).symm.trans hf) H locs ls hP hD hS hl) (fun h => kf (fun q => q h) ((if_neg (fun q => q h)).symm.trans hf) H locs ls hP hD hS hl)
theorem j_if_lt (C : CX G A own cc nL p s m args c) {X : Type} {f g r : X} {x : Int32} {off : Int} (tgt : Nat) (d : decode cc pc = .ok (.ifCond .lt off, 3)) (ht : (pc : Int) + off = (tgt : Int)) (hf : (if x < 0 then f else g) = r) (kt : x < 0 → f = r → J p l e R s m args below meth c G A nL Q k n ad a b (tgt) (lv) (st)) (kf : ¬ (x < 0) → g = r → J p l e R s m args below meth c G A nL Q k n ad a b (pc + 3) (lv) (st)) : J p l e R s m args below meth c G A nL Q k n ad a b (pc) (lv) (.int x :: st) := fun H locs ls hP hD hS hl => lv_if_lt C.1 C.2.1 d ht (fun h => kt h ((if_pos h).symm.trans hf) H locs ls hP hD hS hl) (fun h => kf h ((if_neg h).symm.trans hf) H locs ls hP hD hS hl)
theorem j_if_ge (C : CX G A own cc nL p s m args c) {X : Type} {f g r : X} {x : Int32} {off : Int} (tgt : Nat) (d : decode cc pc = .ok (.ifCond .ge off, 3)) (ht : (pc : Int) + off = (tgt : Int)) (hf : (if 0 ≤ x then f else g) = r) (kt : 0 ≤ x → f = r → J p l e R s m args below meth c G A nL Q k n ad a b (tgt) (lv) (st)) (kf : ¬ (0 ≤ x) → g = r → J p l e R s m args below meth c G A nL Q k n ad a b (pc + 3) (lv) (st)) : J p l e R s m args below meth c G A nL Q k n ad a b (pc) (lv) (.int x :: st) := fun H locs ls hP hD hS hl => lv_if_ge C.1 C.2.1 d ht (fun h => kt h ((if_pos h).symm.trans hf) H locs ls hP hD hS hl) (fun h => kf h ((if_neg h).symm.trans hf) H locs ls hP hD hS hl)
theorem j_if_gt (C : CX G A own cc nL p s m args c) {X : Type} {f g r : X} {x : Int32} {off : Int} (tgt : Nat) (d : decode cc pc = .ok (.ifCond .gt off, 3)) (ht : (pc : Int) + off = (tgt : Int)) (hf : (if 0 < x then f else g) = r) (kt : 0 < x → f = r → J p l e R s m args below meth c G A nL Q k n ad a b (tgt) (lv) (st)) (kf : ¬ (0 < x) → g = r → J p l e R s m args below meth c G A nL Q k n ad a b (pc + 3) (lv) (st)) : J p l e R s m args below meth c G A nL Q k n ad a b (pc) (lv) (.int x :: st) := fun H locs ls hP hD hS hl => lv_if_gt C.1 C.2.1 d ht (fun h => kt h ((if_pos h).symm.trans hf) H locs ls hP hD hS hl) (fun h => kf h ((if_neg h).symm.trans hf) H locs ls hP hD hS hl)
theorem j_if_le (C : CX G A own cc nL p s m args c) {X : Type} {f g r : X} {x : Int32} {off : Int} (tgt : Nat) (d : decode cc pc = .ok (.ifCond .le off, 3)) (ht : (pc : Int) + off = (tgt : Int)) (hf : (if x ≤ 0 then f else g) = r) (kt : x ≤ 0 → f = r → J p l e R s m args below meth c G A nL Q k n ad a b (tgt) (lv) (st)) (kf : ¬ (x ≤ 0) → g = r → J p l e R s m args below meth c G A nL Q k n ad a b (pc + 3) (lv) (st)) : J p l e R s m args below meth c G A nL Q k n ad a b (pc) (lv) (.int x :: st) := fun H locs ls hP hD hS hl => lv_if_le C.1 C.2.1 d ht (fun h => kt h ((if_pos h).symm.trans hf) H locs ls hP hD hS hl) (fun h => kf h ((if_neg h).symm.trans hf) H locs ls hP hD hS hl)
theorem j_icmp_eq (C : CX G A own cc nL p s m args c) {X : Type} {f g r : X} {x y : Int32} {off : Int} (tgt : Nat) (d : decode cc pc = .ok (.if_icmp .eq off, 3)) (ht : (pc : Int) + off = (tgt : Int)) (hf : (if x = y then f else g) = r) (kt : x = y → f = r → J p l e R s m args below meth c G A nL Q k n ad a b (tgt) (lv) (st)) (kf : ¬ (x = y) → g = r → J p l e R s m args below meth c G A nL Q k n ad a b (pc + 3) (lv) (st)) : J p l e R s m args below meth c G A nL Q k n ad a b (pc) (lv) (.int y :: .int x :: st) := fun H locs ls hP hD hS hl => lv_icmp_eq C.1 C.2.1 d ht (fun h => kt h ((if_pos h).symm.trans hf) H locs ls hP hD hS hl) (fun h => kf h ((if_neg h).symm.trans hf) H locs ls hP hD hS hl)
theorem j_icmp_ne (C : CX G A own cc nL p s m args c) {X : Type} {f g r : X} {x y : Int32} {off : Int} (tgt : Nat) (d : decode cc pc = .ok (.if_icmp .ne off, 3)) (ht : (pc : Int) + off = (tgt : Int)) (hf : (if ¬ x = y then f else g) = r) (kt : ¬ x = y → f = r → J p l e R s m args below meth c G A nL Q k n ad a b (tgt) (lv) (st)) (kf : ¬ (¬ x = y) → g = r → J p l e R s m args below meth c G A nL Q k n ad a b (pc + 3) (lv) (st)) : J p l e R s m args below meth c G A nL Q k n ad a b (pc) (lv) (.int y :: .int x :: st) := fun H locs ls hP hD hS hl => lv_icmp_ne C.1 C.2.1 d ht (fun h => kt h ((if_pos h).symm.trans hf) H locs ls hP hD hS hl) (fun h => kf (fun q => q h) ((if_neg (fun q => q h)).symm.trans hf) H locs ls hP hD hS hl)
theorem j_icmp_lt (C : CX G A own cc nL p s m args c) {X : Type} {f g r : X} {x y : Int32} {off : Int} (tgt : Nat) (d : decode cc pc = .ok (.if_icmp .lt off, 3)) (ht : (pc : Int) + off = (tgt : Int)) (hf : (if x < y then f else g) = r) (kt : x < y → f = r → J p l e R s m args below meth c G A nL Q k n ad a b (tgt) (lv) (st)) (kf : ¬ (x < y) → g = r → J p l e R s m args below meth c G A nL Q k n ad a b (pc + 3) (lv) (st)) : J p l e R s m args below meth c G A nL Q k n ad a b (pc) (lv) (.int y :: .int x :: st) := fun H locs ls hP hD hS hl => lv_icmp_lt C.1 C.2.1 d ht (fun h => kt h ((if_pos h).symm.trans hf) H locs ls hP hD hS hl) (fun h => kf h ((if_neg h).symm.trans hf) H locs ls hP hD hS hl)
theorem j_icmp_ge (C : CX G A own cc nL p s m args c) {X : Type} {f g r : X} {x y : Int32} {off : Int} (tgt : Nat) (d : decode cc pc = .ok (.if_icmp .ge off, 3)) (ht : (pc : Int) + off = (tgt : Int)) (hf : (if y ≤ x then f else g) = r) (kt : y ≤ x → f = r → J p l e R s m args below meth c G A nL Q k n ad a b (tgt) (lv) (st)) (kf : ¬ (y ≤ x) → g = r → J p l e R s m args below meth c G A nL Q k n ad a b (pc + 3) (lv) (st)) : J p l e R s m args below meth c G A nL Q k n ad a b (pc) (lv) (.int y :: .int x :: st) := fun H locs ls hP hD hS hl => lv_icmp_ge C.1 C.2.1 d ht (fun h => kt h ((if_pos h).symm.trans hf) H locs ls hP hD hS hl) (fun h => kf h ((if_neg h).symm.trans hf) H locs ls hP hD hS hl)
theorem j_icmp_gt (C : CX G A own cc nL p s m args c) {X : Type} {f g r : X} {x y : Int32} {off : Int} (tgt : Nat) (d : decode cc pc = .ok (.if_icmp .gt off, 3)) (ht : (pc : Int) + off = (tgt : Int)) (hf : (if y < x then f else g) = r) (kt : y < x → f = r → J p l e R s m args below meth c G A nL Q k n ad a b (tgt) (lv) (st)) (kf : ¬ (y < x) → g = r → J p l e R s m args below meth c G A nL Q k n ad a b (pc + 3) (lv) (st)) : J p l e R s m args below meth c G A nL Q k n ad a b (pc) (lv) (.int y :: .int x :: st) := fun H locs ls hP hD hS hl => lv_icmp_gt C.1 C.2.1 d ht (fun h => kt h ((if_pos h).symm.trans hf) H locs ls hP hD hS hl) (fun h => kf h ((if_neg h).symm.trans hf) H locs ls hP hD hS hl)
theorem j_icmp_le (C : CX G A own cc nL p s m args c) {X : Type} {f g r : X} {x y : Int32} {off : Int} (tgt : Nat) (d : decode cc pc = .ok (.if_icmp .le off, 3)) (ht : (pc : Int) + off = (tgt : Int)) (hf : (if x ≤ y then f else g) = r) (kt : x ≤ y → f = r → J p l e R s m args below meth c G A nL Q k n ad a b (tgt) (lv) (st)) (kf : ¬ (x ≤ y) → g = r → J p l e R s m args below meth c G A nL Q k n ad a b (pc + 3) (lv) (st)) : J p l e R s m args below meth c G A nL Q k n ad a b (pc) (lv) (.int y :: .int x :: st) := fun H locs ls hP hD hS hl => lv_icmp_le C.1 C.2.1 d ht (fun h => kt h ((if_pos h).symm.trans hf) H locs ls hP hD hS hl) (fun h => kf h ((if_neg h).symm.trans hf) H locs ls hP hD hS hl)
theorem j_goto (C : CX G A own cc nL p s m args c) {off : Int} (tgt : Nat) (d : decode cc pc = .ok (.goto off, 3)) (ht : (pc : Int) + off = (tgt : Int)) (kk : J p l e R s m args below meth c G A nL Q k n ad a b (tgt) (lv) (st)) : J p l e R s m args below meth c G A nL Q k n ad a b (pc) (lv) (st) := fun H locs ls hP hD hS hl => lv_goto C.1 C.2.1 d ht (kk H locs ls hP hD hS hl)
theorem j_ifnull (C : CX G A own cc nL p s m args c) {X : Type} {o : Option Nat} {f r : X} {g : Nat → X} {off : Int} (tgt : Nat) (d : decode cc pc = .ok (.ifnull off, 3)) (ht : (pc : Int) + off = (tgt : Int)) (hf : ocs o f g = r) (kt : o = none → f = r → J p l e R s m args below meth c G A nL Q k n ad a b (tgt) (lv) (st)) (kf : ∀ i, o = some i → g i = r → J p l e R s m args below meth c G A nL Q k n ad a b (pc + 3) (lv) (st)) : J p l e R s m args below meth c G A nL Q k n ad a b (pc) (lv) (itv ad o :: st) := fun H locs ls hP hD hS hl => by
  cases o with
  | none => exact lv_ifnullN C.1 C.2.1 d ht (kt rfl hf H locs ls hP hD hS hl)
  | some i => exact lv_ifnull C.1 C.2.1 d (kf i rfl hf H locs ls hP hD hS hl)
theorem j_ifnonnull (C : CX G A own cc nL p s m args c) {X : Type} {o : Option Nat} {f r : X} {g : Nat → X} {off : Int} (tgt : Nat) (d : decode cc pc = .ok (.ifnonnull off, 3)) (ht : (pc : Int) + off = (tgt : Int)) (hf : ocs o f g = r) (kf : o = none → f = r → J p l e R s m args below meth c G A nL Q k n ad a b (pc + 3) (lv) (st)) (kt : ∀ i, o = some i → g i = r → J p l e R s m args below meth c G A nL Q k n ad a b (tgt) (lv) (st)) : J p l e R s m args below meth c G A nL Q k n ad a b (pc) (lv) (itv ad o :: st) := fun H locs ls hP hD hS hl => by
  cases o with
  | none => exact lv_ifnonnullN C.1 C.2.1 d (kf rfl hf H locs ls hP hD hS hl)
  | some i => exact lv_ifnonnull C.1 C.2.1 d ht (kt i rfl hf H locs ls hP hD hS hl)
theorem itr_inj {H : Heap} (hD : va_D A (wd G ad a b)) {o1 o2 : Option Nat} (h1 : okr (Kn a) o1 = true) (h2 : okr (Kn a) o2 = true) (h : itr ad o1 = itr ad o2) : o1 = o2 := by
  cases o1 with
  | none => cases o2 with
    | none => rfl
    | some j => cases h
  | some i => cases o2 with
    | none => cases h
    | some j =>
      have h1 : i < Kn a := of_decide_eq_true h1
      have h2 : j < Kn a := of_decide_eq_true h2
      have h3 : ad (ip i) = ad (ip j) := Option.some.inj h
      have h4 := wd_inj hD (mem_ip h1) (mem_ip h2) h3
      simp only [ip] at h4
      rw [show i = j by omega]
theorem j_acmp_ne (C : CX G A own cc nL p s m args c) {X : Type} {o1 o2 : Option Nat} {f g : Option X} {r : X} {off : Int} (tgt : Nat) (d : decode cc pc = .ok (.if_acmp .ne off, 3)) (ht : (pc : Int) + off = (tgt : Int)) (hf : gd (okr (Kn a) o1 && okr (Kn a) o2) (if ¬ o1 = o2 then f else g) = some r) (kt : ¬ o1 = o2 → f = some r → J p l e R s m args below meth c G A nL Q k n ad a b (tgt) (lv) (st)) (kf : ¬ ¬ o1 = o2 → g = some r → J p l e R s m args below meth c G A nL Q k n ad a b (pc + 3) (lv) (st)) : J p l e R s m args below meth c G A nL Q k n ad a b (pc) (lv) (itv ad o2 :: itv ad o1 :: st) := fun H locs ls hP hD hS hl => by
  obtain ⟨h0, hf⟩ := gd_some hf
  obtain ⟨h1, h2⟩ := (Bool.and_eq_true _ _).mp h0
  refine lv_acmp_ne C.1 C.2.1 d ht (fun h => ?_) (fun h => ?_)
  · have h3 : ¬ o1 = o2 := fun e => h (by rw [e])
    exact kt h3 ((if_pos h3).symm.trans hf) H locs ls hP hD hS hl
  · have h3 : ¬ ¬ o1 = o2 := fun e => e (itr_inj (H := H) hD h1 h2 h)
    exact kf h3 ((if_neg h3).symm.trans hf) H locs ls hP hD hS hl
/-- a field is read: q the place, fs what its cell holds -/
theorem j_get (C : CX G A own cc nL p s m args c) {q ci N kf idx : Nat} {fs : List Value} {RC ref : String} {T : u_T} {v : Value} (hq : q ∈ pls (Kn a)) (hcel : cel G ad a b q = .inr (ci, fs)) (hc : vwCl[ci]? = some (RC, T, N)) (hin : ∀ w ∈ u_ws RC T N, w ∈ BIG) (hk : kf < N) (hsame : ∀ x, s.fieldFound? (T kf).1 (T kf).2.1 (T kf).2.2.1 = some x → s.fieldFound? ref (T kf).2.1 (T kf).2.2.1 = some x) (hlink : Cond.fieldLink own idx ref (T kf).2.1 (T kf).2.2.1 ∈ BIG) (hv : fs[kf]? = some v) (d : decode cc pc = .ok (.getfield idx, 3)) (kk : J p l e R s m args below meth c G A nL Q k n ad a b (pc + 3) (lv) (v :: st)) : J p l e R s m args below meth c G A nL Q k n ad a b (pc) (lv) (.ref (ad q) :: st) := fun H locs ls hP hD hS hl => by
  obtain ⟨k0, hk0, hk1⟩ := wd_get (G := G) (ad := ad) (b := b) hq
  rw [hcel] at hk1
  exact va_get (D := G.1) C.1 C.2.1 C.2.2.2.2.1 hin C.2.2.2.1 C.2.2.2.2.2.1 hP k0 hk1 hc kf hk (C.2.2.2.2.1 _ hlink) hsame hv d (kk H locs ls hP hD hS hl)
/-- a field is written: (a', b') the state behind it -/
theorem j_put (C : CX G A own cc nL p s m args c) {a' : KS} {b' : MS} {q ci N kf idx : Nat} {fs : List Value} {RC ref : String} {T : u_T} {v : Value} {ty : FieldType} {ty0 : Nat → FieldType} (hq : q ∈ pls (Kn a)) (hcel : cel G ad a b q = .inr (ci, fs)) (hc : vwCl[ci]? = some (RC, T, N)) (hin : ∀ w ∈ u_ws RC T N, w ∈ BIG) (hty : ∀ k, k < N → parseFieldDescriptor (T k).2.2.1 = some (ty0 k)) (hnm : ∀ a, a < N → ∀ b, b < N → a ≠ b → (T a).2.1 ≠ (T b).2.1) (hk : kf < N) (hsame : ∀ x, s.fieldFound? (T kf).1 (T kf).2.1 (T kf).2.2.1 = some x → s.fieldFound? ref (T kf).2.1 (T kf).2.2.1 = some x) (hfin : (T kf).2.2.2 = false) (hd : parseFieldDescriptor (T kf).2.2.1 = some ty) (hlen : kf < fs.length)
    (hN : Kn a' = Kn a) (hnew : Sum.inr (ci, fs.set kf v) = cel G ad a' b' q) (hold : ∀ z, z ≠ q → cel G ad a b z = cel G ad a' b' z)
    (hlink : Cond.fieldLink own idx ref (T kf).2.1 (T kf).2.2.1 ∈ BIG) (hn : narrow ty v = v) (hfit : fits ty v = true) (d : decode cc pc = .ok (.putfield idx, 3)) (kk : J p l e R s m args below meth c G A nL Q k n ad a' b' (pc + 3) (lv) (st)) : J p l e R s m args below meth c G A nL Q k n ad a b (pc) (lv) (v :: .ref (ad q) :: st) := fun H locs ls hP hD hS hl => by
  obtain ⟨k0, hk0, hk1⟩ := wd_get (G := G) (ad := ad) (b := b) hq
  rw [hcel] at hk1
  refine va_put (D := G.1) C.1 C.2.1 C.2.2.2.2.1 hin ty0 hty hnm C.2.2.2.1 C.2.2.2.2.2.1 hP hD hS k0 hk1 hc kf hk (C.2.2.2.2.1 _ hlink) hsame hfin hd hn hfit hlen d (fun H1 locs1 hP1 hD1 hS1 => ?_)
  have e := wd_set (G := G) (ad := ad) (e := Sum.inr (ci, fs.set kf v)) hk0 hN hnew hold
  rw [e] at hP1 hD1
  exact kk H1 locs1 ls hP1 hD1 hS1 hl
theorem j_iald (C : CX G A own cc nL p s m args c) {X : Type} {x : Option X} {r : X} {q N : Nat} {f : Nat → Int32} {i : Int32} (hq : q ∈ pls (Kn a)) (hcel : cel G ad a b q = arI (G.2.1 0) N f) (hf : gd (inb i N) x = some r) (d : decode cc pc = .ok (.iaload, 1)) (kk : x = some r → J p l e R s m args below meth c G A nL Q k n ad a b (pc + 1) (lv) (.int (f i.toNatClampNeg) :: st)) : J p l e R s m args below meth c G A nL Q k n ad a b (pc) (lv) (.int i :: .ref (ad q) :: st) := fun H locs ls hP hD hS hl => by
  obtain ⟨h0, hf⟩ := gd_some hf
  obtain ⟨k0, hk0, hk1⟩ := wd_get (G := G) (ad := ad) (b := b) hq
  rw [hcel] at hk1
  exact va_iald (D := G.1) C.1 C.2.1 C.2.2.2.2.2.1 hP k0 0 hk1 rfl (inb_in h0) d (kk hf H locs ls hP hD hS hl)
theorem j_cald (C : CX G A own cc nL p s m args c) {X : Type} {x : Option X} {r : X} {q N : Nat} {f : Nat → Int32} {i : Int32} (hq : q ∈ pls (Kn a)) (hcel : cel G ad a b q = arI (G.2.1 1) N f) (hf : gd (inb i N) x = some r) (d : decode cc pc = .ok (.caload, 1)) (kk : x = some r → J p l e R s m args below meth c G A nL Q k n ad a b (pc + 1) (lv) (.int (f i.toNatClampNeg) :: st)) : J p l e R s m args below meth c G A nL Q k n ad a b (pc) (lv) (.int i :: .ref (ad q) :: st) := fun H locs ls hP hD hS hl => by
  obtain ⟨h0, hf⟩ := gd_some hf
  obtain ⟨k0, hk0, hk1⟩ := wd_get (G := G) (ad := ad) (b := b) hq
  rw [hcel] at hk1
  exact va_cald (D := G.1) C.1 C.2.1 C.2.2.2.2.2.1 hP k0 1 hk1 rfl (inb_in h0) d (kk hf H locs ls hP hD hS hl)
theorem j_aald (C : CX G A own cc nL p s m args c) {X : Type} {x : Option X} {r : X} {q N : Nat} {f : Nat → Option Nat} {i : Int32} (hq : q ∈ pls (Kn a)) (hcel : cel G ad a b q = arR (G.2.1 4) N (fun j => itr ad (f j))) (hf : gd (inb i N) x = some r) (d : decode cc pc = .ok (.aaload, 1)) (kk : x = some r → J p l e R s m args below meth c G A nL Q k n ad a b (pc + 1) (lv) (itv ad (f i.toNatClampNeg) :: st)) : J p l e R s m args below meth c G A nL Q k n ad a b (pc) (lv) (.int i :: .ref (ad q) :: st) := fun H locs ls hP hD hS hl => by
  obtain ⟨h0, hf⟩ := gd_some hf
  obtain ⟨k0, hk0, hk1⟩ := wd_get (G := G) (ad := ad) (b := b) hq
  rw [hcel] at hk1
  exact va_aldq (D := G.1) C.1 C.2.1 C.2.2.2.2.2.1 hP k0 4 hk1 rfl (inb_in h0) d (kk hf H locs ls hP hD hS hl)
theorem j_iast (C : CX G A own cc nL p s m args c) {a' : KS} {b' : MS} {X : Type} {y : Option X} {r : X} {q N : Nat} {f : Nat → Int32} {i : Int32} {x : Int32} (hq : q ∈ pls (Kn a)) (hcel : cel G ad a b q = arI (G.2.1 0) N f) (hN : Kn a' = Kn a) (hnew : inb i N = true → arI (G.2.1 0) N (upd f i.toNatClampNeg x) = cel G ad a' b' q) (hold : ∀ z, z ≠ q → cel G ad a b z = cel G ad a' b' z) (hf : gd (inb i N) y = some r) (d : decode cc pc = .ok (.iastore, 1)) (kk : y = some r → J p l e R s m args below meth c G A nL Q k n ad a' b' (pc + 1) (lv) (st)) : J p l e R s m args below meth c G A nL Q k n ad a b (pc) (lv) (.int x :: .int i :: .ref (ad q) :: st) := fun H locs ls hP hD hS hl => by
  obtain ⟨h0, hf⟩ := gd_some hf
  obtain ⟨k0, hk0, hk1⟩ := wd_get (G := G) (ad := ad) (b := b) hq
  rw [hcel] at hk1
  refine va_iast (D := G.1) C.1 C.2.1 C.2.2.2.2.2.1 hP hD hS k0 0 hk1 rfl (inb_in h0) d (fun H1 locs1 hP1 hD1 hS1 => ?_)
  have e := wd_set (G := G) (ad := ad) hk0 hN (hnew h0) hold
  rw [e] at hP1 hD1
  exact kk hf H1 locs1 ls hP1 hD1 hS1 hl
theorem j_cast (C : CX G A own cc nL p s m args c) {a' : KS} {b' : MS} {X : Type} {y : Option X} {r : X} {q N : Nat} {f : Nat → Int32} {i : Int32} {x : Int32} (hq : q ∈ pls (Kn a)) (hcel : cel G ad a b q = arI (G.2.1 1) N f) (hN : Kn a' = Kn a) (hnew : inb i N = true → arI (G.2.1 1) N (upd f i.toNatClampNeg (vp_nar .char x)) = cel G ad a' b' q) (hold : ∀ z, z ≠ q → cel G ad a b z = cel G ad a' b' z) (hf : gd (inb i N) y = some r) (d : decode cc pc = .ok (.castore, 1)) (kk : y = some r → J p l e R s m args below meth c G A nL Q k n ad a' b' (pc + 1) (lv) (st)) : J p l e R s m args below meth c G A nL Q k n ad a b (pc) (lv) (.int x :: .int i :: .ref (ad q) :: st) := fun H locs ls hP hD hS hl => by
  obtain ⟨h0, hf⟩ := gd_some hf
  obtain ⟨k0, hk0, hk1⟩ := wd_get (G := G) (ad := ad) (b := b) hq
  rw [hcel] at hk1
  refine va_cast (D := G.1) C.1 C.2.1 C.2.2.2.2.2.1 hP hD hS k0 1 hk1 rfl (inb_in h0) d (fun H1 locs1 hP1 hD1 hS1 => ?_)
  have e := wd_set (G := G) (ad := ad) hk0 hN (hnew h0) hold
  rw [e] at hP1 hD1
  exact kk hf H1 locs1 ls hP1 hD1 hS1 hl
theorem j_alen (C : CX G A own cc nL p s m args c) {q t0 : Nat} {cA : ClassId} {x : vp_A} {ty : FieldType} {v : Int32} (hq : q ∈ pls (Kn a)) (hcel : cel G ad a b q = .inl (cA, x)) (ht : (tyG G)[t0]? = some (cA, ty)) (hv : Int32.ofNat x.1 = v) (d : decode cc pc = .ok (.arraylength, 1)) (kk : J p l e R s m args below meth c G A nL Q k n ad a b (pc + 1) (lv) (.int v :: st)) : J p l e R s m args below meth c G A nL Q k n ad a b (pc) (lv) (.ref (ad q) :: st) := fun H locs ls hP hD hS hl => by
  obtain ⟨k0, hk0, hk1⟩ := wd_get (G := G) (ad := ad) (b := b) hq
  rw [hcel] at hk1
  exact va_alen (D := G.1) C.1 C.2.1 C.2.2.2.2.2.1 hP k0 t0 hk1 ht hv d (kk H locs ls hP hD hS hl)
theorem j_iret {v : Option Value} {mc ms : Nat} {x : Int32} (C : CX G A own cc nL p s m args c) (hr : meth.sig.returnType = some .int) (hk : meth.locks = false) (hc : k ≤ mc ∧ n ≤ ms) (hv : some (.int x) = v) (d : decode cc pc = .ok (.ireturn, 1)) : J p l e R s m args below meth c G A nL (MQ below (QV v (PosW G ad a b A) A) args s mc ms A) k n ad a b pc lv [.int x] := fun H locs ls hP hD hS hl => by
  subst hv
  refine W.widen (k := mc) (n := ms) hc.1 hc.2 ?_
  exact W.iret C.1 C.2.1 hr (fun t ht hW => ⟨rfl, ⟨by rw [ht]; exact hP, hD⟩, hS.F ht⟩) hS.2.2 d hk
theorem j_lret {v : Option Value} {mc ms : Nat} {x : Int64} (C : CX G A own cc nL p s m args c) (hr : meth.sig.returnType = some .long) (hk : meth.locks = false) (hc : k ≤ mc ∧ n ≤ ms) (hv : some (.long x) = v) (d : decode cc pc = .ok (.lreturn, 1)) : J p l e R s m args below meth c G A nL (MQ below (QV v (PosW G ad a b A) A) args s mc ms A) k n ad a b pc lv [.long x] := fun H locs ls hP hD hS hl => by
  subst hv
  refine W.widen (k := mc) (n := ms) hc.1 hc.2 ?_
  exact W.lret C.1 C.2.1 hr (fun t ht hW => ⟨rfl, ⟨by rw [ht]; exact hP, hD⟩, hS.F ht⟩) hS.2.2 d hk
theorem j_dret {v : Option Value} {mc ms : Nat} {x : UInt64} (C : CX G A own cc nL p s m args c) (hr : meth.sig.returnType = some .double) (hk : meth.locks = false) (hc : k ≤ mc ∧ n ≤ ms) (hv : some (.double x) = v) (d : decode cc pc = .ok (.dreturn, 1)) : J p l e R s m args below meth c G A nL (MQ below (QV v (PosW G ad a b A) A) args s mc ms A) k n ad a b pc lv [.double x] := fun H locs ls hP hD hS hl => by
  subst hv
  refine W.widen (k := mc) (n := ms) hc.1 hc.2 ?_
  exact W.dret C.1 C.2.1 hr (fun t ht hW => ⟨rfl, ⟨by rw [ht]; exact hP, hD⟩, hS.F ht⟩) hS.2.2 d hk
theorem j_zret {v : Option Value} {mc ms : Nat} {x : Int32} {ty : FieldType} (C : CX G A own cc nL p s m args c) (hr : meth.sig.returnType = some ty) (hk : meth.locks = false) (hn : narrow ty (.int x) = .int x) (hc : k ≤ mc ∧ n ≤ ms) (hv : some (.int x) = v) (d : decode cc pc = .ok (.ireturn, 1)) : J p l e R s m args below meth c G A nL (MQ below (QV v (PosW G ad a b A) A) args s mc ms A) k n ad a b pc lv [.int x] := fun H locs ls hP hD hS hl => by
  subst hv
  refine W.widen (k := mc) (n := ms) hc.1 hc.2 ?_
  exact W.zret C.1 C.2.1 hr hn (fun t ht hW => ⟨rfl, ⟨by rw [ht]; exact hP, hD⟩, hS.F ht⟩) hS.2.2 d hk
theorem j_aret {v : Option Value} {mc ms : Nat} {x : Value} {rt : FieldType} (C : CX G A own cc nL p s m args c) (hr : meth.sig.returnType = some rt) (hk : meth.locks = false) (hrt : (∃ n, rt = .object n) ∨ ∃ t, rt = .array t) (hx : x = .null ∨ ∃ a, x = .ref a) (hc : k ≤ mc ∧ n ≤ ms) (hv : some x = v) (d : decode cc pc = .ok (.areturn, 1)) : J p l e R s m args below meth c G A nL (MQ below (QV v (PosW G ad a b A) A) args s mc ms A) k n ad a b pc lv [x] := fun H locs ls hP hD hS hl => by
  subst hv
  refine W.widen (k := mc) (n := ms) hc.1 hc.2 ?_
  exact W.aret C.1 C.2.1 hr hrt hx (fun t ht hW => ⟨rfl, ⟨by rw [ht]; exact hP, hD⟩, hS.F ht⟩) hS.2.2 d hk
theorem j_vret {v : Option Value} {mc ms : Nat} (C : CX G A own cc nL p s m args c) (hr : meth.sig.returnType = none) (hk : meth.locks = false) (hc : k ≤ mc ∧ n ≤ ms) (hv : none = v) (d : decode cc pc = .ok (.return_, 1)) : J p l e R s m args below meth c G A nL (MQ below (QV v (PosW G ad a b A) A) args s mc ms A) k n ad a b pc lv [] := fun H locs ls hP hD hS hl => by
  subst hv
  refine W.widen (k := mc) (n := ms) hc.1 hc.2 ?_
  exact W.vret C.1 C.2.1 hr (fun t ht hW => ⟨rfl, ⟨by rw [ht]; exact hP, hD⟩, hS.F ht⟩) hS.2.2 d hk
theorem itv_nr (o : Option Nat) : itv ad o = .null ∨ ∃ x, itv ad o = .ref x := by
  cases o with
  | none => exact Or.inl rfl
  | some i => exact Or.inr ⟨_, rfl⟩
/-- what the tables say of a callee -/
def CWV (y : MethodName) (bytes : ByteArray) (maxL : Nat) (ret : Option FieldType) (C : String) (na : Nat) : Prop := y.cls = C ∧ Cond.code y bytes maxL ret ∈ BIG ∧ Cond.instanceMethod y ∈ BIG ∧ Cond.selects C y y ∈ BIG ∧ Cond.initialized C ∈ BIG ∧ y.cls ≠ "java/lang/invoke/MethodHandle" ∧ y.cls ≠ "java/lang/invoke/VarHandle" ∧ (parseMethodDescriptor y.desc).map (fun d => d.parameters.length) = some na
def CWS (y : MethodName) (bytes : ByteArray) (maxL : Nat) (ret : Option FieldType) (na : Nat) : Prop := Cond.code y bytes maxL ret ∈ BIG ∧ Cond.static y ∈ BIG ∧ Cond.initialized y.cls ∈ BIG ∧ y.cls ≠ "java/lang/invoke/MethodHandle" ∧ y.cls ≠ "java/lang/invoke/VarHandle" ∧ (parseMethodDescriptor y.desc).map (fun d => d.parameters.length) = some na
theorem pre_at {H : Heap} {locs : List Loc} (C : CX G A own cc nL p s m args c) (hP : va_P G.1 vwCl (wd G ad a b) H) (hD : va_D A (wd G ad a b)) (hS : va_S A s.heap H locs) (av : List Value) (U : State) (hU : U.heap = H) (hW : s.WarmedH U.vm) : va_Pc av (PreW G ad a b H.size) av.toArray U := by
  refine ⟨rfl, by rw [hU], by rw [hU]; exact hP, va_K.moved hW.alike C.2.2.2.2.2.1, hD.weaken (fun _ _ _ _ => trivial), ?_⟩
  rw [hU]
  refine EV.mv (u := s) hW.alike (fun own k tx a h => vk_R.warm hW h) (fun h => EVl.warm hW h) ?_
  refine EV.kn hS.2.1 ?_ C.2.2.2.2.2.2.2
  exact FP_le hD (fun q h => C.2.2.2.2.2.2.1 q (Nat.le_trans hS.1 h))
theorem run_end {H : Heap} {locs : List Loc} {ls : Array Slot} {st0 rest : List Value} {ar : Array Value} {v : Option Value} {a' : KS} {b' : MS} {mc ms : Nat} (C : CX G A own cc nL p s m args c) (hl : lv_has ls nL lv) (hD : va_D A (wd G ad a b)) (hS : va_S A s.heap H locs)
    (hr : va_Run p l e R s m args below meth c H locs k n mc ms (F0 m pc ls st0) rest (QV v (PosW G ad a' b' (FP ad (Kn a) H.size)) (FP ad (Kn a) H.size) ar) (FP ad (Kn a) H.size))
    (kk : J p l e R s m args below meth c G A nL Q (k + mc) (n + ms) ad a' b' (pc + 3) (lv) (v.toList ++ rest)) : W p l e R s m args below meth c H locs k n Q (F0 m pc ls st0) := by
  intro T hT X
  obtain ⟨v1, st₀, t, T', L, h0, X', hL, e1, e2, ⟨hv, ⟨hP1, hD1⟩, hz, hk⟩, go⟩ := hr T hT X
  obtain rfl : v1 = v := by injection hv
  rw [h0] at hz hk
  have hA := FP_le hD (fun q h => C.2.2.2.2.2.2.1 q (Nat.le_trans hS.1 h))
  have hD2 : va_D A (wd G ad a' b') := hD1.weaken (fun _ _ _ h => hA _ h)
  obtain ⟨t2, a1, b1⟩ := kk T'.heap (locs ++ L) ls (by rw [e1]; exact hP1) hD2
    ⟨Nat.le_trans hS.1 (by rw [e1]; exact hz), fun q h1 h2 => by rw [e1, hk q (Nat.lt_of_lt_of_le h1 hS.1) (fun z => h2 (hA q z))]; exact hS.2.1 q h1 h2, fun q hq => by
      rcases List.mem_append.mp hq with h | h
      · exact hS.2.2 q h
      · exact hA _ (hL q h)⟩ hl T' rfl X'
  exact ⟨t2, go t2 a1, b1⟩
theorem ws_V {own C : String} {idx : Nat} {y : MethodName} {bytes : ByteArray} {maxL na : Nat} {ret : Option FieldType} (h : CWV y bytes maxL ret C na) (hl : Cond.methodLink own idx y ∈ BIG) : GoodIn BIG (wsV own idx C y (Cond.code y bytes maxL ret :: BIG)) := by
  obtain ⟨-, h1, h2, h3, h4, -⟩ := h
  refine goodIn_big (fun w hw => ?_)
  rcases List.mem_append.mp hw with hw | hw
  · simp only [List.mem_cons, List.mem_nil_iff, or_false] at hw
    rcases hw with rfl | rfl | rfl | rfl
    · exact hl
    · exact h2
    · exact h3
    · exact h4
  · rcases List.mem_cons.mp hw with rfl | hw
    · exact h1
    · exact hw
theorem ws_S {own : String} {idx : Nat} {y : MethodName} {bytes : ByteArray} {maxL na : Nat} {ret : Option FieldType} (h : CWS y bytes maxL ret na) (hl : Cond.methodLink own idx y ∈ BIG) : GoodIn BIG (va_wsS own idx y (Cond.code y bytes maxL ret :: BIG)) := by
  obtain ⟨h1, h2, h3, -⟩ := h
  refine goodIn_big (fun w hw => ?_)
  rcases List.mem_append.mp hw with hw | hw
  · simp only [List.mem_cons, List.mem_nil_iff, or_false] at hw
    rcases hw with rfl | rfl | rfl
    · exact hl
    · exact h2
    · exact h3
  · rcases List.mem_cons.mp hw with rfl | hw
    · exact h1
    · exact hw
/-- a call of an object's method -/
theorem j_callV (C : CX G A own cc nL p s m args c) {y : MethodName} {bytes : ByteArray} {maxL na idx q ci N : Nat} {ret : Option FieldType} {rm : Room} {As rest : List Value} {v : Option Value} {a' : KS} {b' : MS} {fs : List Value} {RC : String} {T : u_T} (hM : MT l G y bytes maxL ret rm (.ref (ad q) :: As) ad a b v a' b') (cw : CWV y bytes maxL ret RC na) (hlink : Cond.methodLink own idx y ∈ BIG) (hq : q ∈ pls (Kn a)) (hcel : cel G ad a b q = .inr (ci, fs)) (hc : vwCl[ci]? = some (RC, T, N)) (hna : As.length = na)
    (hR : rm.frames + 1 ≤ R.frames ∧ 8 + (maxL + 11) + rm.locals ≤ R.locals) (hcs : k + rm.cells ≤ R.cells ∧ n + rm.slots ≤ R.slots) (hst : st = As.reverse ++ .ref (ad q) :: rest) (hW : (rest.map fun v => v.category).sum ≤ 8) (d : decode cc pc = .ok (.invokevirtual idx, 3)) (kk : J p l e R s m args below meth c G A nL Q (k + rm.cells) (n + rm.slots) ad a' b' (pc + 3) (lv) (v.toList ++ rest)) : J p l e R s m args below meth c G A nL Q k n ad a b (pc) (lv) (st) := fun H locs ls hP hD hS hl => by
  obtain ⟨k0, hk0, hk1⟩ := wd_get (G := G) (ad := ad) (b := b) hq
  rw [hcel] at hk1
  have cw1 := cwV (R := R) (s := s) (args := args) (rm := rm) na C.2.2.2.2.1 (ws_V (own := own) cw hlink) rfl rfl rfl ⟨cw.1, cw.2.2.2.2.2.1, cw.2.2.2.2.2.2.1, cw.2.2.2.2.2.2.2⟩ hR
  refine run_end C hl hD hS (va_runV (As := As) (rest := rest) ⟨C.1, C.2.1, C.2.2.1, C.2.2.2.1, C.2.2.2.2.1⟩ (hM H.size) cw1 ⟨pre_blind, va_recv C.2.2.2.2.2.1 hP hc hk1, fun U hU hW => pre_at C hP hD hS _ U hU hW⟩ rfl hna hl.1 hst (by simpa [JFrame.monitorRoom, F0] using hW) d hcs) kk
/-- a call of a static method -/
theorem j_callS (C : CX G A own cc nL p s m args c) {y : MethodName} {bytes : ByteArray} {maxL na idx : Nat} {ret : Option FieldType} {rm : Room} {As rest : List Value} {v : Option Value} {a' : KS} {b' : MS} (hM : MT l G y bytes maxL ret rm As ad a b v a' b') (cw : CWS y bytes maxL ret na) (hlink : Cond.methodLink own idx y ∈ BIG) (hna : As.length = na)
    (hR : rm.frames + 1 ≤ R.frames ∧ 8 + (maxL + 11) + rm.locals ≤ R.locals) (hcs : k + rm.cells ≤ R.cells ∧ n + rm.slots ≤ R.slots) (hst : st = As.reverse ++ rest) (hW : (rest.map fun v => v.category).sum ≤ 8) (d : decode cc pc = .ok (.invokestatic idx, 3)) (kk : J p l e R s m args below meth c G A nL Q (k + rm.cells) (n + rm.slots) ad a' b' (pc + 3) (lv) (v.toList ++ rest)) : J p l e R s m args below meth c G A nL Q k n ad a b (pc) (lv) (st) := fun H locs ls hP hD hS hl => by
  have cw1 := va_cwS (R := R) (s := s) (args := args) (rm := rm) na C.2.2.2.2.1 (ws_S (own := own) cw hlink) rfl rfl rfl ⟨cw.2.2.2.1, cw.2.2.2.2.1, cw.2.2.2.2.2⟩ hR
  refine run_end C hl hD hS (va_runS (As := As) (rest := rest) ⟨C.1, C.2.1, C.2.2.1, C.2.2.2.1, C.2.2.2.2.1⟩ (hM H.size) cw1 ⟨pre_blind, fun U hU hW => pre_at C hP hD hS _ U hU hW⟩ rfl hna hl.1 hst (by simpa [JFrame.monitorRoom, F0] using hW) d hcs) kk
/-- fewer locals are known -/
theorem j_sub (ks : List Nat) {lv' : List (Nat × Value)} (h : lv_pick lv ks = lv') (kk : J p l e R s m args below meth c G A nL Q k n ad a b (pc) (lv') (st)) : J p l e R s m args below meth c G A nL Q k n ad a b (pc) (lv) (st) := fun H locs ls hP hD hS hl => kk H locs ls hP hD hS (lv_sub hl ks h)
theorem j_letI {X : Type} {x : Int32} {f : Int32 → X} {r : X} (hf : lt x f = r) (kk : ∀ y : Int32, f y = r → J p l e R s m args below meth c G A nL Q k n ad a b (pc) (lv) (.int y :: st)) : J p l e R s m args below meth c G A nL Q k n ad a b (pc) (lv) (.int x :: st) := kk x hf
theorem j_letJ {X : Type} {x : Int64} {f : Int64 → X} {r : X} (hf : lt x f = r) (kk : ∀ y : Int64, f y = r → J p l e R s m args below meth c G A nL Q k n ad a b (pc) (lv) (.long y :: st)) : J p l e R s m args below meth c G A nL Q k n ad a b (pc) (lv) (.long x :: st) := kk x hf
theorem j_letF {X : Type} {x : UInt32} {f : UInt32 → X} {r : X} (hf : lt x f = r) (kk : ∀ y : UInt32, f y = r → J p l e R s m args below meth c G A nL Q k n ad a b (pc) (lv) (.float y :: st)) : J p l e R s m args below meth c G A nL Q k n ad a b (pc) (lv) (.float x :: st) := kk x hf
theorem j_letD {X : Type} {x : UInt64} {f : UInt64 → X} {r : X} (hf : lt x f = r) (kk : ∀ y : UInt64, f y = r → J p l e R s m args below meth c G A nL Q k n ad a b (pc) (lv) (.double y :: st)) : J p l e R s m args below meth c G A nL Q k n ad a b (pc) (lv) (.double x :: st) := kk x hf
theorem j_letO {X : Type} {x : Option Nat} {f : Option Nat → X} {r : X} (hf : lt x f = r) (kk : ∀ y : Option Nat, f y = r → J p l e R s m args below meth c G A nL Q k n ad a b (pc) (lv) (itv ad y :: st)) : J p l e R s m args below meth c G A nL Q k n ad a b (pc) (lv) (itv ad x :: st) := kk x hf
/-! switches: key by key, then the table -/
theorem j_peel {X : Type} {x v : Int32} {f g r : X} (hf : (if x = v then f else g) = r) (kt : x = v → f = r → J p l e R s m args below meth c G A nL Q k n ad a b (pc) (lv) (.int x :: st)) (kf : ¬ x = v → g = r → J p l e R s m args below meth c G A nL Q k n ad a b (pc) (lv) (.int x :: st)) : J p l e R s m args below meth c G A nL Q k n ad a b (pc) (lv) (.int x :: st) := by
  by_cases h : x = v
  · exact kt h ((if_pos h).symm.trans hf)
  · exact kf h ((if_neg h).symm.trans hf)
theorem j_tin (C : CX G A own cc nL p s m args c) {dflt lo hi : Int} {offs : Array Int} {len : Nat} {x : Int32} {off : Int} {tgt : Nat} (d : decode cc pc = .ok (.tableswitch dflt lo hi offs, len)) (h1 : ¬ x.toInt < lo) (h2 : ¬ hi < x.toInt) (ho : offs[(x.toInt - lo).toNat]? = some off) (ht : (pc : Int) + off = (tgt : Int)) (kk : J p l e R s m args below meth c G A nL Q k n ad a b (tgt) (lv) (st)) : J p l e R s m args below meth c G A nL Q k n ad a b (pc) (lv) (.int x :: st) := fun H locs ls hP hD hS hl => lv_tableIn C.1 C.2.1 d h1 h2 ho ht (kk H locs ls hP hD hS hl)
theorem j_tout (C : CX G A own cc nL p s m args c) {dflt lo hi : Int} {offs : Array Int} {len : Nat} {x : Int32} {tgt : Nat} (d : decode cc pc = .ok (.tableswitch dflt lo hi offs, len)) (h : x.toInt < lo ∨ hi < x.toInt) (ht : (pc : Int) + dflt = (tgt : Int)) (kk : J p l e R s m args below meth c G A nL Q k n ad a b (tgt) (lv) (st)) : J p l e R s m args below meth c G A nL Q k n ad a b (pc) (lv) (.int x :: st) := fun H locs ls hP hD hS hl => lv_tableOut C.1 C.2.1 d h ht (kk H locs ls hP hD hS hl)
theorem j_look (C : CX G A own cc nL p s m args c) {dflt : Int} {ps : Array (Int × Int)} {len : Nat} {x : Int32} {off : Int} {tgt : Nat} (d : decode cc pc = .ok (.lookupswitch dflt ps, len)) (hp : (ps.toList.zip (ps.toList.drop 1)).all (fun (a, next) => a.1 < next.1) = true) (ho : Op.lookupswitch.offset ps.toList dflt x.toInt = off) (ht : (pc : Int) + off = (tgt : Int)) (kk : J p l e R s m args below meth c G A nL Q k n ad a b (tgt) (lv) (st)) : J p l e R s m args below meth c G A nL Q k n ad a b (pc) (lv) (.int x :: st) := fun H locs ls hP hD hS hl => lv_lookup C.1 C.2.1 d hp ho ht (kk H locs ls hP hD hS hl)
/-! Math -/
theorem j_mmax (C : CX G A own cc nL p s m args c) {idx : Nat} {x y : Int32} (hw : Cond.methodLink own idx Lib.Math.max.name ∈ BIG) (hR : 1 ≤ R.frames ∧ (st.map fun v => v.category).sum + 13 ≤ R.locals ∧ k ≤ R.cells ∧ n ≤ R.slots) (d : decode cc pc = .ok (.invokestatic idx, 3)) (kk : J p l e R s m args below meth c G A nL Q k n ad a b (pc + 3) (lv) (.int (mmax x y) :: st)) : J p l e R s m args below meth c G A nL Q k n ad a b (pc) (lv) (.int y :: .int x :: st) := fun H locs ls hP hD hS hl => va_mmax C.1 C.2.1 (by rw [C.2.2.1]; exact hl.1.symm) C.2.2.2.1 (C.2.2.2.2.1 _ hw) (C.2.2.2.2.1 _ wt_max) (C.2.2.2.2.1 _ wi_math) (C.2.2.2.2.1 _ wc_max) hR.1 hR.2.1 hR.2.2.1 hR.2.2.2 d (kk H locs ls hP hD hS hl)
theorem j_mmin (C : CX G A own cc nL p s m args c) {idx : Nat} {x y : Int32} (hw : Cond.methodLink own idx Lib.Math.min.name ∈ BIG) (hR : 1 ≤ R.frames ∧ (st.map fun v => v.category).sum + 13 ≤ R.locals ∧ k ≤ R.cells ∧ n ≤ R.slots) (d : decode cc pc = .ok (.invokestatic idx, 3)) (kk : J p l e R s m args below meth c G A nL Q k n ad a b (pc + 3) (lv) (.int (mmin x y) :: st)) : J p l e R s m args below meth c G A nL Q k n ad a b (pc) (lv) (.int y :: .int x :: st) := fun H locs ls hP hD hS hl => va_mmin C.1 C.2.1 (by rw [C.2.2.1]; exact hl.1.symm) C.2.2.2.1 (C.2.2.2.2.1 _ hw) (C.2.2.2.2.1 _ wt_min) (C.2.2.2.2.1 _ wi_math) (C.2.2.2.2.1 _ wc_min) hR.1 hR.2.1 hR.2.2.1 hR.2.2.2 d (kk H locs ls hP hD hS hl)
theorem j_mabs (C : CX G A own cc nL p s m args c) {idx : Nat} {x : Int32} (hw : Cond.methodLink own idx Lib.Math.abs.name ∈ BIG) (hR : 1 ≤ R.frames ∧ (st.map fun v => v.category).sum + 13 ≤ R.locals ∧ k ≤ R.cells ∧ n ≤ R.slots) (d : decode cc pc = .ok (.invokestatic idx, 3)) (kk : J p l e R s m args below meth c G A nL Q k n ad a b (pc + 3) (lv) (.int (mabs x) :: st)) : J p l e R s m args below meth c G A nL Q k n ad a b (pc) (lv) (.int x :: st) := fun H locs ls hP hD hS hl => va_mabs C.1 C.2.1 (by rw [C.2.2.1]; exact hl.1.symm) C.2.2.2.1 (C.2.2.2.2.1 _ hw) (C.2.2.2.2.1 _ wt_abs) (C.2.2.2.2.1 _ wi_math) (C.2.2.2.2.1 _ wc_abs) hR.1 hR.2.1 hR.2.2.1 hR.2.2.2 d (kk H locs ls hP hD hS hl)
end JR
