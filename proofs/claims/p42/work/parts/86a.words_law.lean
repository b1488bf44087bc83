/-! ===== long codes: compared byte by byte ===== -/
def eqL : List UInt8 → List UInt8 → Bool
  | [], [] => true
  | a :: s, b :: t => match Nat.beq a.toNat b.toNat with
    | true => eqL s t
    | false => false
  | _, _ => false
theorem eqL_eq : ∀ s t : List UInt8, eqL s t = true → s = t := by
  intro s
  induction s with
  | nil =>
    intro t h
    cases t with
    | nil => rfl
    | cons b t => cases h
  | cons a s ih =>
    intro t h
    cases t with
    | nil => cases h
    | cons b t =>
      unfold eqL at h
      split at h
      · next h1 => rw [UInt8.toNat_inj.mp (Nat.eq_of_beq_eq_true h1), ih t h]
      · cases h
def isCode (o : Option Cond) (y : MethodName) (bs : List UInt8) (n : Nat) (r : Option FieldType) : Bool := match o with
  | some (.code y' b' n' r') => decide (y' = y) && (decide (n' = n) && (decide (r' = r) && eqL b'.data.toList bs))
  | _ => false
theorem isCode_eq {o : Option Cond} {y : MethodName} {b : ByteArray} {n : Nat} {r : Option FieldType} (h : isCode o y b.data.toList n r = true) : o = some (.code y b n r) := by
  unfold isCode at h
  split at h
  · next y' b' n' r' =>
    rw [Bool.and_eq_true, Bool.and_eq_true, Bool.and_eq_true] at h
    obtain ⟨h1, h2, h3, h4⟩ := h
    have e4 := eqL_eq _ _ h4
    have e5 : b' = b := by
      cases b' with | mk d' => cases b with | mk d =>
      exact congrArg _ (Array.toList_inj.mp e4)
    rw [of_decide_eq_true h1, of_decide_eq_true h2, of_decide_eq_true h3, e5]
  · cases h
theorem ml_L_138 : Cond.methodLink RL 138 yL_cell ∈ BIG := big_of 340 (by decide +kernel) (by decide +kernel)
theorem wc_L_cell : Cond.code yL_cell cL_cell 2 (some .int) ∈ BIG := big_of 342 (isCode_eq (by decide +kernel)) (by decide +kernel)
theorem wt_L_cell : Cond.static yL_cell ∈ BIG := big_of 341 (by decide +kernel) (by decide +kernel)
theorem ml_L_142 : Cond.methodLink RL 142 yL_adds ∈ BIG := big_of 348 (by decide +kernel) (by decide +kernel)
theorem wc_L_adds : Cond.code yL_adds cL_adds 6 (some .boolean) ∈ BIG := big_of 350 (isCode_eq (by decide +kernel)) (by decide +kernel)
theorem wt_L_adds : Cond.static yL_adds ∈ BIG := big_of 349 (by decide +kernel) (by decide +kernel)
theorem ml_L_146 : Cond.methodLink RL 146 yL_acts ∈ BIG := big_of 798 (by decide +kernel) (by decide +kernel)
theorem wc_L_acts : Cond.code yL_acts cL_acts 18 (some .boolean) ∈ BIG := big_of 800 (isCode_eq (by decide +kernel)) (by decide +kernel)
theorem wt_L_acts : Cond.static yL_acts ∈ BIG := big_of 799 (by decide +kernel) (by decide +kernel)
theorem ml_L_150 : Cond.methodLink RL 150 yL_holds ∈ BIG := big_of 514 (by decide +kernel) (by decide +kernel)
theorem wc_L_holds : Cond.code yL_holds cL_holds 7 (some .boolean) ∈ BIG := big_of 516 (isCode_eq (by decide +kernel)) (by decide +kernel)
theorem wt_L_holds : Cond.static yL_holds ∈ BIG := big_of 515 (by decide +kernel) (by decide +kernel)
theorem ml_L_153 : Cond.methodLink RL 153 yL_isReached ∈ BIG := big_of 967 (by decide +kernel) (by decide +kernel)
theorem wc_L_isReached : Cond.code yL_isReached cL_isReached 10 (some .boolean) ∈ BIG := big_of 969 (isCode_eq (by decide +kernel)) (by decide +kernel)
theorem wt_L_isReached : Cond.static yL_isReached ∈ BIG := big_of 968 (by decide +kernel) (by decide +kernel)
theorem ml_L_156 : Cond.methodLink RL 156 yL_isLeft ∈ BIG := big_of 970 (by decide +kernel) (by decide +kernel)
theorem wc_L_isLeft : Cond.code yL_isLeft cL_isLeft 3 (some .boolean) ∈ BIG := big_of 972 (isCode_eq (by decide +kernel)) (by decide +kernel)
theorem wt_L_isLeft : Cond.static yL_isLeft ∈ BIG := big_of 971 (by decide +kernel) (by decide +kernel)
theorem wk_L_7 : Cond.constant RL 7 (1812433253 : Int32) ∈ BIG := big_of 343 (by decide +kernel) (by decide +kernel)
theorem cw_L_cell : CWS yL_cell cL_cell 2 (some .int) 2 := ⟨wc_L_cell, wt_L_cell, wi_L, by decide +kernel, by decide +kernel, by decide +kernel⟩
theorem cw_L_adds : CWS yL_adds cL_adds 6 (some .boolean) 2 := ⟨wc_L_adds, wt_L_adds, wi_L, by decide +kernel, by decide +kernel, by decide +kernel⟩
theorem cw_L_acts : CWS yL_acts cL_acts 18 (some .boolean) 3 := ⟨wc_L_acts, wt_L_acts, wi_L, by decide +kernel, by decide +kernel, by decide +kernel⟩
theorem cw_L_holds : CWS yL_holds cL_holds 7 (some .boolean) 2 := ⟨wc_L_holds, wt_L_holds, wi_L, by decide +kernel, by decide +kernel, by decide +kernel⟩
theorem cw_L_isReached : CWS yL_isReached cL_isReached 10 (some .boolean) 2 := ⟨wc_L_isReached, wt_L_isReached, wi_L, by decide +kernel, by decide +kernel, by decide +kernel⟩
theorem cw_L_isLeft : CWS yL_isLeft cL_isLeft 3 (some .boolean) 1 := ⟨wc_L_isLeft, wt_L_isLeft, wi_L, by decide +kernel, by decide +kernel, by decide +kernel⟩
