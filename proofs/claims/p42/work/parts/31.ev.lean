theorem str_of {args : Array Value} {s : State} {own : String} {k n : Nat} {bs : List Int32} {A : Nat → Prop} (hn : n < 2 ^ 31) (hex : (Cond.exactly (.string own k) "java/lang/String").before args s = true) (hco : (Cond.eq (.field (.string own k) "java/lang/String" "coder" "B") (.int 0)).before args s = true) (har : (Cond.arrayOf (.field (.string own k) "java/lang/String" "value" "[B") .byte).before args s = true) (hle : (Cond.eq (.length (.field (.string own k) "java/lang/String" "value" "[B")) (.int (Int32.ofNat n))).before args s = true) (hel : ∀ j : Nat, j < n → (Cond.eq (.elem (.field (.string own k) "java/lang/String" "value" "[B") (.int (Int32.ofNat j))) (.int (bs.getD j 0))).before args s = true) (hA : ∀ a : Nat, a < s.heap.size → ¬ A a) :
    ∃ q : Nat × Nat, (va_O "java/lang/String" q.1 A s s.heap ∧ va_OF "java/lang/String" "coder" "B" (.int 0) q.1 A s s.heap ∧ va_OF "java/lang/String" "value" "[B" (.ref q.2) q.1 A s s.heap ∧ va_T .byte q.2 n (fun j => .int (bs.getD j 0)) A s s.heap) ∧ (Term.string own k).eval args s none [] s = some (.ref q.1) := by
  have z0 : ∀ i : Nat, i < 1 → i = 0 := fun i hi => by omega
  obtain ⟨adK, adV, h1, h2⟩ := vk_Sof (N := 1) (tm := fun _ => .string own k) (len := [n]) (byt := [bs]) (A := A) (args := args) (s := s) (fun i hi => by cases z0 i hi; exact hn) (fun i hi => hex) (fun i hi => hco) (fun i hi => har) (fun i hi => by cases z0 i hi; exact hle) (fun i hi j hj => by cases z0 i hi; exact hel j hj) (fun i j hi hj hne => absurd ((z0 i hi).trans (z0 j hj).symm) hne) hA
  exact ⟨(adK 0, adV 0), h1.1 0 (by decide), h2 0 (by decide)⟩
theorem ao_tbl : Cond.arrayOver (.object RX4) ∈ lw_tbl := List.mem_of_getElem? (i := 75) (by decide +kernel)
theorem nest_tbl : ∀ w ∈ nestW, w ∈ lw_tbl ∧ w.onTables = true := by decide +kernel
theorem ls_1 : Cond.laysStatic "java/lang/String" "COMPACT_STRINGS" "Z" ∈ lw_tbl := List.mem_of_getElem? (i := 634) (by decide +kernel)
theorem ls_2 : Cond.laysStatic "jdk/internal/util/Preconditions" "SIOOBE_FORMATTER" "Ljava/util/function/BiFunction;" ∈ lw_tbl := List.mem_of_getElem? (i := 650) (by decide +kernel)
theorem in_1 : Cond.initialized "java/lang/String" ∈ lw_tbl := List.mem_of_getElem? (i := 50) (by decide +kernel)
theorem in_2 : Cond.initialized "jdk/internal/util/Preconditions" ∈ lw_tbl := List.mem_of_getElem? (i := 52) (by decide +kernel)
theorem sc_ref : ∀ i : Nat, i < 6 → Cond.stringRef RX6 (scrI.getD i 0) (scrT.getD i "") ∈ lw_tbl := by decide +kernel
abbrev FLAT : List Cond := flatC (Jvm.Cond.and given_1 narrow_1)
theorem sc_exa : ∀ i : Nat, i < 6 → Cond.exactly (.string RX6 (scrI.getD i 0)) "java/lang/String" ∈ FLAT ∧ Cond.eq (.field (.string RX6 (scrI.getD i 0)) "java/lang/String" "coder" "B") (.int 0) ∈ FLAT ∧ Cond.arrayOf (.field (.string RX6 (scrI.getD i 0)) "java/lang/String" "value" "[B") .byte ∈ FLAT ∧ Cond.eq (.length (.field (.string RX6 (scrI.getD i 0)) "java/lang/String" "value" "[B")) (.int (Int32.ofNat (scrN.getD i 0))) ∈ FLAT ∧ ∀ j : Nat, j < scrN.getD i 0 → Cond.eq (.elem (.field (.string RX6 (scrI.getD i 0)) "java/lang/String" "value" "[B") (.int (Int32.ofNat j))) (.int ((scrB.getD i []).getD j 0)) ∈ FLAT := by decide +kernel
theorem st_flat : Cond.eq (.static "java/lang/String" "COMPACT_STRINGS" "Z") (.int 1) ∈ FLAT ∧ Cond.isRef (.static "jdk/internal/util/Preconditions" "SIOOBE_FORMATTER" "Ljava/util/function/BiFunction;") ∈ FLAT := by decide +kernel
theorem arr_of {args : Array Value} {s : State} {ty : FieldType} (h : (Cond.arrayClass ty).before args s = true) : ∃ c : ClassId, ArrOfT s c ty ∧ s.vm.findClass ("[" ++ ty.toString) = some c := by
  obtain ⟨c, kA, comp, h1, h2, h3⟩ := Cond.arrayClass_spec h
  exact ⟨c, fun n z => ⟨fun k h => (by cases h), kA, h2, comp, h3⟩, h1⟩
set_option maxHeartbeats 4000000 in
theorem EV_start {s : State} {args : Array Value} (cd : ClassId) (hts : ∀ w ∈ lw_tbl, w.before args s = true) (hg : (Jvm.Cond.and given_1 narrow_1).before args s = true) : ∃ G : GT, va_K G.1 vwCl (tyG G) s ∧ EV G (fun q => s.heap.size ≤ q) s s.heap := by
  have hA : ∀ a : Nat, a < s.heap.size → ¬ (s.heap.size ≤ a) := fun a h => Nat.not_le.mpr h
  have hf : ∀ w ∈ FLAT, w.before args s = true := flat_of_before _ hg
  have hB : ∀ w ∈ BIG, w.before args s = true := fun w hw => hts w (BIG_tbl w hw)
  have hcls : ∀ c : Nat, ∃ q : ClassId × (Nat → Nat), ∀ x : vw_C, vwCl[c]? = some x → u_Kn s x.1 x.2.1 x.2.2 q.1 q.2 := by
    intro c
    match c with
    | 0 => obtain ⟨cC, iS, h⟩ := u_known hB in_X0 (hB _ ki_X0); exact ⟨(cC, iS), fun x hx => by cases hx; exact h⟩
    | 1 => obtain ⟨cC, iS, h⟩ := u_known hB in_X1 (hB _ ki_X1); exact ⟨(cC, iS), fun x hx => by cases hx; exact h⟩
    | 2 => obtain ⟨cC, iS, h⟩ := u_known hB in_X2 (hB _ ki_X2); exact ⟨(cC, iS), fun x hx => by cases hx; exact h⟩
    | 3 => obtain ⟨cC, iS, h⟩ := u_known hB in_X3 (hB _ ki_X3); exact ⟨(cC, iS), fun x hx => by cases hx; exact h⟩
    | 4 => obtain ⟨cC, iS, h⟩ := u_known hB in_X4 (hB _ ki_X4); exact ⟨(cC, iS), fun x hx => by cases hx; exact h⟩
    | 5 => obtain ⟨cC, iS, h⟩ := u_known hB in_X5 (hB _ ki_X5); exact ⟨(cC, iS), fun x hx => by cases hx; exact h⟩
    | 6 => obtain ⟨cC, iS, h⟩ := u_known hB in_X6 (hB _ ki_X6); exact ⟨(cC, iS), fun x hx => by cases hx; exact h⟩
    | 7 => obtain ⟨cC, iS, h⟩ := u_known hB in_X7 (hB _ ki_X7); exact ⟨(cC, iS), fun x hx => by cases hx; exact h⟩
    | 8 => obtain ⟨cC, iS, h⟩ := u_known hB in_X8 (hB _ ki_X8); exact ⟨(cC, iS), fun x hx => by cases hx; exact h⟩
    | c + 9 => exact ⟨(cd, fun _ => 0), fun x hx => by cases hx⟩
  obtain ⟨kn, hkn⟩ := Classical.axiomOfChoice hcls
  obtain ⟨cI, hI, hI2⟩ := arr_of (hB _ ac_I)
  obtain ⟨cC, hC, hC2⟩ := arr_of (hB _ ac_C)
  obtain ⟨comp, cR, kR, hR1, -, hR2, hR3, hR4⟩ := Cond.arrayOver_spec (hts _ ao_tbl)
  have hstr : ∀ i : Nat, ∃ q : Nat × Nat, i < 6 → (va_O "java/lang/String" q.1 (fun q => s.heap.size ≤ q) s s.heap ∧ va_OF "java/lang/String" "coder" "B" (.int 0) q.1 (fun q => s.heap.size ≤ q) s s.heap ∧ va_OF "java/lang/String" "value" "[B" (.ref q.2) q.1 (fun q => s.heap.size ≤ q) s s.heap ∧ va_T .byte q.2 (scrN.getD i 0) (fun j => .int ((scrB.getD i []).getD j 0)) (fun q => s.heap.size ≤ q) s s.heap) ∧ (Term.string RX6 (scrI.getD i 0)).eval args s none [] s = some (.ref q.1) := by
    intro i
    by_cases hi : i < 6
    · obtain ⟨h1, h2, h3, h4, h5⟩ := sc_exa i hi
      have hn : scrN.getD i 0 < 2 ^ 31 := (by decide : ∀ i : Nat, i < 6 → scrN.getD i 0 < 2 ^ 31) i hi
      obtain ⟨q, hq⟩ := str_of (A := fun q => s.heap.size ≤ q) (bs := scrB.getD i []) hn (hf _ h1) (hf _ h2) (hf _ h3) (hf _ h4) (fun j hj => hf _ (h5 j hj)) hA
      exact ⟨q, fun _ => hq⟩
    · exact ⟨(0, 0), fun h => absurd h hi⟩
  obtain ⟨sf, hsf⟩ := Classical.axiomOfChoice hstr
  refine ⟨((fun c => (kn c).1, fun c => (kn c).2), (fun i => match i with | 0 => cI | 1 => cC | _ => cR), fun i => (sf i).1, fun i => (sf i).2), ⟨fun c x hx => hkn c x hx, fun k x hx => ?_⟩, ?_⟩
  · match k, hx with
    | 0, hx => cases hx; exact ⟨hI, hI2⟩
    | 1, hx => cases hx; exact ⟨hC, hC2⟩
    | 2, hx => cases hx; exact ⟨hI, hI2⟩
    | 3, hx => cases hx; exact ⟨hI, hI2⟩
    | 4, hx => cases hx; exact ⟨fun n z => ⟨fun k h => (by cases h), kR, hR2, comp, hR3⟩, kR, comp, hR2, hR3, hR1, hR4⟩
    | k + 5, hx => cases hx
  · exact ⟨fun i hi => (hsf i hi).1, fun i hi => vk_R.of (hts _ (sc_ref i hi)) (hsf i hi).2, trivial, trivial, trivial, va_Zof (hts _ ls_1) (hts _ in_1) (va_eqt (hf _ st_flat.1)) hA, va_Zqof (hts _ ls_2) (hts _ in_2) (hf _ st_flat.2) hA, trivial, hts _ ao_tbl, fun w hw => va_Nw.of (nest_tbl w hw).2 (hts _ (nest_tbl w hw).1)⟩
