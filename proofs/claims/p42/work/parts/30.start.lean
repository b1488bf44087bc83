theorem kl_L_12 : Cond.classLink RL 12 RX8 ∈ BIG := big_of 54 (by decide +kernel) (by decide +kernel)
theorem ml_L_137 : Cond.methodLink RL 137 yX8_init ∈ BIG := big_of 56 (by decide +kernel) (by decide +kernel)
theorem ki_X8 : Cond.instantiable RX8 7 ∈ BIG := big_of 55 (by decide +kernel) (by decide +kernel)
theorem wc_X8_init : Cond.code yX8_init cX8_init 1 none ∈ BIG := big_of 58 (by decide +kernel) (by decide +kernel)
theorem wn_X8_init : Cond.instanceMethod yX8_init ∈ BIG := big_of 57 (by decide +kernel) (by decide +kernel)
theorem cwI_X8 : CWI yX8_init cX8_init 1 0 := ⟨rfl, wc_X8_init, wn_X8_init, wi_X8, by decide +kernel, by decide +kernel, by decide +kernel⟩
def a0 : KS := (fun p => match p with | 1 => (fun j => match j with | 2 => 1 | _ => 0) | 12 => ((upd (upd (upd (fun _ => 0) (0 : Int32).toNatClampNeg 10) (1 : Int32).toNatClampNeg 30) (2 : Int32).toNatClampNeg 0)) | 18 => (fun j => match j with | 0 => 32 | _ => 0) | _ => fun _ => 0, fun i => match i with | 0 => (fun j => match j with | 11 => (-1) | _ => 0) | _ => fun _ => 0, fun _ => none, fun _ _ => none, up1 (fun _ => none) 0 (some 0), fun _ => none, some 0, 1, fun _ => 0)
def b0 : MS := (fun p => match p with | 100 => (fun j => match j with | 1 => 1 | _ => 0) | 103 => ((upd (fun _ => 0) (0 : Int32).toNatClampNeg (-1))) | 108 => ((upd (fun _ => 0) (0 : Int32).toNatClampNeg (-1))) | 119 => ((upd (upd (fun _ => 0) (0 : Int32).toNatClampNeg 10) (1 : Int32).toNatClampNeg 30)) | _ => fun _ => 0, 0)
/-- where each place stands in the list of cells -/
def sg (z : Nat) : Nat := match z with | 0 => 0 | 201 => 1 | 2 => 2 | 200 => 3 | 3 => 4 | 4 => 5 | 5 => 6 | 6 => 7 | 7 => 8 | 8 => 9 | 9 => 10 | 10 => 11 | 1 => 12 | 11 => 13 | 12 => 14 | 13 => 15 | 14 => 16 | 15 => 17 | 16 => 18 | 17 => 19 | 18 => 20 | _ => 0
def ad0 (q : Nat) (f : Nat → Nat) (z : Nat) : Nat := match z with | 0 => q | 201 => f 0 | 2 => f 1 | 200 => f 2 | 3 => f 3 | 4 => f 4 | 5 => f 5 | 6 => f 6 | 7 => f 7 | 8 => f 8 | 9 => f 9 | 10 => f 10 | 1 => f 11 | 11 => f 12 | 12 => f 13 | 13 => f 14 | 14 => f 15 | 15 => f 16 | 16 => f 17 | 17 => f 18 | 18 => f 19 | _ => 0
def ws0 (G : GT) (q : Nat) (f : Nat → Nat) : va_W := [(q, .inr (8, [.ref (f 11), .ref (f 3), .ref (f 6), .ref (f 8), .ref (f 10), .ref (f 15), .ref (f 17)])), ((f 0), arR (G.2.1 4) 8 (fun _ => none)), ((f 1), arR (G.2.1 4) 24 (va_up (fun _ => none) (0 : Int32).toNatClampNeg (some (f 2)))), ((f 2), .inr (4, [.int 0, .int 0, .null, .int 0, .int 0, .int 0, .int 0, .int 0, .ref (f 0), .int 0, .int 0, .int (-1), .int 0])), ((f 3), .inr (3, [.ref (f 4), .ref (f 5), .int 0])), ((f 4), arR (G.2.1 4) 8 (fun _ => none)), ((f 5), arI (G.2.1 0) 8 (fun _ => 0)), ((f 6), .inr (5, [.ref (f 7), .int 0, .int 0])), ((f 7), arI (G.2.1 0) 24 (fun _ => 0)), ((f 8), .inr (5, [.ref (f 9), .int 0, .int 0])), ((f 9), arI (G.2.1 0) 24 (fun _ => 0)), ((f 10), .inr (2, [.ref (f 11), .ref (f 3), .ref (f 12), .ref (f 13), .ref (f 14), .ref (f 2), .int 0, .int 0, .int 0, .int 0, .int 0, .int 0, .int 0])), ((f 11), .inr (7, [.ref (f 2), .ref (f 1), .int 1])), ((f 12), arI (G.2.1 0) 4 (fun _ => 0)), ((f 13), arI (G.2.1 0) 3 (upd (upd (upd (fun _ => 0) (0 : Int32).toNatClampNeg 10) (1 : Int32).toNatClampNeg 30) (2 : Int32).toNatClampNeg 0)), ((f 14), arI (G.2.1 0) 8 (fun _ => 0)), ((f 15), .inr (6, [.ref (f 16)])), ((f 16), arI (G.2.1 1) 32 (fun _ => 0)), ((f 17), .inr (1, [.ref (f 18), .ref (f 19), .int 0, .int 0])), ((f 18), arI (G.2.1 1) 60 (fun _ => 0)), ((f 19), .inr (0, [.int 32, .int 0]))]
theorem pls1 : pls 1 = [0, 1, 2, 3, 4, 5, 6, 7, 8, 9, 10, 11, 12, 13, 14, 15, 16, 17, 18, 200, 201] := by decide +kernel
theorem up_va {ad : Nat → Nat} {x : Nat} (hx : ad 200 = x) : (fun j => itr ad (up1 (fun _ => none) 0 (some 0) j)) = va_up (fun _ => none) (0 : Int32).toNatClampNeg (some x) := by
  funext j
  have e : (0 : Int32).toNatClampNeg = 0 := rfl
  rw [e]
  by_cases h : j = 0
  · subst h; simp [up1, va_up, itr, ip, hx]
  · simp [up1, va_up, itr, h]
set_option maxHeartbeats 8000000 in
set_option maxRecDepth 100000 in
theorem ws0_at {G : GT} {q : Nat} {f : Nat → Nat} : ∀ z, z ∈ pls (Kn a0) → (ws0 G q f)[sg z]? = some (ad0 q f z, cel G (ad0 q f) a0 b0 z) := by
  intro z hz
  have hz : z ∈ [0, 1, 2, 3, 4, 5, 6, 7, 8, 9, 10, 11, 12, 13, 14, 15, 16, 17, 18, 200, 201] := by rw [← pls1]; exact hz
  simp only [List.mem_cons, List.mem_nil_iff, or_false] at hz
  rcases hz with rfl | rfl | rfl | rfl | rfl | rfl | rfl | rfl | rfl | rfl | rfl | rfl | rfl | rfl | rfl | rfl | rfl | rfl | rfl | rfl | rfl
  · rfl
  · rfl
  · show some _ = some (_, arR (G.2.1 4) 24 (fun j => itr (ad0 q f) (up1 (fun _ => none) 0 (some 0) j)))
    rw [up_va (x := f 2) rfl]; rfl
  · rfl
  · rfl
  · rfl
  · rfl
  · rfl
  · rfl
  · rfl
  · rfl
  · rfl
  · rfl
  · rfl
  · rfl
  · rfl
  · rfl
  · rfl
  · rfl
  · rfl
  · rfl
theorem sg_inj : ∀ z ∈ pls 1, ∀ w ∈ pls 1, sg z = sg w → z = w := by rw [pls1]; decide +kernel
section ST
variable {p : Program} {l : Launch} {e : Env} {R : Room} {s : State} {m : MethodId} {args : Array Value} {below : List Frame} {meth : Method} {c : Code} {G : GT} {A : Nat → Prop} {nL : Nat} {Q : State → Prop} {k n : Nat} {ws : va_W} {own : String} {cc : ByteArray} {pc : Nat} {lv : List (Nat × Value)} {st : List Value}
theorem j_of_list {ad : Nat → Nat} {a : KS} {b : MS} (σ : Nat → Nat) (hσ : ∀ z, z ∈ pls (Kn a) → ws[σ z]? = some (ad z, cel G ad a b z)) (hi : ∀ z ∈ pls (Kn a), ∀ w ∈ pls (Kn a), σ z = σ w → z = w) (kk : J p l e R s m args below meth c G A nL Q k n ad a b pc lv st) : JL p l e R s m args below meth c G A nL Q k n ws pc lv st := fun H locs ls hP hD hS hl => by
  refine kk H locs ls ?_ ?_ hS hl
  · intro i x hx
    obtain ⟨z, hz, rfl⟩ := wd_mem hx
    exact hP _ _ (hσ z hz)
  · constructor
    · intro i j x y hx hy e
      have hx' := hx
      have hy' := hy
      unfold wd at hx' hy'
      rw [List.getElem?_map] at hx' hy'
      obtain ⟨z, hz, rfl⟩ := Option.map_eq_some_iff.mp hx'
      obtain ⟨w, hw, rfl⟩ := Option.map_eq_some_iff.mp hy'
      have mz := List.mem_of_getElem? hz
      have mw := List.mem_of_getElem? hw
      have e3 := hi z mz w mw (hD.1 _ _ _ _ (hσ z mz) (hσ w mw) e)
      subst e3
      exact (List.getElem?_inj (List.getElem?_eq_some_iff.mp hz).1 (pls_nd _)).mp (hz.trans hw.symm)
    · intro i x hx
      obtain ⟨z, hz, rfl⟩ := wd_mem hx
      exact hD.2 _ _ (hσ z hz)
theorem jl_astore_n (C : CL G A own cc nL p s m args c) {kf : Fin 4} {i : Nat} {x : Nat} {lv' : List (Nat × Value)} (d : decode cc pc = .ok (.astore_n kf, 1)) (hi : (kf : Nat) = i) (hn : i < nL) (hlv : (i, Value.ref x) :: lv.filter (fun q => !(q.1 == i) && !(q.1 + 1 == i && q.2.category == 2)) = lv') (kk : JL p l e R s m args below meth c G A nL Q k n ws (pc + 1) (lv') (st)) : JL p l e R s m args below meth c G A nL Q k n ws (pc) (lv) (.ref x :: st) := fun H locs ls hP hD hS hl => lv_astore_n C.1 C.2.1 d hi hl hn hlv (fun ls' hl' => kk H locs ls' hP hD hS hl')
theorem jl_istore (C : CL G A own cc nL p s m args c) {i : Nat} {x : Int32} {lv' : List (Nat × Value)} (d : decode cc pc = .ok (.istore i, 2)) (hn : i < nL) (hlv : (i, Value.int x) :: lv.filter (fun q => !(q.1 == i) && !(q.1 + 1 == i && q.2.category == 2)) = lv') (kk : JL p l e R s m args below meth c G A nL Q k n ws (pc + 2) (lv') (st)) : JL p l e R s m args below meth c G A nL Q k n ws (pc) (lv) (.int x :: st) := fun H locs ls hP hD hS hl => lv_istore C.1 C.2.1 d hl hn hlv (fun ls' hl' => kk H locs ls' hP hD hS hl')
set_option maxHeartbeats 8000000 in
set_option maxRecDepth 100000 in
theorem start_walk {sc : Nat} (C : CL G A RL cL_law 6 p s m args c) (hF : 14 ≤ R.frames) (hM : 536 ≤ R.locals) (hKR : 600104 ≤ R.cells ∧ 7301314 ≤ R.slots) (kk : ∀ ad : Nat → Nat, J p l e R s m args below meth c G A 6 Q 21 255 ad a0 b0 8 [(0, .ref sc), (1, .ref (ad 0))] []) : JL p l e R s m args below meth c G A 6 Q 0 0 [] 0 [(0, .ref sc)] [] := by
  refine jl_new (ci := 8) (RC := RX8) (T := TX8) (N := 7) (ty0 := tyX8) (fs := [.null, .null, .null, .null, .null, .null, .null]) C rfl in_X8 tyX8_ok kl_L_12 ki_X8 wi_X8 (by decide) ⟨Nat.le_trans (Nat.le_of_ble_eq_true rfl : 1 ≤ 600104) hKR.1, Nat.le_trans (Nat.le_of_ble_eq_true rfl : 7 ≤ 7301314) hKR.2⟩ dL_law_0 (fun q => ?_)
  refine jl_dup C rfl dL_law_3 ?_
  refine jl_callI (As := []) (rest := [.ref q, .ref q].tail) (wc := [(q, .inr (8, [.null, .null, .null, .null, .null, .null, .null]))]) (wr := []) C kc_X8 cwI_X8 ml_L_137 [0] [] rfl rfl rfl (by decide) (by decide) (by decide) rfl ⟨Nat.le_trans (Nat.le_of_ble_eq_true rfl) hF, Nat.le_trans (Nat.le_of_ble_eq_true rfl) hM⟩ ⟨Nat.le_trans (Nat.le_of_ble_eq_true rfl : 21 ≤ 600104) hKR.1, Nat.le_trans (Nat.le_of_ble_eq_true rfl : 255 ≤ 7301314) hKR.2⟩ rfl (Nat.le_of_ble_eq_true rfl) dL_law_4 (fun f => ?_)
  refine jl_ws ([(q, .inr (8, [.ref (f 11), .ref (f 3), .ref (f 6), .ref (f 8), .ref (f 10), .ref (f 15), .ref (f 17)])), ((f 0), arR (G.2.1 4) 8 (fun _ => none)), ((f 1), arR (G.2.1 4) 24 (va_up (fun _ => none) (0 : Int32).toNatClampNeg (some (f 2)))), ((f 2), .inr (4, [.int 0, .int 0, .null, .int 0, .int 0, .int 0, .int 0, .int 0, .ref (f 0), .int 0, .int 0, .int (-1), .int 0])), ((f 3), .inr (3, [.ref (f 4), .ref (f 5), .int 0])), ((f 4), arR (G.2.1 4) 8 (fun _ => none)), ((f 5), arI (G.2.1 0) 8 (fun _ => 0)), ((f 6), .inr (5, [.ref (f 7), .int 0, .int 0])), ((f 7), arI (G.2.1 0) 24 (fun _ => 0)), ((f 8), .inr (5, [.ref (f 9), .int 0, .int 0])), ((f 9), arI (G.2.1 0) 24 (fun _ => 0)), ((f 10), .inr (2, [.ref (f 11), .ref (f 3), .ref (f 12), .ref (f 13), .ref (f 14), .ref (f 2), .int 0, .int 0, .int 0, .int 0, .int 0, .int 0, .int 0])), ((f 11), .inr (7, [.ref (f 2), .ref (f 1), .int 1])), ((f 12), arI (G.2.1 0) 4 (fun _ => 0)), ((f 13), arI (G.2.1 0) 3 (upd (upd (upd (fun _ => 0) (0 : Int32).toNatClampNeg 10) (1 : Int32).toNatClampNeg 30) (2 : Int32).toNatClampNeg 0)), ((f 14), arI (G.2.1 0) 8 (fun _ => 0)), ((f 15), .inr (6, [.ref (f 16)])), ((f 16), arI (G.2.1 1) 32 (fun _ => 0)), ((f 17), .inr (1, [.ref (f 18), .ref (f 19), .int 0, .int 0])), ((f 18), arI (G.2.1 1) 60 (fun _ => 0)), ((f 19), .inr (0, [.int 32, .int 0]))]) rfl ?_
  refine jl_astore_n C (i := 1) dL_law_7 rfl (by decide) rfl ?_
  refine jl_ws (ws0 G q f) rfl ?_
  refine j_of_list (ad := ad0 q f) (a := a0) (b := b0) sg ws0_at sg_inj ?_
  refine fun H locs ls hP hD hS hl => ?_
  exact kk (ad0 q f) H locs ls hP hD hS (lv_sub hl [1, 0] rfl)
end ST
