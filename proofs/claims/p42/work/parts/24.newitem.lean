/-! ===== a new item: the world at one place more ===== -/
theorem itr_ag {ad ad' : Nat → Nat} {n : Nat} (h : AG ad ad' n) {o : Option Nat} (ho : okr n o = true) : itr ad' o = itr ad o := by
  cases o with
  | none => rfl
  | some i =>
    have hi : i < n := of_decide_eq_true ho
    show some (ad' (ip i)) = some (ad (ip i))
    rw [h _ (mem_ip hi)]
theorem plF_lt1 : ∀ q ∈ plF, q < 100 := by decide +kernel
theorem cel_ag {G : GT} {ad ad' : Nat → Nat} {a : KS} {b : MS} (h : AG ad ad' (Kn a)) (hR : Rok a) {z : Nat} (hz : z ∈ pls (Kn a)) : cel G ad' a b z = cel G ad a b z := by
  obtain ⟨h0, h1, h2, h3, h4, h5⟩ := hR
  have hp : ∀ k, k ∈ plF → ad' k = ad k := fun k hk => h k (mem_plF hk)
  have e200 : ad' 200 = ad 200 := h 200 (mem_ip (i := 0) h0)
  rcases List.mem_append.mp hz with hz | hz
  · have f1 : (fun j => itr ad' (Kti a j)) = fun j => itr ad (Kti a j) := by funext j; exact itr_ag h (h3 j)
    have f2 : (fun j => itr ad' (Klg a j)) = fun j => itr ad (Klg a j) := by funext j; exact itr_ag h (h4 j)
    have f3 : itr ad' (Ksh a) = itr ad (Ksh a) := itr_ag h h5
    have p1 := hp 1 (by decide +kernel); have p2 := hp 2 (by decide +kernel); have p3 := hp 3 (by decide +kernel); have p4 := hp 4 (by decide +kernel); have p5 := hp 5 (by decide +kernel); have p6 := hp 6 (by decide +kernel); have p7 := hp 7 (by decide +kernel); have p8 := hp 8 (by decide +kernel); have p9 := hp 9 (by decide +kernel); have p10 := hp 10 (by decide +kernel); have p11 := hp 11 (by decide +kernel); have p12 := hp 12 (by decide +kernel); have p13 := hp 13 (by decide +kernel); have p14 := hp 14 (by decide +kernel); have p15 := hp 15 (by decide +kernel); have p16 := hp 16 (by decide +kernel); have p17 := hp 17 (by decide +kernel); have p18 := hp 18 (by decide +kernel)
    unfold cel
    by_cases z1 : z < 100
    · rw [if_pos z1, if_pos z1]
      unfold celF
      split <;> simp only [p1, p2, p3, p4, p5, p6, p7, p8, p9, p10, p11, p12, p13, p14, p15, p16, p17, p18, e200, f1, f2, itv, f3]
    · rw [if_neg z1, if_neg z1]
      have z2 : z < 200 := plF_lt z hz
      rw [if_pos z2, if_pos z2]
      have z3 : z < 100 := plF_lt1 z hz
      exact absurd z3 z1
  · rcases List.mem_append.mp hz with hz | hz
    · obtain ⟨i, hi, rfl⟩ := List.mem_map.mp hz
      have hi := List.mem_range.mp hi
      rw [cel_item, cel_item]
      unfold celI itv
      rw [itr_ag h (h1 i hi), show ip i + 1 = cp i from rfl, h _ (mem_cp hi)]
    · obtain ⟨i, hi, rfl⟩ := List.mem_map.mp hz
      have hi := List.mem_range.mp hi
      rw [cel_chil, cel_chil]
      unfold celC
      rw [show (fun j => itr ad' (Kch a i j)) = fun j => itr ad (Kch a i j) from funext fun j => itr_ag h (h2 i hi j)]
theorem cel_snew {G : GT} {ad : Nat → Nat} {a : KS} {b : MS} {f : Nat → Int32} {mn : Option Nat} {z : Nat} (hz : z ∈ pls (Kn a)) : cel G ad (sNew a f mn) b z = cel G ad a b z := by
  rcases List.mem_append.mp hz with hz | hz
  · have z2 : z < 200 := plF_lt z hz
    unfold cel
    by_cases z1 : z < 100
    · rw [if_pos z1, if_pos z1]; rfl
    · rw [if_neg z1, if_neg z1, if_pos z2, if_pos z2]
  · rcases List.mem_append.mp hz with hz | hz
    · obtain ⟨i, hi, rfl⟩ := List.mem_map.mp hz
      have hi := List.mem_range.mp hi
      have hn : ¬ i = Kn a := by omega
      rw [cel_item, cel_item]
      have e1 : Kit (sNew a f mn) i = Kit a i := by funext j; simp [Kit, sNew, hn]
      have e2 : Kmn (sNew a f mn) i = Kmn a i := by simp [Kmn, sNew, up1, hn]
      rw [e1, e2]
    · obtain ⟨i, hi, rfl⟩ := List.mem_map.mp hz
      have hi := List.mem_range.mp hi
      have hn : ¬ i = Kn a := by omega
      rw [cel_chil, cel_chil]
      have e1 : Kch (sNew a f mn) i = Kch a i := by funext j; simp [Kch, sNew, hn]
      rw [e1]
theorem mem_pls_succ {n z : Nat} (h : z ∈ pls (n + 1)) : z ∈ pls n ∨ z = ip n ∨ z = cp n := by
  rcases List.mem_append.mp h with h | h
  · exact Or.inl (mem_plF h)
  · rcases List.mem_append.mp h with h | h
    · obtain ⟨i, hi, rfl⟩ := List.mem_map.mp h
      have hi := List.mem_range.mp hi
      by_cases e : i = n
      · exact Or.inr (Or.inl (by rw [e]))
      · exact Or.inl (mem_ip (by omega))
    · obtain ⟨i, hi, rfl⟩ := List.mem_map.mp h
      have hi := List.mem_range.mp hi
      by_cases e : i = n
      · exact Or.inr (Or.inr (by rw [e]))
      · exact Or.inl (mem_cp (by omega))
theorem pls_lt_ip {n z : Nat} (h : z ∈ pls n) : z ≠ ip n ∧ z ≠ cp n := by
  rcases List.mem_append.mp h with h | h
  · have := plF_lt z h
    simp only [ip, cp]
    omega
  · rcases List.mem_append.mp h with h | h
    · obtain ⟨i, hi, rfl⟩ := List.mem_map.mp h
      have hi := List.mem_range.mp hi
      simp only [ip, cp]
      omega
    · obtain ⟨i, hi, rfl⟩ := List.mem_map.mp h
      have hi := List.mem_range.mp hi
      simp only [ip, cp]
      omega
section NI
variable {p : Program} {l : Launch} {e : Env} {R : Room} {s : State} {m : MethodId} {args : Array Value} {below : List Frame} {meth : Method} {c : Code} {G : GT} {A : Nat → Prop} {nL : Nat} {Q : State → Prop} {k n : Nat} {ad : Nat → Nat} {a : KS} {b : MS} {own : String} {cc : ByteArray} {pc : Nat} {lv : List (Nat × Value)} {st : List Value}
/-- behind the item's constructor: the new cell q, its row, nothing else moved -/
theorem n_run_end {H : Heap} {locs : List Loc} {ls : Array Slot} {st0 rest : List Value} {ar : Array Value} {q pi mc ms : Nat} {bl vs : List Value} {F : Nat → List Value} {f0 : Nat → Int32} (C : CX G A own cc nL p s m args c) (hR : Rok a) (hp : pi < Kn a) (hvs : cel G ad a b (ip pi) = .inr (4, vs)) (hF : ∀ r, (Sum.inr (4, F r) : va_E) = .inr (4, [.int (f0 0), .int (f0 1), .ref (ad (ip pi)), .int (f0 3), .int (f0 4), .int (f0 5), .int (f0 6), .int (f0 7), .ref r, .int (f0 9), .int (f0 10), .int (f0 11), .int (f0 12)])) (hl : lv_has ls nL lv) (hP : va_P G.1 vwCl (wd G ad a b ++ [(q, .inr (4, bl))]) H) (hD : va_D A (wd G ad a b ++ [(q, .inr (4, bl))])) (hS : va_S A s.heap H locs)
    (hr : va_Run p l e R s m args below meth c H locs k n mc ms (F0 m pc ls st0) rest (QML G (fun f => [(q, .inr (4, F (f 0))), (ad (ip pi), .inr (4, vs)), (f 0, arR (G.2.1 4) 8 (fun _ => none))]) (va_A [(q, .inr (4, bl)), (ad (ip pi), .inr (4, vs))] H.size) ar) (va_A [(q, .inr (4, bl)), (ad (ip pi), .inr (4, vs))] H.size))
    (kk : ∀ ad' : Nat → Nat, AG ad ad' (Kn a) → ad' (ip (Kn a)) = q → J p l e R s m args below meth c G A nL Q (k + mc) (n + ms) ad' (sNew a f0 (some pi)) b (pc + 3) lv rest) : W p l e R s m args below meth c H locs k n Q (F0 m pc ls st0) := by
  intro T hT X
  obtain ⟨v1, st₀, t, T', L, h0, X', hL, e1, e2, ⟨hv, ⟨f, hP1, hD1⟩, hz, hk⟩, go⟩ := hr T hT X
  obtain rfl : v1 = none := by injection hv
  rw [h0] at hz hk
  have hlen : (wd G ad a b).length = (pls (Kn a)).length := by unfold wd; rw [List.length_map]
  have hq0 : (wd G ad a b ++ [(q, (Sum.inr (4, bl) : va_E))])[(wd G ad a b).length]? = some (q, .inr (4, bl)) := by simp
  have hwd : ∀ z, z ∈ pls (Kn a) → ∃ k0 : Nat, k0 < (wd G ad a b).length ∧ (wd G ad a b ++ [(q, (Sum.inr (4, bl) : va_E))])[k0]? = some (ad z, cel G ad a b z) := by
    intro z hz
    obtain ⟨k0, -, h2⟩ := wd_get (G := G) (ad := ad) (b := b) hz
    have h3 : k0 < (wd G ad a b).length := (List.getElem?_eq_some_iff.mp h2).1
    exact ⟨k0, h3, by rw [List.getElem?_append_left h3]; exact h2⟩
  have hql : q < H.size := (hP _ _ hq0).lt
  have hzl : ∀ z, z ∈ pls (Kn a) → ad z < H.size := fun z hz => by
    obtain ⟨k0, -, h2⟩ := hwd z hz
    exact (hP _ _ h2).lt
  have hzq : ∀ z, z ∈ pls (Kn a) → ad z ≠ q := fun z hz e => by
    obtain ⟨k0, h1, h2⟩ := hwd z hz
    have := hD.1 _ _ _ _ h2 hq0 e
    omega
  have hinj : ∀ z w, z ∈ pls (Kn a) → w ∈ pls (Kn a) → ad z = ad w → z = w := fun z w hz hw e => by
    have hD0 : va_D A (wd G ad a b) := ⟨fun i j x y hx hy e => hD.1 i j x y (by rw [List.getElem?_append_left (List.getElem?_eq_some_iff.mp hx).1]; exact hx) (by rw [List.getElem?_append_left (List.getElem?_eq_some_iff.mp hy).1]; exact hy) e, fun i x hx => hD.2 i x (by rw [List.getElem?_append_left (List.getElem?_eq_some_iff.mp hx).1]; exact hx)⟩
    exact wd_inj hD0 hz hw e
  have hAf : ∀ x, H.size ≤ x → A x := fun x h => C.2.2.2.2.2.2.1 x (Nat.le_trans hS.1 h)
  have hfree : ∀ x, va_A [(q, (Sum.inr (4, bl) : va_E)), (ad (ip pi), .inr (4, vs))] H.size x → A x := by
    intro x hx
    rcases hx with ⟨j, w, hj⟩ | hx
    · match j, hj with
      | 0, hj => cases hj; exact hD.2 _ _ hq0
      | 1, hj =>
        cases hj
        obtain ⟨k0, -, h2⟩ := hwd (ip pi) (mem_ip hp)
        exact hD.2 _ _ h2
      | j + 2, hj => simp at hj
    · exact hAf x hx
  have hf0q : f 0 ≠ q := fun e => by
    have := hD1.1 2 0 _ _ rfl rfl e
    omega
  have hf0p : f 0 ≠ ad (ip pi) := fun e => by
    have := hD1.1 2 1 _ _ rfl rfl e
    omega
  have hf0 : H.size ≤ f 0 := by
    rcases hD1.2 2 _ rfl with ⟨j, w, hj⟩ | h
    · match j, hj with
      | 0, hj =>
        have e3 : q = f 0 := by simpa using congrArg (fun t => t.map Prod.fst) hj
        exact absurd e3.symm hf0q
      | 1, hj =>
        have e3 : ad (ip pi) = f 0 := by simpa using congrArg (fun t => t.map Prod.fst) hj
        exact absurd e3.symm hf0p
      | j + 2, hj => simp at hj
    · exact h
  obtain ⟨ad', had⟩ : ∃ ad' : Nat → Nat, ad' = fun z => if z = ip (Kn a) then q else if z = cp (Kn a) then f 0 else ad z := ⟨_, rfl⟩
  have hag : AG ad ad' (Kn a) := fun z hz => by
    have := pls_lt_ip hz
    rw [had]
    simp [this.1, this.2]
  have hnq : ad' (ip (Kn a)) = q := by rw [had]; simp
  have hnr : ad' (cp (Kn a)) = f 0 := by rw [had]; simp
  have hKn : Kn (sNew a f0 (some pi)) = Kn a + 1 := rfl
  have hPn : va_P G.1 vwCl (wd G ad' (sNew a f0 (some pi)) b) T'.heap := by
    intro i x hx
    obtain ⟨z, hz, rfl⟩ := wd_mem hx
    rw [hKn] at hz
    rcases mem_pls_succ hz with hz | rfl | rfl
    · rw [cel_snew hz, cel_ag hag hR hz, hag z hz, e1]
      by_cases hzp : z = ip pi
      · subst hzp
        rw [hvs]
        exact hP1 1 _ rfl
      · obtain ⟨k0, -, h2⟩ := hwd z hz
        refine (hP _ _ h2).kept (hk _ (hzl z hz) (fun hx => ?_))
        rcases hx with ⟨j, w, hj⟩ | hx
        · match j, hj with
          | 0, hj =>
            have e3 : q = ad z := by simpa using congrArg (fun t => t.map Prod.fst) hj
            exact hzq z hz e3.symm
          | 1, hj =>
            have e3 : ad (ip pi) = ad z := by simpa using congrArg (fun t => t.map Prod.fst) hj
            exact hzp (hinj _ _ hz (mem_ip hp) e3.symm)
          | j + 2, hj => simp at hj
        · exact absurd hx (Nat.not_le.mpr (hzl z hz))
    · rw [hnq, e1, cel_item]
      have h5 := hP1 0 _ rfl
      rw [hF] at h5
      have e4 : celI ad' (Kit (sNew a f0 (some pi)) (Kn a)) (Kmn (sNew a f0 (some pi)) (Kn a)) (ip (Kn a)) = .inr (4, [.int (f0 0), .int (f0 1), .ref (ad (ip pi)), .int (f0 3), .int (f0 4), .int (f0 5), .int (f0 6), .int (f0 7), .ref (f 0), .int (f0 9), .int (f0 10), .int (f0 11), .int (f0 12)]) := by
        unfold celI
        rw [show ip (Kn a) + 1 = cp (Kn a) from rfl, hnr]
        have e5 : itv ad' (Kmn (sNew a f0 (some pi)) (Kn a)) = .ref (ad (ip pi)) := by
          have : Kmn (sNew a f0 (some pi)) (Kn a) = some pi := by simp [Kmn, sNew, up1]
          rw [this]
          show Value.ref (ad' (ip pi)) = _
          rw [hag _ (mem_ip hp)]
        rw [e5]
        simp [Kit, sNew]
      rw [e4]
      exact h5
    · rw [hnr, e1, cel_chil]
      have e4 : celC G ad' (Kch (sNew a f0 (some pi)) (Kn a)) = arR (G.2.1 4) 8 (fun _ => none) := by
        unfold celC
        have : (fun j => itr ad' (Kch (sNew a f0 (some pi)) (Kn a) j)) = fun _ => none := by funext j; simp [Kch, sNew, itr]
        rw [this]
      rw [e4]
      exact hP1 2 _ rfl
  have hDn : va_D A (wd G ad' (sNew a f0 (some pi)) b) := by
    have inj : ∀ z w, z ∈ pls (Kn a + 1) → w ∈ pls (Kn a + 1) → ad' z = ad' w → z = w := by
      intro z w hz hw e
      rcases mem_pls_succ hz with hz | rfl | rfl <;> rcases mem_pls_succ hw with hw | rfl | rfl
      · rw [hag z hz, hag w hw] at e; exact hinj z w hz hw e
      · rw [hag z hz, hnq] at e; exact absurd e (hzq z hz)
      · rw [hag z hz, hnr] at e; have := hzl z hz; omega
      · rw [hag w hw, hnq] at e; exact absurd e.symm (hzq w hw)
      · rfl
      · rw [hnq, hnr] at e; exact absurd e.symm hf0q
      · rw [hag w hw, hnr] at e; have := hzl w hw; omega
      · rw [hnq, hnr] at e; exact absurd e hf0q
      · rfl
    constructor
    · intro i j x y hx hy e
      have hx' := hx
      have hy' := hy
      unfold wd at hx' hy'
      rw [List.getElem?_map] at hx' hy'
      obtain ⟨z, hz, rfl⟩ := Option.map_eq_some_iff.mp hx'
      obtain ⟨w, hw, rfl⟩ := Option.map_eq_some_iff.mp hy'
      have e3 := inj z w (List.mem_of_getElem? hz) (List.mem_of_getElem? hw) e
      subst e3
      exact (List.getElem?_inj (List.getElem?_eq_some_iff.mp hz).1 (pls_nd _)).mp (hz.trans hw.symm)
    · intro i x hx
      obtain ⟨z, hz, rfl⟩ := wd_mem hx
      rw [hKn] at hz
      rcases mem_pls_succ hz with hz | rfl | rfl
      · show A (ad' z)
        rw [hag z hz]
        obtain ⟨k0, -, h2⟩ := hwd z hz
        exact hD.2 _ _ h2
      · show A (ad' _)
        rw [hnq]
        exact hD.2 _ _ hq0
      · show A (ad' _)
        rw [hnr]
        exact hAf _ hf0
  obtain ⟨t2, a1, b1⟩ := kk ad' hag hnq T'.heap (locs ++ L) ls hPn hDn
    ⟨Nat.le_trans hS.1 (by rw [e1]; exact hz), fun x h1 h2 => by rw [e1, hk x (Nat.lt_of_lt_of_le h1 hS.1) (fun z => h2 (hfree x z))]; exact hS.2.1 x h1 h2, fun x hx => by
      rcases List.mem_append.mp hx with h | h
      · exact hS.2.2 x h
      · exact hfree _ (hL x h)⟩ hl T' rfl X'
  exact ⟨t2, go t2 a1, b1⟩
theorem j_newitem (C : CX G A RX8 cX8_added 7 p s m args c) (hR : Rok a) {pi : Nat} (hp : pi < Kn a) {v2 v3 v4 v5 : Int32} (hroom : 2 ≤ R.frames ∧ 8 + (7 + 11) + 35 ≤ R.locals) (hcs : k + 2 ≤ R.cells ∧ n + 21 ≤ R.slots) (kk : ∀ ad' : Nat → Nat, AG ad ad' (Kn a) → J p l e R s m args below meth c G A 7 Q (k + 2) (n + 21) ad' (sNew a (itF (Khi a 1 2) v2 (Kit a pi 3 + 1) (Kit a pi 9) v3 v4 v5) (some pi)) b 68 [(0, .ref (ad 0)), (1, .ref (ad (ip pi))), (2, .int v2), (3, .int v3), (4, .int v4), (5, .int v5)] [.ref (ad' (ip (Kn a)))]) : J p l e R s m args below meth c G A 7 Q k n ad a b 47 [(0, .ref (ad 0)), (1, .ref (ad (ip pi))), (2, .int v2), (3, .int v3), (4, .int v4), (5, .int v5)] [] := by
  have Cl : CL G A RX8 cX8_added 7 p s m args c := ⟨C.1, C.2.1, C.2.2.1, C.2.2.2.1, C.2.2.2.2.1, C.2.2.2.2.2.1, C.2.2.2.2.2.2.1, C.2.2.2.2.2.2.2.2.2.2.2.2.2.2.2⟩
  have start : JL p l e R s m args below meth c G A 7 Q k n (wd G ad a b) 47 [(0, .ref (ad 0)), (1, .ref (ad (ip pi))), (2, .int v2), (3, .int v3), (4, .int v4), (5, .int v5)] [] := by
    refine jl_new (ci := 4) (RC := RX4) (T := TX4) (N := 13) (ty0 := tyX4) (fs := [.int 0, .int 0, .null, .int 0, .int 0, .int 0, .int 0, .int 0, .null, .int 0, .int 0, .int 0, .int 0]) Cl rfl in_X4 tyX4_ok kl_X8_61 ki_X4 wi_X4 (by decide) ⟨by omega, by omega⟩ dX8_added_47 (fun q => ?_)
    have hat : ∀ z, z ∈ pls (Kn a) → ∃ k0 : Nat, (wd G ad a b ++ [(q, (Sum.inr (4, [.int 0, .int 0, .null, .int 0, .int 0, .int 0, .int 0, .int 0, .null, .int 0, .int 0, .int 0, .int 0]) : va_E))])[k0]? = some (ad z, cel G ad a b z) := by
      intro z hz
      obtain ⟨k0, -, h2⟩ := wd_get (G := G) (ad := ad) (b := b) hz
      exact ⟨k0, by rw [List.getElem?_append_left (List.getElem?_eq_some_iff.mp h2).1]; exact h2⟩
    obtain ⟨k0, hk0⟩ := hat 0 m_0
    obtain ⟨k1, hk1⟩ := hat 1 m_1
    obtain ⟨kp, hkp⟩ := hat (ip pi) (mem_ip hp)
    rw [ce_0] at hk0
    rw [ce_1] at hk1
    rw [ce_item] at hkp
    refine jl_dup Cl rfl dX8_added_50 ?_
    refine jl_aload_n Cl 0 rfl dX8_added_51 ?_
    refine jl_get (q0 := k0) (kf := 0) (T := TX8) (N := 7) (RC := RX8) Cl hk0 rfl in_X8 (by decide) (fun _ h9 => h9) fl_X8_10 rfl dX8_added_52 ?_
    refine jl_get (q0 := k1) (kf := 2) (T := TX7) (N := 3) (RC := RX7) Cl hk1 rfl in_X7 (by decide) (fun _ h9 => h9) fl_X8_107 rfl dX8_added_55 ?_
    refine jl_iload_n Cl 2 rfl dX8_added_58 ?_
    refine jl_aload_n Cl 1 rfl dX8_added_59 ?_
    refine jl_iload_n Cl 3 rfl dX8_added_60 ?_
    refine jl_iload Cl 4 rfl dX8_added_61 ?_
    refine jl_iload Cl 5 rfl dX8_added_63 ?_
    intro H locs ls hP hD hS hl
    have hlen : (wd G ad a b ++ [(q, (Sum.inr (4, [.int 0, .int 0, .null, .int 0, .int 0, .int 0, .int 0, .int 0, .null, .int 0, .int 0, .int 0, .int 0]) : va_E))])[(wd G ad a b).length]? = some (q, .inr (4, [.int 0, .int 0, .null, .int 0, .int 0, .int 0, .int 0, .int 0, .null, .int 0, .int 0, .int 0, .int 0])) := by simp
    have hne : va_nd [(wd G ad a b).length, kp] = true := by
      have h1 : (wd G ad a b).length ≠ kp := by
        intro e
        subst e
        have h2 := hD.1
        obtain ⟨k3, -, h3⟩ := wd_get (G := G) (ad := ad) (b := b) (mem_ip hp)
        rw [ce_item] at h3
        have h4 := (List.getElem?_eq_some_iff.mp h3).1
        have h5 := hD.1 k3 (wd G ad a b).length _ _ (by rw [List.getElem?_append_left h4]; exact h3) hkp rfl
        omega
      simp [va_nd, h1]
    have cw1 := cwI (R := R) (s := s) (args := args) (rm := RX 1 1 8) (own := RX8) (index := 338) 6 C.2.2.2.2.1 (ws_I cwI_X4) rfl rfl rfl (C.2.2.2.2.1 _ cwI_X4.2.2.2.1) (C.2.2.2.2.1 _ ml_X8_338) (C.2.2.2.2.1 _ cwI_X4.2.2.1) cwI_X4.1 ⟨cwI_X4.2.2.2.2.1, cwI_X4.2.2.2.2.2.1, cwI_X4.2.2.2.2.2.2⟩ ⟨hroom.1, hroom.2⟩
    have hP2 := hP.sub [(wd G ad a b).length, kp] (ws' := [(q, .inr (4, [.int 0, .int 0, .null, .int 0, .int 0, .int 0, .int 0, .int 0, .null, .int 0, .int 0, .int 0, .int 0])), (ad (ip pi), .inr (4, [.int (Kit a pi 0), .int (Kit a pi 1), itv ad (Kmn a pi), .int (Kit a pi 3), .int (Kit a pi 4), .int (Kit a pi 5), .int (Kit a pi 6), .int (Kit a pi 7), .ref (ad (cp pi)), .int (Kit a pi 9), .int (Kit a pi 10), .int (Kit a pi 11), .int (Kit a pi 12)]))]) (by simp only [List.filterMap_cons, List.filterMap_nil, hlen, hkp])
    have hD2 := hD.sub [(wd G ad a b).length, kp] (ws' := [(q, .inr (4, [.int 0, .int 0, .null, .int 0, .int 0, .int 0, .int 0, .int 0, .null, .int 0, .int 0, .int 0, .int 0])), (ad (ip pi), .inr (4, [.int (Kit a pi 0), .int (Kit a pi 1), itv ad (Kmn a pi), .int (Kit a pi 3), .int (Kit a pi 4), .int (Kit a pi 5), .int (Kit a pi 6), .int (Kit a pi 7), .ref (ad (cp pi)), .int (Kit a pi 9), .int (Kit a pi 10), .int (Kit a pi 11), .int (Kit a pi 12)]))]) hne (by simp only [List.map_cons, List.map_nil, hlen, hkp])
    refine n_run_end (pi := pi) (f0 := itF (Khi a 1 2) v2 (Kit a pi 3 + 1) (Kit a pi 9) v3 v4 v5) C hR hp ce_item (fun r => rfl) hl hP hD hS (va_runI (As := [.int (Khi a 1 2), .int v2, .ref (ad (ip pi)), .int v3, .int v4, .int v5]) (rest := [.ref q]) ⟨C.1, C.2.1, C.2.2.1, C.2.2.2.1, C.2.2.2.2.1⟩ (kc_X4b (q := q) (w := ad (ip pi)) (v1 := Khi a 1 2) (v2 := v2) (v4 := v3) (v5 := v4) (v6 := v5) (p0 := Kit a pi 0) (p1 := Kit a pi 1) (p2 := itv ad (Kmn a pi)) (p3 := Kit a pi 3) (p4 := Kit a pi 4) (p5 := Kit a pi 5) (p6 := Kit a pi 6) (p7 := Kit a pi 7) (p8 := ad (cp pi)) (p9 := Kit a pi 9) (p10 := Kit a pi 10) (p11 := Kit a pi 11) (p12 := Kit a pi 12) H.size) cw1 ⟨preL_blind, fun U hU hW => preL_at Cl hP2 hD2 _ U hU hW⟩ rfl rfl hl.1 rfl (Nat.le_of_ble_eq_true rfl) dX8_added_65 ⟨by show k + 1 + 1 ≤ R.cells; omega, by show n + 13 + 8 ≤ R.slots; omega⟩) (fun ad' hag hq H1 locs1 ls1 => ?_)
    have h9 := kk ad' hag H1 locs1 ls1
    rw [hq] at h9
    exact h9
  exact start
end NI
