set_option maxRecDepth 100000 in
set_option maxHeartbeats 4000000 in
theorem k_J9_floorMod_7cf53 {l : Launch} {G : GT} {ad : Nat → Nat} {v0 : Int32} {v1 : Int32} {a : KS} {b : MS} {rr : Int32} (hf : f_J9_floorMod_7cf53 v0 v1 = some rr) : MT l G yJ9_floorMod_7cf53 cJ9_floorMod_7cf53 3 (some .int) (RM 0) [.int v0, .int v1] ad a b (some (.int rr)) a b := by
  refine MT_ofF (by decide +kernel) (Nat.le_of_ble_eq_true rfl) ?_
  intro p e s m args below meth c A C hr hk
  unfold f_J9_floorMod_7cf53 at hf
  refine j_iload_n C 0 rfl dJ9_floorMod_7cf53_0 ?_
  refine j_iload_n C 1 rfl dJ9_floorMod_7cf53_1 ?_
  obtain ⟨h1, hf⟩ := gd_some hf
  refine j_irem C (nz_ne h1) dJ9_floorMod_7cf53_2 ?_
  refine j_letI hf (fun x2 hf => ?_)
  refine j_istore_n (i := 2) (lv' := [(2, .int x2), (0, .int v0), (1, .int v1)]) C dJ9_floorMod_7cf53_3 rfl (by decide) rfl ?_
  refine j_iload_n C 1 rfl dJ9_floorMod_7cf53_4 ?_
  refine j_iload_n C 2 rfl dJ9_floorMod_7cf53_5 ?_
  refine j_ixor C dJ9_floorMod_7cf53_6 ?_
  refine j_if_ge C 18 dJ9_floorMod_7cf53_7 (by decide) hf (fun y3 hf => ?_) (fun y3 hf => ?_)
  · refine j_iload_n C 0 rfl dJ9_floorMod_7cf53_18 ?_
    obtain rfl := Option.some.inj hf
    exact j_iret C hr hk ⟨Nat.le_of_ble_eq_true rfl, Nat.le_of_ble_eq_true rfl⟩ rfl dJ9_floorMod_7cf53_19
  · refine j_iload_n C 0 rfl dJ9_floorMod_7cf53_10 ?_
    refine j_if_eq C 18 dJ9_floorMod_7cf53_11 (by decide) hf (fun y4 hf => ?_) (fun y4 hf => ?_)
    · refine j_iload_n C 0 rfl dJ9_floorMod_7cf53_18 ?_
      obtain rfl := Option.some.inj hf
      exact j_iret C hr hk ⟨Nat.le_of_ble_eq_true rfl, Nat.le_of_ble_eq_true rfl⟩ rfl dJ9_floorMod_7cf53_19
    · refine j_iload_n C 0 rfl dJ9_floorMod_7cf53_14 ?_
      refine j_iload_n C 2 rfl dJ9_floorMod_7cf53_15 ?_
      refine j_iadd C dJ9_floorMod_7cf53_16 ?_
      obtain rfl := Option.some.inj hf
      exact j_iret C hr hk ⟨Nat.le_of_ble_eq_true rfl, Nat.le_of_ble_eq_true rfl⟩ rfl dJ9_floorMod_7cf53_17
