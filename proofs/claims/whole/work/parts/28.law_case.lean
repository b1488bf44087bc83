def SX (A : Nat → Prop) (sc L : Nat) (xs : Nat → Int32) (s : State) : Prop := va_X sc L xs s s.heap ∧ sc < s.heap.size ∧ ¬ A sc
theorem lcmp_eq {x y : Int64} (h : x = y) : lg_cmp x y = 0 := by
  subst h
  simp [lg_cmp]
section LC
variable {p : Program} {l : Launch} {e : Env} {R : Room} {s : State} {m : MethodId} {args : Array Value} {below : List Frame} {meth : Method} {c : Code} {G : GT} {A : Nat → Prop} {Q : State → Prop} {k n : Nat} {ad : Nat → Nat} {a : KS} {b : MS} {sc L : Nat} {xs : Nat → Int32} {i : Int32}
theorem j_sld {nL : Nat} {own : String} {cc : ByteArray} {pc : Nat} {lv : List (Nat × Value)} {st : List Value} {i : Int32} (C : CX G A own cc nL p s m args c) (hX : SX A sc L xs s) (hin : vp_in i L) (d : decode cc pc = .ok (.iaload, 1)) (kk : J p l e R s m args below meth c G A nL Q k n ad a b (pc + 1) lv (.int (xs i.toNatClampNeg) :: st)) : J p l e R s m args below meth c G A nL Q k n ad a b pc lv (.int i :: .ref sc :: st) := fun H locs ls hP hD hS hl => va_sld C.1 C.2.1 hX.1 hX.2.1 hX.2.2 hS hin d (kk H locs ls hP hD hS hl)
theorem j_slen {nL : Nat} {own : String} {cc : ByteArray} {pc : Nat} {lv : List (Nat × Value)} {st : List Value} (C : CX G A own cc nL p s m args c) (hX : SX A sc L xs s) (d : decode cc pc = .ok (.arraylength, 1)) (kk : J p l e R s m args below meth c G A nL Q k n ad a b (pc + 1) lv (.int (Int32.ofNat L) :: st)) : J p l e R s m args below meth c G A nL Q k n ad a b pc lv (.ref sc :: st) := fun H locs ls hP hD hS hl => va_slen C.1 C.2.1 hX.1 hX.2.1 hX.2.2 hS d (kk H locs ls hP hD hS hl)

set_option maxHeartbeats 1000000 in
theorem q_0 (C : CX G A RL cL_law 9 p s m args c) (hX : SX A sc L xs s) (hst : l.stackTraces = false) (hF : 14 ≤ R.frames) (hM : 530 ≤ R.locals) (hC : k + 5 ≤ R.cells ∧ n + 39 ≤ R.slots) (hv1 : vp_in (i + 1) L) (hv2 : vp_in (i + 2) L) (hv3 : vp_in (i + 3) L) (hv4 : vp_in (i + 4) L) {z : Int32 × KS} (hz : f_L_addMenu a (xs (i + 1).toNatClampNeg) = some z) {w : Int32 × MS} (hw : f_X9_addMenu b (xs (i + 1).toNatClampNeg) = some w) {t : Int32} (ht : f_X9_thrown w.2  = some t) (e1 : t = z.1) (e2 : z.1 = 0 → (Kou z.2 0) = w.1.toInt64) (kk : ∀ ad' : Nat → Nat, AG ad ad' (Kn a) → J p l e R s m args below meth c G A 9 Q (k + 5) (n + 39) ad' z.2 w.2 1757 [(0, .ref sc), (1, .ref (ad' 0)), (2, .ref (ad' 100)), (3, .ref (ad' 19)), (4, .int i)] []) : J p l e R s m args below meth c G A 9 Q k n ad a b 208 [(0, .ref sc), (1, .ref (ad 0)), (2, .ref (ad 100)), (3, .ref (ad 19)), (4, .int i)] [] := by
  refine j_aload_n C 1 rfl dL_law_208 ?_
  refine j_aload_n C 0 rfl dL_law_209 ?_
  refine j_iload C 4 rfl dL_law_210 ?_
  refine j_iconst C (v := 1) rfl dL_law_212 ?_
  refine j_iadd C dL_law_213 ?_
  refine j_sld C hX hv1 dL_law_214 ?_
  refine j_aload_n C 3 rfl dL_law_215 ?_
  refine j_wcallS (As := [.ref (ad 0), .int (xs (i + 1).toNatClampNeg), .ref (ad 19)]) (rest := []) C (k_L_addMenu hst hz) cw_L_addMenu ml_L_90 rfl ⟨Nat.le_trans (Nat.le_of_ble_eq_true rfl) hF, Nat.le_trans (Nat.le_of_ble_eq_true rfl) hM⟩ ⟨by show k + 5 ≤ R.cells; omega, by show n + 39 ≤ R.slots; omega⟩ rfl (Nat.le_of_ble_eq_true rfl) dL_law_216 (fun ad9 hg9 => ?_)
  rw [← hg9 0 m_0, ← hg9 19 m_19, ← hg9 100 m_100]
  refine j_widen (k + 5) (n + 39) (by show k + 5 ≤ k + 5; omega) (by show n + 39 ≤ n + 39; omega) ?_
  refine j_istore C (i := 5) dL_law_219 (by decide) rfl ?_
  refine j_aload_n C 3 rfl dL_law_221 ?_
  refine j_aload_n C 1 rfl dL_law_222 ?_
  refine j_iload C 5 rfl dL_law_223 ?_
  refine j_iconst C (v := 1) rfl dL_law_225 ?_
  refine j_iadd C dL_law_226 ?_
  refine j_sld C hX hv1 dL_law_227 ?_
  refine j_callV (q := 100) (As := [.int (xs (i + 1).toNatClampNeg)]) (rest := []) C (k_X9_addMenu hw) cw_X9_addMenu ml_L_95 m_100 ce_100 rfl rfl ⟨Nat.le_trans (Nat.le_of_ble_eq_true rfl) hF, Nat.le_trans (Nat.le_of_ble_eq_true rfl) hM⟩ hC rfl (Nat.le_of_ble_eq_true rfl) dL_law_228 ?_
  refine j_widen (k + 5) (n + 39) (Nat.le_refl (k + 5)) (Nat.le_refl (n + 39)) ?_
  refine j_istore C (i := 6) dL_law_231 (by decide) rfl ?_
  refine j_aload_n C 4 rfl dL_law_233 ?_
  refine j_callV (q := 100) (As := []) (rest := []) C (k_X9_thrown ht) cw_X9_thrown ml_L_96 m_100 ce_100 rfl rfl ⟨Nat.le_trans (Nat.le_of_ble_eq_true rfl) hF, Nat.le_trans (Nat.le_of_ble_eq_true rfl) hM⟩ hC rfl (Nat.le_of_ble_eq_true rfl) dL_law_234 ?_
  refine j_widen (k + 5) (n + 39) (Nat.le_refl (k + 5)) (Nat.le_refl (n + 39)) ?_
  refine j_iload C 1 rfl dL_law_237 ?_
  refine j_icmp_eq C (X := Unit) (f := ()) (g := ()) (r := ()) 244 dL_law_239 rfl (ite_self _) (fun _ _ => ?_) (fun h9 _ => absurd e1 h9)
  refine j_iload C 1 rfl dL_law_244 ?_
  refine j_if_ne C (X := Unit) (f := ()) (g := ()) (r := ()) 261 dL_law_246 rfl (ite_self _) (fun _ _ => ?_) (fun h8 _ => ?_)
  ·
    refine j_goto C 1757 dL_law_261 rfl ?_
    refine j_sub [2, 3, 4, 5, 6] rfl ?_
    exact kk ad9 hg9
  have h8 := Classical.not_not.mp h8
  refine j_aload_n C 5 rfl dL_law_249 ?_
  refine j_iconst C (v := 0) rfl dL_law_250 ?_
  refine j_lald (X := Unit) (x := some ()) (r := ()) C m_19 ce_19 rfl dL_law_251 (fun _ => ?_)
  refine j_iload C 0 rfl dL_law_252 ?_
  refine j_i2l C dL_law_254 ?_
  refine j_lcmp C dL_law_255 ?_
  refine j_if_eq C (X := Unit) (f := ()) (g := ()) (r := ()) 261 dL_law_256 rfl (ite_self _) (fun _ _ => ?_) (fun h9 _ => absurd (lcmp_eq (e2 h8)) h9)
  refine j_goto C 1757 dL_law_261 rfl ?_
  refine j_sub [2, 3, 4, 5, 6] rfl ?_
  exact kk ad9 hg9
set_option maxHeartbeats 1000000 in
theorem q_1 (C : CX G A RL cL_law 9 p s m args c) (hX : SX A sc L xs s) (hst : l.stackTraces = false) (hF : 14 ≤ R.frames) (hM : 530 ≤ R.locals) (hC : k + 5 ≤ R.cells ∧ n + 39 ≤ R.slots) (hv1 : vp_in (i + 1) L) (hv2 : vp_in (i + 2) L) (hv3 : vp_in (i + 3) L) (hv4 : vp_in (i + 4) L) {z : Int32 × KS} (hz : f_L_addNumber a (xs (i + 1).toNatClampNeg) (xs (i + 2).toNatClampNeg) (xs (i + 3).toNatClampNeg) (xs (i + 4).toNatClampNeg) = some z) {w : Int32 × MS} (hw : f_X9_addNumber b (xs (i + 1).toNatClampNeg) (xs (i + 2).toNatClampNeg) (xs (i + 3).toNatClampNeg) (xs (i + 4).toNatClampNeg) = some w) {t : Int32} (ht : f_X9_thrown w.2  = some t) (e1 : t = z.1) (e2 : z.1 = 0 → (Kou z.2 0) = w.1.toInt64) (kk : ∀ ad' : Nat → Nat, AG ad ad' (Kn a) → J p l e R s m args below meth c G A 9 Q (k + 5) (n + 39) ad' z.2 w.2 1757 [(0, .ref sc), (1, .ref (ad' 0)), (2, .ref (ad' 100)), (3, .ref (ad' 19)), (4, .int i)] []) : J p l e R s m args below meth c G A 9 Q k n ad a b 264 [(0, .ref sc), (1, .ref (ad 0)), (2, .ref (ad 100)), (3, .ref (ad 19)), (4, .int i)] [] := by
  refine j_aload_n C 1 rfl dL_law_264 ?_
  refine j_aload_n C 0 rfl dL_law_265 ?_
  refine j_iload C 4 rfl dL_law_266 ?_
  refine j_iconst C (v := 1) rfl dL_law_268 ?_
  refine j_iadd C dL_law_269 ?_
  refine j_sld C hX hv1 dL_law_270 ?_
  refine j_aload_n C 0 rfl dL_law_271 ?_
  refine j_iload C 4 rfl dL_law_272 ?_
  refine j_iconst C (v := 2) rfl dL_law_274 ?_
  refine j_iadd C dL_law_275 ?_
  refine j_sld C hX hv2 dL_law_276 ?_
  refine j_aload_n C 0 rfl dL_law_277 ?_
  refine j_iload C 4 rfl dL_law_278 ?_
  refine j_iconst C (v := 3) rfl dL_law_280 ?_
  refine j_iadd C dL_law_281 ?_
  refine j_sld C hX hv3 dL_law_282 ?_
  refine j_aload_n C 0 rfl dL_law_283 ?_
  refine j_iload C 4 rfl dL_law_284 ?_
  refine j_iconst C (v := 4) rfl dL_law_286 ?_
  refine j_iadd C dL_law_287 ?_
  refine j_sld C hX hv4 dL_law_288 ?_
  refine j_aload_n C 3 rfl dL_law_289 ?_
  refine j_wcallS (As := [.ref (ad 0), .int (xs (i + 1).toNatClampNeg), .int (xs (i + 2).toNatClampNeg), .int (xs (i + 3).toNatClampNeg), .int (xs (i + 4).toNatClampNeg), .ref (ad 19)]) (rest := []) C (k_L_addNumber hst hz) cw_L_addNumber ml_L_99 rfl ⟨Nat.le_trans (Nat.le_of_ble_eq_true rfl) hF, Nat.le_trans (Nat.le_of_ble_eq_true rfl) hM⟩ ⟨by show k + 5 ≤ R.cells; omega, by show n + 39 ≤ R.slots; omega⟩ rfl (Nat.le_of_ble_eq_true rfl) dL_law_290 (fun ad9 hg9 => ?_)
  rw [← hg9 0 m_0, ← hg9 19 m_19, ← hg9 100 m_100]
  refine j_widen (k + 5) (n + 39) (by show k + 5 ≤ k + 5; omega) (by show n + 39 ≤ n + 39; omega) ?_
  refine j_istore C (i := 5) dL_law_293 (by decide) rfl ?_
  refine j_aload_n C 3 rfl dL_law_295 ?_
  refine j_aload_n C 1 rfl dL_law_296 ?_
  refine j_iload C 5 rfl dL_law_297 ?_
  refine j_iconst C (v := 1) rfl dL_law_299 ?_
  refine j_iadd C dL_law_300 ?_
  refine j_sld C hX hv1 dL_law_301 ?_
  refine j_aload_n C 1 rfl dL_law_302 ?_
  refine j_iload C 5 rfl dL_law_303 ?_
  refine j_iconst C (v := 2) rfl dL_law_305 ?_
  refine j_iadd C dL_law_306 ?_
  refine j_sld C hX hv2 dL_law_307 ?_
  refine j_aload_n C 1 rfl dL_law_308 ?_
  refine j_iload C 5 rfl dL_law_309 ?_
  refine j_iconst C (v := 3) rfl dL_law_311 ?_
  refine j_iadd C dL_law_312 ?_
  refine j_sld C hX hv3 dL_law_313 ?_
  refine j_aload_n C 1 rfl dL_law_314 ?_
  refine j_iload C 5 rfl dL_law_315 ?_
  refine j_iconst C (v := 4) rfl dL_law_317 ?_
  refine j_iadd C dL_law_318 ?_
  refine j_sld C hX hv4 dL_law_319 ?_
  refine j_callV (q := 100) (As := [.int (xs (i + 1).toNatClampNeg), .int (xs (i + 2).toNatClampNeg), .int (xs (i + 3).toNatClampNeg), .int (xs (i + 4).toNatClampNeg)]) (rest := []) C (k_X9_addNumber hw) cw_X9_addNumber ml_L_102 m_100 ce_100 rfl rfl ⟨Nat.le_trans (Nat.le_of_ble_eq_true rfl) hF, Nat.le_trans (Nat.le_of_ble_eq_true rfl) hM⟩ hC rfl (Nat.le_of_ble_eq_true rfl) dL_law_320 ?_
  refine j_widen (k + 5) (n + 39) (Nat.le_refl (k + 5)) (Nat.le_refl (n + 39)) ?_
  refine j_istore C (i := 6) dL_law_323 (by decide) rfl ?_
  refine j_aload_n C 4 rfl dL_law_325 ?_
  refine j_callV (q := 100) (As := []) (rest := []) C (k_X9_thrown ht) cw_X9_thrown ml_L_96 m_100 ce_100 rfl rfl ⟨Nat.le_trans (Nat.le_of_ble_eq_true rfl) hF, Nat.le_trans (Nat.le_of_ble_eq_true rfl) hM⟩ hC rfl (Nat.le_of_ble_eq_true rfl) dL_law_326 ?_
  refine j_widen (k + 5) (n + 39) (Nat.le_refl (k + 5)) (Nat.le_refl (n + 39)) ?_
  refine j_iload C 1 rfl dL_law_329 ?_
  refine j_icmp_eq C (X := Unit) (f := ()) (g := ()) (r := ()) 336 dL_law_331 rfl (ite_self _) (fun _ _ => ?_) (fun h9 _ => absurd e1 h9)
  refine j_iload C 1 rfl dL_law_336 ?_
  refine j_if_ne C (X := Unit) (f := ()) (g := ()) (r := ()) 353 dL_law_338 rfl (ite_self _) (fun _ _ => ?_) (fun h8 _ => ?_)
  ·
    refine j_goto C 1757 dL_law_353 rfl ?_
    refine j_sub [2, 3, 4, 5, 6] rfl ?_
    exact kk ad9 hg9
  have h8 := Classical.not_not.mp h8
  refine j_aload_n C 5 rfl dL_law_341 ?_
  refine j_iconst C (v := 0) rfl dL_law_342 ?_
  refine j_lald (X := Unit) (x := some ()) (r := ()) C m_19 ce_19 rfl dL_law_343 (fun _ => ?_)
  refine j_iload C 0 rfl dL_law_344 ?_
  refine j_i2l C dL_law_346 ?_
  refine j_lcmp C dL_law_347 ?_
  refine j_if_eq C (X := Unit) (f := ()) (g := ()) (r := ()) 353 dL_law_348 rfl (ite_self _) (fun _ _ => ?_) (fun h9 _ => absurd (lcmp_eq (e2 h8)) h9)
  refine j_goto C 1757 dL_law_353 rfl ?_
  refine j_sub [2, 3, 4, 5, 6] rfl ?_
  exact kk ad9 hg9
set_option maxHeartbeats 1000000 in
theorem q_2 (C : CX G A RL cL_law 9 p s m args c) (hX : SX A sc L xs s) (hst : l.stackTraces = false) (hF : 14 ≤ R.frames) (hM : 530 ≤ R.locals) (hC : k + 5 ≤ R.cells ∧ n + 39 ≤ R.slots) (hv1 : vp_in (i + 1) L) (hv2 : vp_in (i + 2) L) (hv3 : vp_in (i + 3) L) (hv4 : vp_in (i + 4) L) {z : Int32 × KS} (hz : f_L_addChoice a (xs (i + 1).toNatClampNeg) (xs (i + 2).toNatClampNeg) = some z) {w : Int32 × MS} (hw : f_X9_addChoice b (xs (i + 1).toNatClampNeg) (xs (i + 2).toNatClampNeg) = some w) {t : Int32} (ht : f_X9_thrown w.2  = some t) (e1 : t = z.1) (e2 : z.1 = 0 → (Kou z.2 0) = w.1.toInt64) (kk : ∀ ad' : Nat → Nat, AG ad ad' (Kn a) → J p l e R s m args below meth c G A 9 Q (k + 5) (n + 39) ad' z.2 w.2 1757 [(0, .ref sc), (1, .ref (ad' 0)), (2, .ref (ad' 100)), (3, .ref (ad' 19)), (4, .int i)] []) : J p l e R s m args below meth c G A 9 Q k n ad a b 356 [(0, .ref sc), (1, .ref (ad 0)), (2, .ref (ad 100)), (3, .ref (ad 19)), (4, .int i)] [] := by
  refine j_aload_n C 1 rfl dL_law_356 ?_
  refine j_aload_n C 0 rfl dL_law_357 ?_
  refine j_iload C 4 rfl dL_law_358 ?_
  refine j_iconst C (v := 1) rfl dL_law_360 ?_
  refine j_iadd C dL_law_361 ?_
  refine j_sld C hX hv1 dL_law_362 ?_
  refine j_aload_n C 0 rfl dL_law_363 ?_
  refine j_iload C 4 rfl dL_law_364 ?_
  refine j_iconst C (v := 2) rfl dL_law_366 ?_
  refine j_iadd C dL_law_367 ?_
  refine j_sld C hX hv2 dL_law_368 ?_
  refine j_aload_n C 3 rfl dL_law_369 ?_
  refine j_wcallS (As := [.ref (ad 0), .int (xs (i + 1).toNatClampNeg), .int (xs (i + 2).toNatClampNeg), .ref (ad 19)]) (rest := []) C (k_L_addChoice hst hz) cw_L_addChoice ml_L_103 rfl ⟨Nat.le_trans (Nat.le_of_ble_eq_true rfl) hF, Nat.le_trans (Nat.le_of_ble_eq_true rfl) hM⟩ ⟨by show k + 5 ≤ R.cells; omega, by show n + 39 ≤ R.slots; omega⟩ rfl (Nat.le_of_ble_eq_true rfl) dL_law_370 (fun ad9 hg9 => ?_)
  rw [← hg9 0 m_0, ← hg9 19 m_19, ← hg9 100 m_100]
  refine j_widen (k + 5) (n + 39) (by show k + 5 ≤ k + 5; omega) (by show n + 39 ≤ n + 39; omega) ?_
  refine j_istore C (i := 5) dL_law_373 (by decide) rfl ?_
  refine j_aload_n C 3 rfl dL_law_375 ?_
  refine j_aload_n C 1 rfl dL_law_376 ?_
  refine j_iload C 5 rfl dL_law_377 ?_
  refine j_iconst C (v := 1) rfl dL_law_379 ?_
  refine j_iadd C dL_law_380 ?_
  refine j_sld C hX hv1 dL_law_381 ?_
  refine j_aload_n C 1 rfl dL_law_382 ?_
  refine j_iload C 5 rfl dL_law_383 ?_
  refine j_iconst C (v := 2) rfl dL_law_385 ?_
  refine j_iadd C dL_law_386 ?_
  refine j_sld C hX hv2 dL_law_387 ?_
  refine j_callV (q := 100) (As := [.int (xs (i + 1).toNatClampNeg), .int (xs (i + 2).toNatClampNeg)]) (rest := []) C (k_X9_addChoice hw) cw_X9_addChoice ml_L_106 m_100 ce_100 rfl rfl ⟨Nat.le_trans (Nat.le_of_ble_eq_true rfl) hF, Nat.le_trans (Nat.le_of_ble_eq_true rfl) hM⟩ hC rfl (Nat.le_of_ble_eq_true rfl) dL_law_388 ?_
  refine j_widen (k + 5) (n + 39) (Nat.le_refl (k + 5)) (Nat.le_refl (n + 39)) ?_
  refine j_istore C (i := 6) dL_law_391 (by decide) rfl ?_
  refine j_aload_n C 4 rfl dL_law_393 ?_
  refine j_callV (q := 100) (As := []) (rest := []) C (k_X9_thrown ht) cw_X9_thrown ml_L_96 m_100 ce_100 rfl rfl ⟨Nat.le_trans (Nat.le_of_ble_eq_true rfl) hF, Nat.le_trans (Nat.le_of_ble_eq_true rfl) hM⟩ hC rfl (Nat.le_of_ble_eq_true rfl) dL_law_394 ?_
  refine j_widen (k + 5) (n + 39) (Nat.le_refl (k + 5)) (Nat.le_refl (n + 39)) ?_
  refine j_iload C 1 rfl dL_law_397 ?_
  refine j_icmp_eq C (X := Unit) (f := ()) (g := ()) (r := ()) 404 dL_law_399 rfl (ite_self _) (fun _ _ => ?_) (fun h9 _ => absurd e1 h9)
  refine j_iload C 1 rfl dL_law_404 ?_
  refine j_if_ne C (X := Unit) (f := ()) (g := ()) (r := ()) 421 dL_law_406 rfl (ite_self _) (fun _ _ => ?_) (fun h8 _ => ?_)
  ·
    refine j_goto C 1757 dL_law_421 rfl ?_
    refine j_sub [2, 3, 4, 5, 6] rfl ?_
    exact kk ad9 hg9
  have h8 := Classical.not_not.mp h8
  refine j_aload_n C 5 rfl dL_law_409 ?_
  refine j_iconst C (v := 0) rfl dL_law_410 ?_
  refine j_lald (X := Unit) (x := some ()) (r := ()) C m_19 ce_19 rfl dL_law_411 (fun _ => ?_)
  refine j_iload C 0 rfl dL_law_412 ?_
  refine j_i2l C dL_law_414 ?_
  refine j_lcmp C dL_law_415 ?_
  refine j_if_eq C (X := Unit) (f := ()) (g := ()) (r := ()) 421 dL_law_416 rfl (ite_self _) (fun _ _ => ?_) (fun h9 _ => absurd (lcmp_eq (e2 h8)) h9)
  refine j_goto C 1757 dL_law_421 rfl ?_
  refine j_sub [2, 3, 4, 5, 6] rfl ?_
  exact kk ad9 hg9
set_option maxHeartbeats 1000000 in
theorem q_3 (C : CX G A RL cL_law 9 p s m args c) (hX : SX A sc L xs s) (hst : l.stackTraces = false) (hF : 14 ≤ R.frames) (hM : 530 ≤ R.locals) (hC : k + 5 ≤ R.cells ∧ n + 39 ≤ R.slots) (hv1 : vp_in (i + 1) L) (hv2 : vp_in (i + 2) L) (hv3 : vp_in (i + 3) L) (hv4 : vp_in (i + 4) L) {z : Int32 × KS} (hz : f_L_lock a (xs (i + 1).toNatClampNeg) (xs (i + 2).toNatClampNeg) = some z) {w : Int32 × MS} (hw : f_X9_lock b (xs (i + 1).toNatClampNeg) (xs (i + 2).toNatClampNeg) = some w) {t : Int32} (ht : f_X9_thrown w.2  = some t) (e1 : t = z.1) (e2 : z.1 = 0 → (Kou z.2 0) = w.1.toInt64) (kk : ∀ ad' : Nat → Nat, AG ad ad' (Kn a) → J p l e R s m args below meth c G A 9 Q (k + 5) (n + 39) ad' z.2 w.2 1757 [(0, .ref sc), (1, .ref (ad' 0)), (2, .ref (ad' 100)), (3, .ref (ad' 19)), (4, .int i)] []) : J p l e R s m args below meth c G A 9 Q k n ad a b 424 [(0, .ref sc), (1, .ref (ad 0)), (2, .ref (ad 100)), (3, .ref (ad 19)), (4, .int i)] [] := by
  refine j_aload_n C 1 rfl dL_law_424 ?_
  refine j_aload_n C 0 rfl dL_law_425 ?_
  refine j_iload C 4 rfl dL_law_426 ?_
  refine j_iconst C (v := 1) rfl dL_law_428 ?_
  refine j_iadd C dL_law_429 ?_
  refine j_sld C hX hv1 dL_law_430 ?_
  refine j_aload_n C 0 rfl dL_law_431 ?_
  refine j_iload C 4 rfl dL_law_432 ?_
  refine j_iconst C (v := 2) rfl dL_law_434 ?_
  refine j_iadd C dL_law_435 ?_
  refine j_sld C hX hv2 dL_law_436 ?_
  refine j_aload_n C 3 rfl dL_law_437 ?_
  refine j_wcallS (As := [.ref (ad 0), .int (xs (i + 1).toNatClampNeg), .int (xs (i + 2).toNatClampNeg), .ref (ad 19)]) (rest := []) C (k_L_lock hst hz) cw_L_lock ml_L_107 rfl ⟨Nat.le_trans (Nat.le_of_ble_eq_true rfl) hF, Nat.le_trans (Nat.le_of_ble_eq_true rfl) hM⟩ ⟨by show k + 2 ≤ R.cells; omega, by show n + 12 ≤ R.slots; omega⟩ rfl (Nat.le_of_ble_eq_true rfl) dL_law_438 (fun ad9 hg9 => ?_)
  rw [← hg9 0 m_0, ← hg9 19 m_19, ← hg9 100 m_100]
  refine j_widen (k + 5) (n + 39) (by show k + 2 ≤ k + 5; omega) (by show n + 12 ≤ n + 39; omega) ?_
  refine j_istore C (i := 5) dL_law_441 (by decide) rfl ?_
  refine j_aload_n C 3 rfl dL_law_443 ?_
  refine j_aload_n C 1 rfl dL_law_444 ?_
  refine j_iload C 5 rfl dL_law_445 ?_
  refine j_iconst C (v := 1) rfl dL_law_447 ?_
  refine j_iadd C dL_law_448 ?_
  refine j_sld C hX hv1 dL_law_449 ?_
  refine j_aload_n C 1 rfl dL_law_450 ?_
  refine j_iload C 5 rfl dL_law_451 ?_
  refine j_iconst C (v := 2) rfl dL_law_453 ?_
  refine j_iadd C dL_law_454 ?_
  refine j_sld C hX hv2 dL_law_455 ?_
  refine j_callV (q := 100) (As := [.int (xs (i + 1).toNatClampNeg), .int (xs (i + 2).toNatClampNeg)]) (rest := []) C (k_X9_lock hw) cw_X9_lock ml_L_109 m_100 ce_100 rfl rfl ⟨Nat.le_trans (Nat.le_of_ble_eq_true rfl) hF, Nat.le_trans (Nat.le_of_ble_eq_true rfl) hM⟩ hC rfl (Nat.le_of_ble_eq_true rfl) dL_law_456 ?_
  refine j_widen (k + 5) (n + 39) (Nat.le_refl (k + 5)) (Nat.le_refl (n + 39)) ?_
  refine j_istore C (i := 6) dL_law_459 (by decide) rfl ?_
  refine j_aload_n C 4 rfl dL_law_461 ?_
  refine j_callV (q := 100) (As := []) (rest := []) C (k_X9_thrown ht) cw_X9_thrown ml_L_96 m_100 ce_100 rfl rfl ⟨Nat.le_trans (Nat.le_of_ble_eq_true rfl) hF, Nat.le_trans (Nat.le_of_ble_eq_true rfl) hM⟩ hC rfl (Nat.le_of_ble_eq_true rfl) dL_law_462 ?_
  refine j_widen (k + 5) (n + 39) (Nat.le_refl (k + 5)) (Nat.le_refl (n + 39)) ?_
  refine j_iload C 1 rfl dL_law_465 ?_
  refine j_icmp_eq C (X := Unit) (f := ()) (g := ()) (r := ()) 472 dL_law_467 rfl (ite_self _) (fun _ _ => ?_) (fun h9 _ => absurd e1 h9)
  refine j_iload C 1 rfl dL_law_472 ?_
  refine j_if_ne C (X := Unit) (f := ()) (g := ()) (r := ()) 489 dL_law_474 rfl (ite_self _) (fun _ _ => ?_) (fun h8 _ => ?_)
  ·
    refine j_goto C 1757 dL_law_489 rfl ?_
    refine j_sub [2, 3, 4, 5, 6] rfl ?_
    exact kk ad9 hg9
  have h8 := Classical.not_not.mp h8
  refine j_aload_n C 5 rfl dL_law_477 ?_
  refine j_iconst C (v := 0) rfl dL_law_478 ?_
  refine j_lald (X := Unit) (x := some ()) (r := ()) C m_19 ce_19 rfl dL_law_479 (fun _ => ?_)
  refine j_iload C 0 rfl dL_law_480 ?_
  refine j_i2l C dL_law_482 ?_
  refine j_lcmp C dL_law_483 ?_
  refine j_if_eq C (X := Unit) (f := ()) (g := ()) (r := ()) 489 dL_law_484 rfl (ite_self _) (fun _ _ => ?_) (fun h9 _ => absurd (lcmp_eq (e2 h8)) h9)
  refine j_goto C 1757 dL_law_489 rfl ?_
  refine j_sub [2, 3, 4, 5, 6] rfl ?_
  exact kk ad9 hg9
set_option maxHeartbeats 1000000 in
theorem q_4 (C : CX G A RL cL_law 9 p s m args c) (hX : SX A sc L xs s) (hst : l.stackTraces = false) (hF : 14 ≤ R.frames) (hM : 530 ≤ R.locals) (hC : k + 5 ≤ R.cells ∧ n + 39 ≤ R.slots) (hv1 : vp_in (i + 1) L) (hv2 : vp_in (i + 2) L) (hv3 : vp_in (i + 3) L) (hv4 : vp_in (i + 4) L) {z : Int32} (hz : f_X8_items a  = some z) {w : Int32 × MS} (hw : f_X9_items b  = some w) (e1 : z = w.1) (kk : ∀ ad' : Nat → Nat, AG ad ad' (Kn a) → J p l e R s m args below meth c G A 9 Q (k + 5) (n + 39) ad' a w.2 1757 [(0, .ref sc), (1, .ref (ad' 0)), (2, .ref (ad' 100)), (3, .ref (ad' 19)), (4, .int i)] []) : J p l e R s m args below meth c G A 9 Q k n ad a b 492 [(0, .ref sc), (1, .ref (ad 0)), (2, .ref (ad 100)), (3, .ref (ad 19)), (4, .int i)] [] := by
  refine j_widen (k + 5) (n + 39) (Nat.le_add_right _ _) (Nat.le_add_right _ _) ?_
  refine j_aload_n C 1 rfl dL_law_492 ?_
  refine j_callV (q := 0) (As := []) (rest := []) C (k_X8_items hz) cw_X8_items ml_L_110 m_0 ce_0 rfl rfl ⟨Nat.le_trans (Nat.le_of_ble_eq_true rfl) hF, Nat.le_trans (Nat.le_of_ble_eq_true rfl) hM⟩ hC rfl (Nat.le_of_ble_eq_true rfl) dL_law_493 ?_
  refine j_widen (k + 5) (n + 39) (Nat.le_refl (k + 5)) (Nat.le_refl (n + 39)) ?_
  refine j_aload_n C 2 rfl dL_law_496 ?_
  refine j_callV (q := 100) (As := []) (rest := [.int z]) C (k_X9_items hw) cw_X9_items ml_L_113 m_100 ce_100 rfl rfl ⟨Nat.le_trans (Nat.le_of_ble_eq_true rfl) hF, Nat.le_trans (Nat.le_of_ble_eq_true rfl) hM⟩ hC rfl (Nat.le_of_ble_eq_true rfl) dL_law_497 ?_
  refine j_widen (k + 5) (n + 39) (Nat.le_refl (k + 5)) (Nat.le_refl (n + 39)) ?_
  refine j_icmp_eq C (X := Unit) (f := ()) (g := ()) (r := ()) 1757 dL_law_500 rfl (ite_self _) (fun _ _ => ?_) (fun h9 _ => absurd e1 h9)
  refine j_sub [0, 1, 2, 3, 4] rfl ?_
  exact kk ad (fun _ _ => rfl)
set_option maxHeartbeats 1000000 in
theorem q_5 (C : CX G A RL cL_law 9 p s m args c) (hX : SX A sc L xs s) (hst : l.stackTraces = false) (hF : 14 ≤ R.frames) (hM : 530 ≤ R.locals) (hC : k + 5 ≤ R.cells ∧ n + 39 ≤ R.slots) (hv1 : vp_in (i + 1) L) (hv2 : vp_in (i + 2) L) (hv3 : vp_in (i + 3) L) (hv4 : vp_in (i + 4) L) {z : Int32 × KS} (hz : f_L_kind a (xs (i + 1).toNatClampNeg) = some z) {w : Int32 × MS} (hw : f_X9_kind b (xs (i + 1).toNatClampNeg) = some w) {t : Int32} (ht : f_X9_thrown w.2  = some t) (e1 : t = z.1) (e2 : z.1 = 0 → (Kou z.2 0) = w.1.toInt64) (kk : ∀ ad' : Nat → Nat, AG ad ad' (Kn a) → J p l e R s m args below meth c G A 9 Q (k + 5) (n + 39) ad' z.2 w.2 1757 [(0, .ref sc), (1, .ref (ad' 0)), (2, .ref (ad' 100)), (3, .ref (ad' 19)), (4, .int i)] []) : J p l e R s m args below meth c G A 9 Q k n ad a b 505 [(0, .ref sc), (1, .ref (ad 0)), (2, .ref (ad 100)), (3, .ref (ad 19)), (4, .int i)] [] := by
  refine j_aload_n C 1 rfl dL_law_505 ?_
  refine j_aload_n C 0 rfl dL_law_506 ?_
  refine j_iload C 4 rfl dL_law_507 ?_
  refine j_iconst C (v := 1) rfl dL_law_509 ?_
  refine j_iadd C dL_law_510 ?_
  refine j_sld C hX hv1 dL_law_511 ?_
  refine j_aload_n C 3 rfl dL_law_512 ?_
  refine j_wcallS (As := [.ref (ad 0), .int (xs (i + 1).toNatClampNeg), .ref (ad 19)]) (rest := []) C (k_L_kind hst hz) cw_L_kind ml_L_114 rfl ⟨Nat.le_trans (Nat.le_of_ble_eq_true rfl) hF, Nat.le_trans (Nat.le_of_ble_eq_true rfl) hM⟩ ⟨by show k + 1 ≤ R.cells; omega, by show n + 6 ≤ R.slots; omega⟩ rfl (Nat.le_of_ble_eq_true rfl) dL_law_513 (fun ad9 hg9 => ?_)
  rw [← hg9 0 m_0, ← hg9 19 m_19, ← hg9 100 m_100]
  refine j_widen (k + 5) (n + 39) (by show k + 1 ≤ k + 5; omega) (by show n + 6 ≤ n + 39; omega) ?_
  refine j_istore C (i := 5) dL_law_516 (by decide) rfl ?_
  refine j_aload_n C 3 rfl dL_law_518 ?_
  refine j_aload_n C 1 rfl dL_law_519 ?_
  refine j_iload C 5 rfl dL_law_520 ?_
  refine j_iconst C (v := 1) rfl dL_law_522 ?_
  refine j_iadd C dL_law_523 ?_
  refine j_sld C hX hv1 dL_law_524 ?_
  refine j_callV (q := 100) (As := [.int (xs (i + 1).toNatClampNeg)]) (rest := []) C (k_X9_kind hw) cw_X9_kind ml_L_116 m_100 ce_100 rfl rfl ⟨Nat.le_trans (Nat.le_of_ble_eq_true rfl) hF, Nat.le_trans (Nat.le_of_ble_eq_true rfl) hM⟩ hC rfl (Nat.le_of_ble_eq_true rfl) dL_law_525 ?_
  refine j_widen (k + 5) (n + 39) (Nat.le_refl (k + 5)) (Nat.le_refl (n + 39)) ?_
  refine j_istore C (i := 6) dL_law_528 (by decide) rfl ?_
  refine j_aload_n C 4 rfl dL_law_530 ?_
  refine j_callV (q := 100) (As := []) (rest := []) C (k_X9_thrown ht) cw_X9_thrown ml_L_96 m_100 ce_100 rfl rfl ⟨Nat.le_trans (Nat.le_of_ble_eq_true rfl) hF, Nat.le_trans (Nat.le_of_ble_eq_true rfl) hM⟩ hC rfl (Nat.le_of_ble_eq_true rfl) dL_law_531 ?_
  refine j_widen (k + 5) (n + 39) (Nat.le_refl (k + 5)) (Nat.le_refl (n + 39)) ?_
  refine j_iload C 1 rfl dL_law_534 ?_
  refine j_icmp_eq C (X := Unit) (f := ()) (g := ()) (r := ()) 541 dL_law_536 rfl (ite_self _) (fun _ _ => ?_) (fun h9 _ => absurd e1 h9)
  refine j_iload C 1 rfl dL_law_541 ?_
  refine j_if_ne C (X := Unit) (f := ()) (g := ()) (r := ()) 558 dL_law_543 rfl (ite_self _) (fun _ _ => ?_) (fun h8 _ => ?_)
  ·
    refine j_goto C 1757 dL_law_558 rfl ?_
    refine j_sub [2, 3, 4, 5, 6] rfl ?_
    exact kk ad9 hg9
  have h8 := Classical.not_not.mp h8
  refine j_aload_n C 5 rfl dL_law_546 ?_
  refine j_iconst C (v := 0) rfl dL_law_547 ?_
  refine j_lald (X := Unit) (x := some ()) (r := ()) C m_19 ce_19 rfl dL_law_548 (fun _ => ?_)
  refine j_iload C 0 rfl dL_law_549 ?_
  refine j_i2l C dL_law_551 ?_
  refine j_lcmp C dL_law_552 ?_
  refine j_if_eq C (X := Unit) (f := ()) (g := ()) (r := ()) 558 dL_law_553 rfl (ite_self _) (fun _ _ => ?_) (fun h9 _ => absurd (lcmp_eq (e2 h8)) h9)
  refine j_goto C 1757 dL_law_558 rfl ?_
  refine j_sub [2, 3, 4, 5, 6] rfl ?_
  exact kk ad9 hg9
set_option maxHeartbeats 1000000 in
theorem q_6 (C : CX G A RL cL_law 9 p s m args c) (hX : SX A sc L xs s) (hst : l.stackTraces = false) (hF : 14 ≤ R.frames) (hM : 530 ≤ R.locals) (hC : k + 5 ≤ R.cells ∧ n + 39 ≤ R.slots) (hv1 : vp_in (i + 1) L) (hv2 : vp_in (i + 2) L) (hv3 : vp_in (i + 3) L) (hv4 : vp_in (i + 4) L) {z : Int32 × KS} (hz : f_L_menuOf a (xs (i + 1).toNatClampNeg) = some z) {w : Int32 × MS} (hw : f_X9_menuOf b (xs (i + 1).toNatClampNeg) = some w) {t : Int32} (ht : f_X9_thrown w.2  = some t) (e1 : t = z.1) (e2 : z.1 = 0 → (Kou z.2 0) = w.1.toInt64) (kk : ∀ ad' : Nat → Nat, AG ad ad' (Kn a) → J p l e R s m args below meth c G A 9 Q (k + 5) (n + 39) ad' z.2 w.2 1757 [(0, .ref sc), (1, .ref (ad' 0)), (2, .ref (ad' 100)), (3, .ref (ad' 19)), (4, .int i)] []) : J p l e R s m args below meth c G A 9 Q k n ad a b 561 [(0, .ref sc), (1, .ref (ad 0)), (2, .ref (ad 100)), (3, .ref (ad 19)), (4, .int i)] [] := by
  refine j_aload_n C 1 rfl dL_law_561 ?_
  refine j_aload_n C 0 rfl dL_law_562 ?_
  refine j_iload C 4 rfl dL_law_563 ?_
  refine j_iconst C (v := 1) rfl dL_law_565 ?_
  refine j_iadd C dL_law_566 ?_
  refine j_sld C hX hv1 dL_law_567 ?_
  refine j_aload_n C 3 rfl dL_law_568 ?_
  refine j_wcallS (As := [.ref (ad 0), .int (xs (i + 1).toNatClampNeg), .ref (ad 19)]) (rest := []) C (k_L_menuOf hst hz) cw_L_menuOf ml_L_117 rfl ⟨Nat.le_trans (Nat.le_of_ble_eq_true rfl) hF, Nat.le_trans (Nat.le_of_ble_eq_true rfl) hM⟩ ⟨by show k + 1 ≤ R.cells; omega, by show n + 6 ≤ R.slots; omega⟩ rfl (Nat.le_of_ble_eq_true rfl) dL_law_569 (fun ad9 hg9 => ?_)
  rw [← hg9 0 m_0, ← hg9 19 m_19, ← hg9 100 m_100]
  refine j_widen (k + 5) (n + 39) (by show k + 1 ≤ k + 5; omega) (by show n + 6 ≤ n + 39; omega) ?_
  refine j_istore C (i := 5) dL_law_572 (by decide) rfl ?_
  refine j_aload_n C 3 rfl dL_law_574 ?_
  refine j_aload_n C 1 rfl dL_law_575 ?_
  refine j_iload C 5 rfl dL_law_576 ?_
  refine j_iconst C (v := 1) rfl dL_law_578 ?_
  refine j_iadd C dL_law_579 ?_
  refine j_sld C hX hv1 dL_law_580 ?_
  refine j_callV (q := 100) (As := [.int (xs (i + 1).toNatClampNeg)]) (rest := []) C (k_X9_menuOf hw) cw_X9_menuOf ml_L_119 m_100 ce_100 rfl rfl ⟨Nat.le_trans (Nat.le_of_ble_eq_true rfl) hF, Nat.le_trans (Nat.le_of_ble_eq_true rfl) hM⟩ hC rfl (Nat.le_of_ble_eq_true rfl) dL_law_581 ?_
  refine j_widen (k + 5) (n + 39) (Nat.le_refl (k + 5)) (Nat.le_refl (n + 39)) ?_
  refine j_istore C (i := 6) dL_law_584 (by decide) rfl ?_
  refine j_aload_n C 4 rfl dL_law_586 ?_
  refine j_callV (q := 100) (As := []) (rest := []) C (k_X9_thrown ht) cw_X9_thrown ml_L_96 m_100 ce_100 rfl rfl ⟨Nat.le_trans (Nat.le_of_ble_eq_true rfl) hF, Nat.le_trans (Nat.le_of_ble_eq_true rfl) hM⟩ hC rfl (Nat.le_of_ble_eq_true rfl) dL_law_587 ?_
  refine j_widen (k + 5) (n + 39) (Nat.le_refl (k + 5)) (Nat.le_refl (n + 39)) ?_
  refine j_iload C 1 rfl dL_law_590 ?_
  refine j_icmp_eq C (X := Unit) (f := ()) (g := ()) (r := ()) 597 dL_law_592 rfl (ite_self _) (fun _ _ => ?_) (fun h9 _ => absurd e1 h9)
  refine j_iload C 1 rfl dL_law_597 ?_
  refine j_if_ne C (X := Unit) (f := ()) (g := ()) (r := ()) 614 dL_law_599 rfl (ite_self _) (fun _ _ => ?_) (fun h8 _ => ?_)
  ·
    refine j_goto C 1757 dL_law_614 rfl ?_
    refine j_sub [2, 3, 4, 5, 6] rfl ?_
    exact kk ad9 hg9
  have h8 := Classical.not_not.mp h8
  refine j_aload_n C 5 rfl dL_law_602 ?_
  refine j_iconst C (v := 0) rfl dL_law_603 ?_
  refine j_lald (X := Unit) (x := some ()) (r := ()) C m_19 ce_19 rfl dL_law_604 (fun _ => ?_)
  refine j_iload C 0 rfl dL_law_605 ?_
  refine j_i2l C dL_law_607 ?_
  refine j_lcmp C dL_law_608 ?_
  refine j_if_eq C (X := Unit) (f := ()) (g := ()) (r := ()) 614 dL_law_609 rfl (ite_self _) (fun _ _ => ?_) (fun h9 _ => absurd (lcmp_eq (e2 h8)) h9)
  refine j_goto C 1757 dL_law_614 rfl ?_
  refine j_sub [2, 3, 4, 5, 6] rfl ?_
  exact kk ad9 hg9
set_option maxHeartbeats 1000000 in
theorem q_7 (C : CX G A RL cL_law 9 p s m args c) (hX : SX A sc L xs s) (hst : l.stackTraces = false) (hF : 14 ≤ R.frames) (hM : 530 ≤ R.locals) (hC : k + 5 ≤ R.cells ∧ n + 39 ≤ R.slots) (hv1 : vp_in (i + 1) L) (hv2 : vp_in (i + 2) L) (hv3 : vp_in (i + 3) L) (hv4 : vp_in (i + 4) L) {z : Int32 × KS} (hz : f_L_value a (xs (i + 1).toNatClampNeg) = some z) {w : Int32 × MS} (hw : f_X9_value b (xs (i + 1).toNatClampNeg) = some w) {t : Int32} (ht : f_X9_thrown w.2  = some t) (e1 : t = z.1) (e2 : z.1 = 0 → (Kou z.2 0) = w.1.toInt64) (kk : ∀ ad' : Nat → Nat, AG ad ad' (Kn a) → J p l e R s m args below meth c G A 9 Q (k + 5) (n + 39) ad' z.2 w.2 1757 [(0, .ref sc), (1, .ref (ad' 0)), (2, .ref (ad' 100)), (3, .ref (ad' 19)), (4, .int i)] []) : J p l e R s m args below meth c G A 9 Q k n ad a b 617 [(0, .ref sc), (1, .ref (ad 0)), (2, .ref (ad 100)), (3, .ref (ad 19)), (4, .int i)] [] := by
  refine j_aload_n C 1 rfl dL_law_617 ?_
  refine j_aload_n C 0 rfl dL_law_618 ?_
  refine j_iload C 4 rfl dL_law_619 ?_
  refine j_iconst C (v := 1) rfl dL_law_621 ?_
  refine j_iadd C dL_law_622 ?_
  refine j_sld C hX hv1 dL_law_623 ?_
  refine j_aload_n C 3 rfl dL_law_624 ?_
  refine j_wcallS (As := [.ref (ad 0), .int (xs (i + 1).toNatClampNeg), .ref (ad 19)]) (rest := []) C (k_L_value hst hz) cw_L_value ml_L_120 rfl ⟨Nat.le_trans (Nat.le_of_ble_eq_true rfl) hF, Nat.le_trans (Nat.le_of_ble_eq_true rfl) hM⟩ ⟨by show k + 2 ≤ R.cells; omega, by show n + 12 ≤ R.slots; omega⟩ rfl (Nat.le_of_ble_eq_true rfl) dL_law_625 (fun ad9 hg9 => ?_)
  rw [← hg9 0 m_0, ← hg9 19 m_19, ← hg9 100 m_100]
  refine j_widen (k + 5) (n + 39) (by show k + 2 ≤ k + 5; omega) (by show n + 12 ≤ n + 39; omega) ?_
  refine j_istore C (i := 5) dL_law_628 (by decide) rfl ?_
  refine j_aload_n C 3 rfl dL_law_630 ?_
  refine j_aload_n C 1 rfl dL_law_631 ?_
  refine j_iload C 5 rfl dL_law_632 ?_
  refine j_iconst C (v := 1) rfl dL_law_634 ?_
  refine j_iadd C dL_law_635 ?_
  refine j_sld C hX hv1 dL_law_636 ?_
  refine j_callV (q := 100) (As := [.int (xs (i + 1).toNatClampNeg)]) (rest := []) C (k_X9_value hw) cw_X9_value ml_L_122 m_100 ce_100 rfl rfl ⟨Nat.le_trans (Nat.le_of_ble_eq_true rfl) hF, Nat.le_trans (Nat.le_of_ble_eq_true rfl) hM⟩ hC rfl (Nat.le_of_ble_eq_true rfl) dL_law_637 ?_
  refine j_widen (k + 5) (n + 39) (Nat.le_refl (k + 5)) (Nat.le_refl (n + 39)) ?_
  refine j_istore C (i := 6) dL_law_640 (by decide) rfl ?_
  refine j_aload_n C 4 rfl dL_law_642 ?_
  refine j_callV (q := 100) (As := []) (rest := []) C (k_X9_thrown ht) cw_X9_thrown ml_L_96 m_100 ce_100 rfl rfl ⟨Nat.le_trans (Nat.le_of_ble_eq_true rfl) hF, Nat.le_trans (Nat.le_of_ble_eq_true rfl) hM⟩ hC rfl (Nat.le_of_ble_eq_true rfl) dL_law_643 ?_
  refine j_widen (k + 5) (n + 39) (Nat.le_refl (k + 5)) (Nat.le_refl (n + 39)) ?_
  refine j_iload C 1 rfl dL_law_646 ?_
  refine j_icmp_eq C (X := Unit) (f := ()) (g := ()) (r := ()) 653 dL_law_648 rfl (ite_self _) (fun _ _ => ?_) (fun h9 _ => absurd e1 h9)
  refine j_iload C 1 rfl dL_law_653 ?_
  refine j_if_ne C (X := Unit) (f := ()) (g := ()) (r := ()) 670 dL_law_655 rfl (ite_self _) (fun _ _ => ?_) (fun h8 _ => ?_)
  ·
    refine j_goto C 1757 dL_law_670 rfl ?_
    refine j_sub [2, 3, 4, 5, 6] rfl ?_
    exact kk ad9 hg9
  have h8 := Classical.not_not.mp h8
  refine j_aload_n C 5 rfl dL_law_658 ?_
  refine j_iconst C (v := 0) rfl dL_law_659 ?_
  refine j_lald (X := Unit) (x := some ()) (r := ()) C m_19 ce_19 rfl dL_law_660 (fun _ => ?_)
  refine j_iload C 0 rfl dL_law_661 ?_
  refine j_i2l C dL_law_663 ?_
  refine j_lcmp C dL_law_664 ?_
  refine j_if_eq C (X := Unit) (f := ()) (g := ()) (r := ()) 670 dL_law_665 rfl (ite_self _) (fun _ _ => ?_) (fun h9 _ => absurd (lcmp_eq (e2 h8)) h9)
  refine j_goto C 1757 dL_law_670 rfl ?_
  refine j_sub [2, 3, 4, 5, 6] rfl ?_
  exact kk ad9 hg9
set_option maxHeartbeats 1000000 in
theorem q_8 (C : CX G A RL cL_law 9 p s m args c) (hX : SX A sc L xs s) (hst : l.stackTraces = false) (hF : 14 ≤ R.frames) (hM : 530 ≤ R.locals) (hC : k + 5 ≤ R.cells ∧ n + 39 ≤ R.slots) (hv1 : vp_in (i + 1) L) (hv2 : vp_in (i + 2) L) (hv3 : vp_in (i + 3) L) (hv4 : vp_in (i + 4) L) {z : Int32 × KS} (hz : f_L_isClosed a (xs (i + 1).toNatClampNeg) = some z) {w : Int32 × MS} (hw : f_X9_isClosed b (xs (i + 1).toNatClampNeg) = some w) {t : Int32} (ht : f_X9_thrown w.2  = some t) (e1 : t = z.1) (e3 : z.1 = 0 → w.1 = 0 → Kou z.2 0 = 0) (e4 : z.1 = 0 → ¬ w.1 = 0 → Kou z.2 0 = 1) (kk : ∀ ad' : Nat → Nat, AG ad ad' (Kn a) → J p l e R s m args below meth c G A 9 Q (k + 5) (n + 39) ad' z.2 w.2 1757 [(0, .ref sc), (1, .ref (ad' 0)), (2, .ref (ad' 100)), (3, .ref (ad' 19)), (4, .int i)] []) : J p l e R s m args below meth c G A 9 Q k n ad a b 673 [(0, .ref sc), (1, .ref (ad 0)), (2, .ref (ad 100)), (3, .ref (ad 19)), (4, .int i)] [] := by
  refine j_aload_n C 1 rfl dL_law_673 ?_
  refine j_aload_n C 0 rfl dL_law_674 ?_
  refine j_iload C 4 rfl dL_law_675 ?_
  refine j_iconst C (v := 1) rfl dL_law_677 ?_
  refine j_iadd C dL_law_678 ?_
  refine j_sld C hX hv1 dL_law_679 ?_
  refine j_aload_n C 3 rfl dL_law_680 ?_
  refine j_wcallS (As := [.ref (ad 0), .int (xs (i + 1).toNatClampNeg), .ref (ad 19)]) (rest := []) C (k_L_isClosed hst hz) cw_L_isClosed ml_L_123 rfl ⟨Nat.le_trans (Nat.le_of_ble_eq_true rfl) hF, Nat.le_trans (Nat.le_of_ble_eq_true rfl) hM⟩ ⟨by show k + 1 ≤ R.cells; omega, by show n + 6 ≤ R.slots; omega⟩ rfl (Nat.le_of_ble_eq_true rfl) dL_law_681 (fun ad9 hg9 => ?_)
  rw [← hg9 0 m_0, ← hg9 19 m_19, ← hg9 100 m_100]
  refine j_widen (k + 5) (n + 39) (by show k + 1 ≤ k + 5; omega) (by show n + 6 ≤ n + 39; omega) ?_
  refine j_istore C (i := 5) dL_law_684 (by decide) rfl ?_
  refine j_aload_n C 3 rfl dL_law_686 ?_
  refine j_aload_n C 1 rfl dL_law_687 ?_
  refine j_iload C 5 rfl dL_law_688 ?_
  refine j_iconst C (v := 1) rfl dL_law_690 ?_
  refine j_iadd C dL_law_691 ?_
  refine j_sld C hX hv1 dL_law_692 ?_
  refine j_callV (q := 100) (As := [.int (xs (i + 1).toNatClampNeg)]) (rest := []) C (k_X9_isClosed hw) cw_X9_isClosed ml_L_125 m_100 ce_100 rfl rfl ⟨Nat.le_trans (Nat.le_of_ble_eq_true rfl) hF, Nat.le_trans (Nat.le_of_ble_eq_true rfl) hM⟩ hC rfl (Nat.le_of_ble_eq_true rfl) dL_law_693 ?_
  refine j_widen (k + 5) (n + 39) (Nat.le_refl (k + 5)) (Nat.le_refl (n + 39)) ?_
  refine j_istore C (i := 6) dL_law_696 (by decide) rfl ?_
  refine j_aload_n C 4 rfl dL_law_698 ?_
  refine j_callV (q := 100) (As := []) (rest := []) C (k_X9_thrown ht) cw_X9_thrown ml_L_96 m_100 ce_100 rfl rfl ⟨Nat.le_trans (Nat.le_of_ble_eq_true rfl) hF, Nat.le_trans (Nat.le_of_ble_eq_true rfl) hM⟩ hC rfl (Nat.le_of_ble_eq_true rfl) dL_law_699 ?_
  refine j_widen (k + 5) (n + 39) (Nat.le_refl (k + 5)) (Nat.le_refl (n + 39)) ?_
  refine j_iload C 1 rfl dL_law_702 ?_
  refine j_icmp_eq C (X := Unit) (f := ()) (g := ()) (r := ()) 709 dL_law_704 rfl (ite_self _) (fun _ _ => ?_) (fun h9 _ => absurd e1 h9)
  refine j_iload C 1 rfl dL_law_709 ?_
  refine j_if_ne C (X := Unit) (f := ()) (g := ()) (r := ()) 733 dL_law_711 rfl (ite_self _) (fun _ _ => ?_) (fun h8 _ => ?_)
  ·
    refine j_goto C 1757 dL_law_733 rfl ?_
    refine j_sub [2, 3, 4, 5, 6] rfl ?_
    exact kk ad9 hg9
  have h8 := Classical.not_not.mp h8
  refine j_aload_n C 5 rfl dL_law_714 ?_
  refine j_iconst C (v := 0) rfl dL_law_715 ?_
  refine j_lald (X := Unit) (x := some ()) (r := ()) C m_19 ce_19 rfl dL_law_716 (fun _ => ?_)
  refine j_iload C 0 rfl dL_law_717 ?_
  refine j_if_eq C (X := Unit) (f := ()) (g := ()) (r := ()) 726 dL_law_719 rfl (ite_self _) (fun h7 _ => ?_) (fun h7 _ => ?_)
  ·
    refine j_lconst C (v := 0) rfl dL_law_726 ?_
    refine j_lcmp C dL_law_727 ?_
    refine j_if_eq C (X := Unit) (f := ()) (g := ()) (r := ()) 733 dL_law_728 rfl (ite_self _) (fun _ _ => ?_) (fun h9 _ => absurd (lcmp_eq (e3 h8 h7)) h9)
    refine j_goto C 1757 dL_law_733 rfl ?_
    refine j_sub [2, 3, 4, 5, 6] rfl ?_
    exact kk ad9 hg9
  refine j_lconst C (v := 1) rfl dL_law_722 ?_
  refine j_goto C 727 dL_law_723 rfl ?_
  refine j_lcmp C dL_law_727 ?_
  refine j_if_eq C (X := Unit) (f := ()) (g := ()) (r := ()) 733 dL_law_728 rfl (ite_self _) (fun _ _ => ?_) (fun h9 _ => absurd (lcmp_eq (e4 h8 h7)) h9)
  refine j_goto C 1757 dL_law_733 rfl ?_
  refine j_sub [2, 3, 4, 5, 6] rfl ?_
  exact kk ad9 hg9
set_option maxHeartbeats 1000000 in
theorem q_9 (C : CX G A RL cL_law 9 p s m args c) (hX : SX A sc L xs s) (hst : l.stackTraces = false) (hF : 14 ≤ R.frames) (hM : 530 ≤ R.locals) (hC : k + 5 ≤ R.cells ∧ n + 39 ≤ R.slots) (hv1 : vp_in (i + 1) L) (hv2 : vp_in (i + 2) L) (hv3 : vp_in (i + 3) L) (hv4 : vp_in (i + 4) L) {z : Int32 × KS} (hz : f_L_turn a (xs (i + 1).toNatClampNeg) = some z) {w : Int32 × MS} (hw : f_X9_turn b (xs (i + 1).toNatClampNeg) = some w) {t : Int32} (ht : f_X9_thrown w.2  = some t) (e1 : t = z.1) (e2 : z.1 = 0 → (Kou z.2 0) = w.1.toInt64) (kk : ∀ ad' : Nat → Nat, AG ad ad' (Kn a) → J p l e R s m args below meth c G A 9 Q (k + 5) (n + 39) ad' z.2 w.2 1757 [(0, .ref sc), (1, .ref (ad' 0)), (2, .ref (ad' 100)), (3, .ref (ad' 19)), (4, .int i)] []) : J p l e R s m args below meth c G A 9 Q k n ad a b 736 [(0, .ref sc), (1, .ref (ad 0)), (2, .ref (ad 100)), (3, .ref (ad 19)), (4, .int i)] [] := by
  refine j_aload_n C 1 rfl dL_law_736 ?_
  refine j_aload_n C 0 rfl dL_law_737 ?_
  refine j_iload C 4 rfl dL_law_738 ?_
  refine j_iconst C (v := 1) rfl dL_law_740 ?_
  refine j_iadd C dL_law_741 ?_
  refine j_sld C hX hv1 dL_law_742 ?_
  refine j_aload_n C 3 rfl dL_law_743 ?_
  refine j_wcallS (As := [.ref (ad 0), .int (xs (i + 1).toNatClampNeg), .ref (ad 19)]) (rest := []) C (k_L_turn hst hz) cw_L_turn ml_L_126 rfl ⟨Nat.le_trans (Nat.le_of_ble_eq_true rfl) hF, Nat.le_trans (Nat.le_of_ble_eq_true rfl) hM⟩ ⟨by show k + 1 ≤ R.cells; omega, by show n + 6 ≤ R.slots; omega⟩ rfl (Nat.le_of_ble_eq_true rfl) dL_law_744 (fun ad9 hg9 => ?_)
  rw [← hg9 0 m_0, ← hg9 19 m_19, ← hg9 100 m_100]
  refine j_widen (k + 5) (n + 39) (by show k + 1 ≤ k + 5; omega) (by show n + 6 ≤ n + 39; omega) ?_
  refine j_istore C (i := 5) dL_law_747 (by decide) rfl ?_
  refine j_aload_n C 3 rfl dL_law_749 ?_
  refine j_aload_n C 1 rfl dL_law_750 ?_
  refine j_iload C 5 rfl dL_law_751 ?_
  refine j_iconst C (v := 1) rfl dL_law_753 ?_
  refine j_iadd C dL_law_754 ?_
  refine j_sld C hX hv1 dL_law_755 ?_
  refine j_callV (q := 100) (As := [.int (xs (i + 1).toNatClampNeg)]) (rest := []) C (k_X9_turn hw) cw_X9_turn ml_L_128 m_100 ce_100 rfl rfl ⟨Nat.le_trans (Nat.le_of_ble_eq_true rfl) hF, Nat.le_trans (Nat.le_of_ble_eq_true rfl) hM⟩ hC rfl (Nat.le_of_ble_eq_true rfl) dL_law_756 ?_
  refine j_widen (k + 5) (n + 39) (Nat.le_refl (k + 5)) (Nat.le_refl (n + 39)) ?_
  refine j_istore C (i := 6) dL_law_759 (by decide) rfl ?_
  refine j_aload_n C 4 rfl dL_law_761 ?_
  refine j_callV (q := 100) (As := []) (rest := []) C (k_X9_thrown ht) cw_X9_thrown ml_L_96 m_100 ce_100 rfl rfl ⟨Nat.le_trans (Nat.le_of_ble_eq_true rfl) hF, Nat.le_trans (Nat.le_of_ble_eq_true rfl) hM⟩ hC rfl (Nat.le_of_ble_eq_true rfl) dL_law_762 ?_
  refine j_widen (k + 5) (n + 39) (Nat.le_refl (k + 5)) (Nat.le_refl (n + 39)) ?_
  refine j_iload C 1 rfl dL_law_765 ?_
  refine j_icmp_eq C (X := Unit) (f := ()) (g := ()) (r := ()) 772 dL_law_767 rfl (ite_self _) (fun _ _ => ?_) (fun h9 _ => absurd e1 h9)
  refine j_iload C 1 rfl dL_law_772 ?_
  refine j_if_ne C (X := Unit) (f := ()) (g := ()) (r := ()) 789 dL_law_774 rfl (ite_self _) (fun _ _ => ?_) (fun h8 _ => ?_)
  ·
    refine j_goto C 1757 dL_law_789 rfl ?_
    refine j_sub [2, 3, 4, 5, 6] rfl ?_
    exact kk ad9 hg9
  have h8 := Classical.not_not.mp h8
  refine j_aload_n C 5 rfl dL_law_777 ?_
  refine j_iconst C (v := 0) rfl dL_law_778 ?_
  refine j_lald (X := Unit) (x := some ()) (r := ()) C m_19 ce_19 rfl dL_law_779 (fun _ => ?_)
  refine j_iload C 0 rfl dL_law_780 ?_
  refine j_i2l C dL_law_782 ?_
  refine j_lcmp C dL_law_783 ?_
  refine j_if_eq C (X := Unit) (f := ()) (g := ()) (r := ()) 789 dL_law_784 rfl (ite_self _) (fun _ _ => ?_) (fun h9 _ => absurd (lcmp_eq (e2 h8)) h9)
  refine j_goto C 1757 dL_law_789 rfl ?_
  refine j_sub [2, 3, 4, 5, 6] rfl ?_
  exact kk ad9 hg9
set_option maxHeartbeats 1000000 in
theorem q_10 (C : CX G A RL cL_law 9 p s m args c) (hX : SX A sc L xs s) (hst : l.stackTraces = false) (hF : 14 ≤ R.frames) (hM : 530 ≤ R.locals) (hC : k + 5 ≤ R.cells ∧ n + 39 ≤ R.slots) (hv1 : vp_in (i + 1) L) (hv2 : vp_in (i + 2) L) (hv3 : vp_in (i + 3) L) (hv4 : vp_in (i + 4) L) {z : Int32 × KS} (hz : f_X8_press a  = some z) {w : Int32 × MS} (hw : f_X9_press b  = some w) (e1 : z.1 = w.1) (kk : ∀ ad' : Nat → Nat, AG ad ad' (Kn a) → J p l e R s m args below meth c G A 9 Q (k + 5) (n + 39) ad' z.2 w.2 1757 [(0, .ref sc), (1, .ref (ad' 0)), (2, .ref (ad' 100)), (3, .ref (ad' 19)), (4, .int i)] []) : J p l e R s m args below meth c G A 9 Q k n ad a b 792 [(0, .ref sc), (1, .ref (ad 0)), (2, .ref (ad 100)), (3, .ref (ad 19)), (4, .int i)] [] := by
  refine j_widen (k + 5) (n + 39) (Nat.le_add_right _ _) (Nat.le_add_right _ _) ?_
  refine j_aload_n C 1 rfl dL_law_792 ?_
  refine j_callV (q := 0) (As := []) (rest := []) C (k_X8_press hz) cw_X8_press ml_L_129 m_0 ce_0 rfl rfl ⟨Nat.le_trans (Nat.le_of_ble_eq_true rfl) hF, Nat.le_trans (Nat.le_of_ble_eq_true rfl) hM⟩ hC rfl (Nat.le_of_ble_eq_true rfl) dL_law_793 ?_
  refine j_widen (k + 5) (n + 39) (Nat.le_refl (k + 5)) (Nat.le_refl (n + 39)) ?_
  refine j_aload_n C 2 rfl dL_law_796 ?_
  refine j_callV (q := 100) (As := []) (rest := [.int z.1]) C (k_X9_press hw) cw_X9_press ml_L_132 m_100 ce_100 rfl rfl ⟨Nat.le_trans (Nat.le_of_ble_eq_true rfl) hF, Nat.le_trans (Nat.le_of_ble_eq_true rfl) hM⟩ hC rfl (Nat.le_of_ble_eq_true rfl) dL_law_797 ?_
  refine j_widen (k + 5) (n + 39) (Nat.le_refl (k + 5)) (Nat.le_refl (n + 39)) ?_
  refine j_icmp_eq C (X := Unit) (f := ()) (g := ()) (r := ()) 1757 dL_law_800 rfl (ite_self _) (fun _ _ => ?_) (fun h9 _ => absurd e1 h9)
  refine j_sub [0, 1, 2, 3, 4] rfl ?_
  exact kk ad (fun _ _ => rfl)
set_option maxHeartbeats 1000000 in
theorem q_11 (C : CX G A RL cL_law 9 p s m args c) (hX : SX A sc L xs s) (hst : l.stackTraces = false) (hF : 14 ≤ R.frames) (hM : 530 ≤ R.locals) (hC : k + 5 ≤ R.cells ∧ n + 39 ≤ R.slots) (hv1 : vp_in (i + 1) L) (hv2 : vp_in (i + 2) L) (hv3 : vp_in (i + 3) L) (hv4 : vp_in (i + 4) L) {z : Int32 × KS} (hz : f_X8_hold a  = some z) {w : Int32 × MS} (hw : f_X9_hold b  = some w) (e1 : z.1 = w.1) (kk : ∀ ad' : Nat → Nat, AG ad ad' (Kn a) → J p l e R s m args below meth c G A 9 Q (k + 5) (n + 39) ad' z.2 w.2 1757 [(0, .ref sc), (1, .ref (ad' 0)), (2, .ref (ad' 100)), (3, .ref (ad' 19)), (4, .int i)] []) : J p l e R s m args below meth c G A 9 Q k n ad a b 805 [(0, .ref sc), (1, .ref (ad 0)), (2, .ref (ad 100)), (3, .ref (ad 19)), (4, .int i)] [] := by
  refine j_widen (k + 5) (n + 39) (Nat.le_add_right _ _) (Nat.le_add_right _ _) ?_
  refine j_aload_n C 1 rfl dL_law_805 ?_
  refine j_callV (q := 0) (As := []) (rest := []) C (k_X8_hold hz) cw_X8_hold ml_L_133 m_0 ce_0 rfl rfl ⟨Nat.le_trans (Nat.le_of_ble_eq_true rfl) hF, Nat.le_trans (Nat.le_of_ble_eq_true rfl) hM⟩ hC rfl (Nat.le_of_ble_eq_true rfl) dL_law_806 ?_
  refine j_widen (k + 5) (n + 39) (Nat.le_refl (k + 5)) (Nat.le_refl (n + 39)) ?_
  refine j_aload_n C 2 rfl dL_law_809 ?_
  refine j_callV (q := 100) (As := []) (rest := [.int z.1]) C (k_X9_hold hw) cw_X9_hold ml_L_136 m_100 ce_100 rfl rfl ⟨Nat.le_trans (Nat.le_of_ble_eq_true rfl) hF, Nat.le_trans (Nat.le_of_ble_eq_true rfl) hM⟩ hC rfl (Nat.le_of_ble_eq_true rfl) dL_law_810 ?_
  refine j_widen (k + 5) (n + 39) (Nat.le_refl (k + 5)) (Nat.le_refl (n + 39)) ?_
  refine j_icmp_eq C (X := Unit) (f := ()) (g := ()) (r := ()) 1757 dL_law_813 rfl (ite_self _) (fun _ _ => ?_) (fun h9 _ => absurd e1 h9)
  refine j_sub [0, 1, 2, 3, 4] rfl ?_
  exact kk ad (fun _ _ => rfl)
set_option maxHeartbeats 1000000 in
theorem q_12 (C : CX G A RL cL_law 9 p s m args c) (hX : SX A sc L xs s) (hst : l.stackTraces = false) (hF : 14 ≤ R.frames) (hM : 530 ≤ R.locals) (hC : k + 5 ≤ R.cells ∧ n + 39 ≤ R.slots) (hv1 : vp_in (i + 1) L) (hv2 : vp_in (i + 2) L) (hv3 : vp_in (i + 3) L) (hv4 : vp_in (i + 4) L) {z : Int32 × KS} (hz : f_L_tick a (xs (i + 1).toNatClampNeg) = some z) {w : Int32 × MS} (hw : f_X9_tick b (xs (i + 1).toNatClampNeg) = some w) {t : Int32} (ht : f_X9_thrown w.2  = some t) (e1 : t = z.1) (e2 : z.1 = 0 → (Kou z.2 0) = w.1.toInt64) (kk : ∀ ad' : Nat → Nat, AG ad ad' (Kn a) → J p l e R s m args below meth c G A 9 Q (k + 5) (n + 39) ad' z.2 w.2 1757 [(0, .ref sc), (1, .ref (ad' 0)), (2, .ref (ad' 100)), (3, .ref (ad' 19)), (4, .int i)] []) : J p l e R s m args below meth c G A 9 Q k n ad a b 818 [(0, .ref sc), (1, .ref (ad 0)), (2, .ref (ad 100)), (3, .ref (ad 19)), (4, .int i)] [] := by
  refine j_aload_n C 1 rfl dL_law_818 ?_
  refine j_aload_n C 0 rfl dL_law_819 ?_
  refine j_iload C 4 rfl dL_law_820 ?_
  refine j_iconst C (v := 1) rfl dL_law_822 ?_
  refine j_iadd C dL_law_823 ?_
  refine j_sld C hX hv1 dL_law_824 ?_
  refine j_aload_n C 3 rfl dL_law_825 ?_
  refine j_wcallS (As := [.ref (ad 0), .int (xs (i + 1).toNatClampNeg), .ref (ad 19)]) (rest := []) C (k_L_tick hst hz) cw_L_tick ml_L_137 rfl ⟨Nat.le_trans (Nat.le_of_ble_eq_true rfl) hF, Nat.le_trans (Nat.le_of_ble_eq_true rfl) hM⟩ ⟨by show k + 1 ≤ R.cells; omega, by show n + 6 ≤ R.slots; omega⟩ rfl (Nat.le_of_ble_eq_true rfl) dL_law_826 (fun ad9 hg9 => ?_)
  rw [← hg9 0 m_0, ← hg9 19 m_19, ← hg9 100 m_100]
  refine j_widen (k + 5) (n + 39) (by show k + 1 ≤ k + 5; omega) (by show n + 6 ≤ n + 39; omega) ?_
  refine j_istore C (i := 5) dL_law_829 (by decide) rfl ?_
  refine j_aload_n C 3 rfl dL_law_831 ?_
  refine j_aload_n C 1 rfl dL_law_832 ?_
  refine j_iload C 5 rfl dL_law_833 ?_
  refine j_iconst C (v := 1) rfl dL_law_835 ?_
  refine j_iadd C dL_law_836 ?_
  refine j_sld C hX hv1 dL_law_837 ?_
  refine j_callV (q := 100) (As := [.int (xs (i + 1).toNatClampNeg)]) (rest := []) C (k_X9_tick hw) cw_X9_tick ml_L_139 m_100 ce_100 rfl rfl ⟨Nat.le_trans (Nat.le_of_ble_eq_true rfl) hF, Nat.le_trans (Nat.le_of_ble_eq_true rfl) hM⟩ hC rfl (Nat.le_of_ble_eq_true rfl) dL_law_838 ?_
  refine j_widen (k + 5) (n + 39) (Nat.le_refl (k + 5)) (Nat.le_refl (n + 39)) ?_
  refine j_istore C (i := 6) dL_law_841 (by decide) rfl ?_
  refine j_aload_n C 4 rfl dL_law_843 ?_
  refine j_callV (q := 100) (As := []) (rest := []) C (k_X9_thrown ht) cw_X9_thrown ml_L_96 m_100 ce_100 rfl rfl ⟨Nat.le_trans (Nat.le_of_ble_eq_true rfl) hF, Nat.le_trans (Nat.le_of_ble_eq_true rfl) hM⟩ hC rfl (Nat.le_of_ble_eq_true rfl) dL_law_844 ?_
  refine j_widen (k + 5) (n + 39) (Nat.le_refl (k + 5)) (Nat.le_refl (n + 39)) ?_
  refine j_iload C 1 rfl dL_law_847 ?_
  refine j_icmp_eq C (X := Unit) (f := ()) (g := ()) (r := ()) 854 dL_law_849 rfl (ite_self _) (fun _ _ => ?_) (fun h9 _ => absurd e1 h9)
  refine j_iload C 1 rfl dL_law_854 ?_
  refine j_if_ne C (X := Unit) (f := ()) (g := ()) (r := ()) 871 dL_law_856 rfl (ite_self _) (fun _ _ => ?_) (fun h8 _ => ?_)
  ·
    refine j_goto C 1757 dL_law_871 rfl ?_
    refine j_sub [2, 3, 4, 5, 6] rfl ?_
    exact kk ad9 hg9
  have h8 := Classical.not_not.mp h8
  refine j_aload_n C 5 rfl dL_law_859 ?_
  refine j_iconst C (v := 0) rfl dL_law_860 ?_
  refine j_lald (X := Unit) (x := some ()) (r := ()) C m_19 ce_19 rfl dL_law_861 (fun _ => ?_)
  refine j_iload C 0 rfl dL_law_862 ?_
  refine j_i2l C dL_law_864 ?_
  refine j_lcmp C dL_law_865 ?_
  refine j_if_eq C (X := Unit) (f := ()) (g := ()) (r := ()) 871 dL_law_866 rfl (ite_self _) (fun _ _ => ?_) (fun h9 _ => absurd (lcmp_eq (e2 h8)) h9)
  refine j_goto C 1757 dL_law_871 rfl ?_
  refine j_sub [2, 3, 4, 5, 6] rfl ?_
  exact kk ad9 hg9
set_option maxHeartbeats 1000000 in
theorem q_13 (C : CX G A RL cL_law 9 p s m args c) (hX : SX A sc L xs s) (hst : l.stackTraces = false) (hF : 14 ≤ R.frames) (hM : 530 ≤ R.locals) (hC : k + 5 ≤ R.cells ∧ n + 39 ≤ R.slots) (hv1 : vp_in (i + 1) L) (hv2 : vp_in (i + 2) L) (hv3 : vp_in (i + 3) L) (hv4 : vp_in (i + 4) L) {z : Int32 × KS} (hz : f_L_set a (xs (i + 1).toNatClampNeg) (xs (i + 2).toNatClampNeg) = some z) {w : Int32 × MS} (hw : f_X9_set b (xs (i + 1).toNatClampNeg) (xs (i + 2).toNatClampNeg) = some w) {t : Int32} (ht : f_X9_thrown w.2  = some t) (e1 : t = z.1) (e2 : z.1 = 0 → (Kou z.2 0) = w.1.toInt64) (kk : ∀ ad' : Nat → Nat, AG ad ad' (Kn a) → J p l e R s m args below meth c G A 9 Q (k + 5) (n + 39) ad' z.2 w.2 1757 [(0, .ref sc), (1, .ref (ad' 0)), (2, .ref (ad' 100)), (3, .ref (ad' 19)), (4, .int i)] []) : J p l e R s m args below meth c G A 9 Q k n ad a b 874 [(0, .ref sc), (1, .ref (ad 0)), (2, .ref (ad 100)), (3, .ref (ad 19)), (4, .int i)] [] := by
  refine j_aload_n C 1 rfl dL_law_874 ?_
  refine j_aload_n C 0 rfl dL_law_875 ?_
  refine j_iload C 4 rfl dL_law_876 ?_
  refine j_iconst C (v := 1) rfl dL_law_878 ?_
  refine j_iadd C dL_law_879 ?_
  refine j_sld C hX hv1 dL_law_880 ?_
  refine j_aload_n C 0 rfl dL_law_881 ?_
  refine j_iload C 4 rfl dL_law_882 ?_
  refine j_iconst C (v := 2) rfl dL_law_884 ?_
  refine j_iadd C dL_law_885 ?_
  refine j_sld C hX hv2 dL_law_886 ?_
  refine j_aload_n C 3 rfl dL_law_887 ?_
  refine j_wcallS (As := [.ref (ad 0), .int (xs (i + 1).toNatClampNeg), .int (xs (i + 2).toNatClampNeg), .ref (ad 19)]) (rest := []) C (k_L_set hst hz) cw_L_set ml_L_140 rfl ⟨Nat.le_trans (Nat.le_of_ble_eq_true rfl) hF, Nat.le_trans (Nat.le_of_ble_eq_true rfl) hM⟩ ⟨by show k + 1 ≤ R.cells; omega, by show n + 6 ≤ R.slots; omega⟩ rfl (Nat.le_of_ble_eq_true rfl) dL_law_888 (fun ad9 hg9 => ?_)
  rw [← hg9 0 m_0, ← hg9 19 m_19, ← hg9 100 m_100]
  refine j_widen (k + 5) (n + 39) (by show k + 1 ≤ k + 5; omega) (by show n + 6 ≤ n + 39; omega) ?_
  refine j_istore C (i := 5) dL_law_891 (by decide) rfl ?_
  refine j_aload_n C 3 rfl dL_law_893 ?_
  refine j_aload_n C 1 rfl dL_law_894 ?_
  refine j_iload C 5 rfl dL_law_895 ?_
  refine j_iconst C (v := 1) rfl dL_law_897 ?_
  refine j_iadd C dL_law_898 ?_
  refine j_sld C hX hv1 dL_law_899 ?_
  refine j_aload_n C 1 rfl dL_law_900 ?_
  refine j_iload C 5 rfl dL_law_901 ?_
  refine j_iconst C (v := 2) rfl dL_law_903 ?_
  refine j_iadd C dL_law_904 ?_
  refine j_sld C hX hv2 dL_law_905 ?_
  refine j_callV (q := 100) (As := [.int (xs (i + 1).toNatClampNeg), .int (xs (i + 2).toNatClampNeg)]) (rest := []) C (k_X9_set hw) cw_X9_set ml_L_142 m_100 ce_100 rfl rfl ⟨Nat.le_trans (Nat.le_of_ble_eq_true rfl) hF, Nat.le_trans (Nat.le_of_ble_eq_true rfl) hM⟩ hC rfl (Nat.le_of_ble_eq_true rfl) dL_law_906 ?_
  refine j_widen (k + 5) (n + 39) (Nat.le_refl (k + 5)) (Nat.le_refl (n + 39)) ?_
  refine j_istore C (i := 6) dL_law_909 (by decide) rfl ?_
  refine j_aload_n C 4 rfl dL_law_911 ?_
  refine j_callV (q := 100) (As := []) (rest := []) C (k_X9_thrown ht) cw_X9_thrown ml_L_96 m_100 ce_100 rfl rfl ⟨Nat.le_trans (Nat.le_of_ble_eq_true rfl) hF, Nat.le_trans (Nat.le_of_ble_eq_true rfl) hM⟩ hC rfl (Nat.le_of_ble_eq_true rfl) dL_law_912 ?_
  refine j_widen (k + 5) (n + 39) (Nat.le_refl (k + 5)) (Nat.le_refl (n + 39)) ?_
  refine j_iload C 1 rfl dL_law_915 ?_
  refine j_icmp_eq C (X := Unit) (f := ()) (g := ()) (r := ()) 922 dL_law_917 rfl (ite_self _) (fun _ _ => ?_) (fun h9 _ => absurd e1 h9)
  refine j_iload C 1 rfl dL_law_922 ?_
  refine j_if_ne C (X := Unit) (f := ()) (g := ()) (r := ()) 939 dL_law_924 rfl (ite_self _) (fun _ _ => ?_) (fun h8 _ => ?_)
  ·
    refine j_goto C 1757 dL_law_939 rfl ?_
    refine j_sub [2, 3, 4, 5, 6] rfl ?_
    exact kk ad9 hg9
  have h8 := Classical.not_not.mp h8
  refine j_aload_n C 5 rfl dL_law_927 ?_
  refine j_iconst C (v := 0) rfl dL_law_928 ?_
  refine j_lald (X := Unit) (x := some ()) (r := ()) C m_19 ce_19 rfl dL_law_929 (fun _ => ?_)
  refine j_iload C 0 rfl dL_law_930 ?_
  refine j_i2l C dL_law_932 ?_
  refine j_lcmp C dL_law_933 ?_
  refine j_if_eq C (X := Unit) (f := ()) (g := ()) (r := ()) 939 dL_law_934 rfl (ite_self _) (fun _ _ => ?_) (fun h9 _ => absurd (lcmp_eq (e2 h8)) h9)
  refine j_goto C 1757 dL_law_939 rfl ?_
  refine j_sub [2, 3, 4, 5, 6] rfl ?_
  exact kk ad9 hg9
set_option maxHeartbeats 1000000 in
theorem q_14 (C : CX G A RL cL_law 9 p s m args c) (hX : SX A sc L xs s) (hst : l.stackTraces = false) (hF : 14 ≤ R.frames) (hM : 530 ≤ R.locals) (hC : k + 5 ≤ R.cells ∧ n + 39 ≤ R.slots) (hv1 : vp_in (i + 1) L) (hv2 : vp_in (i + 2) L) (hv3 : vp_in (i + 3) L) (hv4 : vp_in (i + 4) L) {z : Int32 × KS} (hz : f_L_takeBack a  = some z) {w : Int32 × MS} (hw : f_X9_takeBack b  = some w) {t : Int32} (ht : f_X9_thrown w.2  = some t) (e1 : t = z.1) (e2 : z.1 = 0 → (Kou z.2 0) = w.1.toInt64) (kk : ∀ ad' : Nat → Nat, AG ad ad' (Kn a) → J p l e R s m args below meth c G A 9 Q (k + 5) (n + 39) ad' z.2 w.2 1757 [(0, .ref sc), (1, .ref (ad' 0)), (2, .ref (ad' 100)), (3, .ref (ad' 19)), (4, .int i)] []) : J p l e R s m args below meth c G A 9 Q k n ad a b 942 [(0, .ref sc), (1, .ref (ad 0)), (2, .ref (ad 100)), (3, .ref (ad 19)), (4, .int i)] [] := by
  refine j_aload_n C 1 rfl dL_law_942 ?_
  refine j_aload_n C 3 rfl dL_law_943 ?_
  refine j_wcallS (As := [.ref (ad 0), .ref (ad 19)]) (rest := []) C (k_L_takeBack hst hz) cw_L_takeBack ml_L_143 rfl ⟨Nat.le_trans (Nat.le_of_ble_eq_true rfl) hF, Nat.le_trans (Nat.le_of_ble_eq_true rfl) hM⟩ ⟨by show k + 1 ≤ R.cells; omega, by show n + 6 ≤ R.slots; omega⟩ rfl (Nat.le_of_ble_eq_true rfl) dL_law_944 (fun ad9 hg9 => ?_)
  rw [← hg9 0 m_0, ← hg9 19 m_19, ← hg9 100 m_100]
  refine j_widen (k + 5) (n + 39) (by show k + 1 ≤ k + 5; omega) (by show n + 6 ≤ n + 39; omega) ?_
  refine j_istore C (i := 5) dL_law_947 (by decide) rfl ?_
  refine j_aload_n C 3 rfl dL_law_949 ?_
  refine j_callV (q := 100) (As := []) (rest := []) C (k_X9_takeBack hw) cw_X9_takeBack ml_L_146 m_100 ce_100 rfl rfl ⟨Nat.le_trans (Nat.le_of_ble_eq_true rfl) hF, Nat.le_trans (Nat.le_of_ble_eq_true rfl) hM⟩ hC rfl (Nat.le_of_ble_eq_true rfl) dL_law_950 ?_
  refine j_widen (k + 5) (n + 39) (Nat.le_refl (k + 5)) (Nat.le_refl (n + 39)) ?_
  refine j_istore C (i := 6) dL_law_953 (by decide) rfl ?_
  refine j_aload_n C 4 rfl dL_law_955 ?_
  refine j_callV (q := 100) (As := []) (rest := []) C (k_X9_thrown ht) cw_X9_thrown ml_L_96 m_100 ce_100 rfl rfl ⟨Nat.le_trans (Nat.le_of_ble_eq_true rfl) hF, Nat.le_trans (Nat.le_of_ble_eq_true rfl) hM⟩ hC rfl (Nat.le_of_ble_eq_true rfl) dL_law_956 ?_
  refine j_widen (k + 5) (n + 39) (Nat.le_refl (k + 5)) (Nat.le_refl (n + 39)) ?_
  refine j_iload C 1 rfl dL_law_959 ?_
  refine j_icmp_eq C (X := Unit) (f := ()) (g := ()) (r := ()) 966 dL_law_961 rfl (ite_self _) (fun _ _ => ?_) (fun h9 _ => absurd e1 h9)
  refine j_iload C 1 rfl dL_law_966 ?_
  refine j_if_ne C (X := Unit) (f := ()) (g := ()) (r := ()) 983 dL_law_968 rfl (ite_self _) (fun _ _ => ?_) (fun h8 _ => ?_)
  ·
    refine j_goto C 1757 dL_law_983 rfl ?_
    refine j_sub [2, 3, 4, 5, 6] rfl ?_
    exact kk ad9 hg9
  have h8 := Classical.not_not.mp h8
  refine j_aload_n C 5 rfl dL_law_971 ?_
  refine j_iconst C (v := 0) rfl dL_law_972 ?_
  refine j_lald (X := Unit) (x := some ()) (r := ()) C m_19 ce_19 rfl dL_law_973 (fun _ => ?_)
  refine j_iload C 0 rfl dL_law_974 ?_
  refine j_i2l C dL_law_976 ?_
  refine j_lcmp C dL_law_977 ?_
  refine j_if_eq C (X := Unit) (f := ()) (g := ()) (r := ()) 983 dL_law_978 rfl (ite_self _) (fun _ _ => ?_) (fun h9 _ => absurd (lcmp_eq (e2 h8)) h9)
  refine j_goto C 1757 dL_law_983 rfl ?_
  refine j_sub [2, 3, 4, 5, 6] rfl ?_
  exact kk ad9 hg9
set_option maxHeartbeats 1000000 in
theorem q_15 (C : CX G A RL cL_law 9 p s m args c) (hX : SX A sc L xs s) (hst : l.stackTraces = false) (hF : 14 ≤ R.frames) (hM : 530 ≤ R.locals) (hC : k + 5 ≤ R.cells ∧ n + 39 ≤ R.slots) (hv1 : vp_in (i + 1) L) (hv2 : vp_in (i + 2) L) (hv3 : vp_in (i + 3) L) (hv4 : vp_in (i + 4) L) {z : Int32 × KS} (hz : f_L_savePreset a (xs (i + 1).toNatClampNeg) = some z) {w : Int32 × MS} (hw : f_X9_savePreset b (xs (i + 1).toNatClampNeg) = some w) {t : Int32} (ht : f_X9_thrown w.2  = some t) (e1 : t = z.1) (e2 : z.1 = 0 → (Kou z.2 0) = w.1.toInt64) (kk : ∀ ad' : Nat → Nat, AG ad ad' (Kn a) → J p l e R s m args below meth c G A 9 Q (k + 5) (n + 39) ad' z.2 w.2 1757 [(0, .ref sc), (1, .ref (ad' 0)), (2, .ref (ad' 100)), (3, .ref (ad' 19)), (4, .int i)] []) : J p l e R s m args below meth c G A 9 Q k n ad a b 986 [(0, .ref sc), (1, .ref (ad 0)), (2, .ref (ad 100)), (3, .ref (ad 19)), (4, .int i)] [] := by
  refine j_aload_n C 1 rfl dL_law_986 ?_
  refine j_aload_n C 0 rfl dL_law_987 ?_
  refine j_iload C 4 rfl dL_law_988 ?_
  refine j_iconst C (v := 1) rfl dL_law_990 ?_
  refine j_iadd C dL_law_991 ?_
  refine j_sld C hX hv1 dL_law_992 ?_
  refine j_aload_n C 3 rfl dL_law_993 ?_
  refine j_wcallS (As := [.ref (ad 0), .int (xs (i + 1).toNatClampNeg), .ref (ad 19)]) (rest := []) C (k_L_savePreset hst hz) cw_L_savePreset ml_L_147 rfl ⟨Nat.le_trans (Nat.le_of_ble_eq_true rfl) hF, Nat.le_trans (Nat.le_of_ble_eq_true rfl) hM⟩ ⟨by show k + 1 ≤ R.cells; omega, by show n + 6 ≤ R.slots; omega⟩ rfl (Nat.le_of_ble_eq_true rfl) dL_law_994 (fun ad9 hg9 => ?_)
  rw [← hg9 0 m_0, ← hg9 19 m_19, ← hg9 100 m_100]
  refine j_widen (k + 5) (n + 39) (by show k + 1 ≤ k + 5; omega) (by show n + 6 ≤ n + 39; omega) ?_
  refine j_istore C (i := 5) dL_law_997 (by decide) rfl ?_
  refine j_aload_n C 3 rfl dL_law_999 ?_
  refine j_aload_n C 1 rfl dL_law_1000 ?_
  refine j_iload C 5 rfl dL_law_1001 ?_
  refine j_iconst C (v := 1) rfl dL_law_1003 ?_
  refine j_iadd C dL_law_1004 ?_
  refine j_sld C hX hv1 dL_law_1005 ?_
  refine j_callV (q := 100) (As := [.int (xs (i + 1).toNatClampNeg)]) (rest := []) C (k_X9_savePreset hw) cw_X9_savePreset ml_L_149 m_100 ce_100 rfl rfl ⟨Nat.le_trans (Nat.le_of_ble_eq_true rfl) hF, Nat.le_trans (Nat.le_of_ble_eq_true rfl) hM⟩ hC rfl (Nat.le_of_ble_eq_true rfl) dL_law_1006 ?_
  refine j_widen (k + 5) (n + 39) (Nat.le_refl (k + 5)) (Nat.le_refl (n + 39)) ?_
  refine j_istore C (i := 6) dL_law_1009 (by decide) rfl ?_
  refine j_aload_n C 4 rfl dL_law_1011 ?_
  refine j_callV (q := 100) (As := []) (rest := []) C (k_X9_thrown ht) cw_X9_thrown ml_L_96 m_100 ce_100 rfl rfl ⟨Nat.le_trans (Nat.le_of_ble_eq_true rfl) hF, Nat.le_trans (Nat.le_of_ble_eq_true rfl) hM⟩ hC rfl (Nat.le_of_ble_eq_true rfl) dL_law_1012 ?_
  refine j_widen (k + 5) (n + 39) (Nat.le_refl (k + 5)) (Nat.le_refl (n + 39)) ?_
  refine j_iload C 1 rfl dL_law_1015 ?_
  refine j_icmp_eq C (X := Unit) (f := ()) (g := ()) (r := ()) 1022 dL_law_1017 rfl (ite_self _) (fun _ _ => ?_) (fun h9 _ => absurd e1 h9)
  refine j_iload C 1 rfl dL_law_1022 ?_
  refine j_if_ne C (X := Unit) (f := ()) (g := ()) (r := ()) 1039 dL_law_1024 rfl (ite_self _) (fun _ _ => ?_) (fun h8 _ => ?_)
  ·
    refine j_goto C 1757 dL_law_1039 rfl ?_
    refine j_sub [2, 3, 4, 5, 6] rfl ?_
    exact kk ad9 hg9
  have h8 := Classical.not_not.mp h8
  refine j_aload_n C 5 rfl dL_law_1027 ?_
  refine j_iconst C (v := 0) rfl dL_law_1028 ?_
  refine j_lald (X := Unit) (x := some ()) (r := ()) C m_19 ce_19 rfl dL_law_1029 (fun _ => ?_)
  refine j_iload C 0 rfl dL_law_1030 ?_
  refine j_i2l C dL_law_1032 ?_
  refine j_lcmp C dL_law_1033 ?_
  refine j_if_eq C (X := Unit) (f := ()) (g := ()) (r := ()) 1039 dL_law_1034 rfl (ite_self _) (fun _ _ => ?_) (fun h9 _ => absurd (lcmp_eq (e2 h8)) h9)
  refine j_goto C 1757 dL_law_1039 rfl ?_
  refine j_sub [2, 3, 4, 5, 6] rfl ?_
  exact kk ad9 hg9
set_option maxHeartbeats 1000000 in
theorem q_16 (C : CX G A RL cL_law 9 p s m args c) (hX : SX A sc L xs s) (hst : l.stackTraces = false) (hF : 14 ≤ R.frames) (hM : 530 ≤ R.locals) (hC : k + 5 ≤ R.cells ∧ n + 39 ≤ R.slots) (hv1 : vp_in (i + 1) L) (hv2 : vp_in (i + 2) L) (hv3 : vp_in (i + 3) L) (hv4 : vp_in (i + 4) L) {z : Int32 × KS} (hz : f_L_loadPreset a (xs (i + 1).toNatClampNeg) = some z) {w : Int32 × MS} (hw : f_X9_loadPreset b (xs (i + 1).toNatClampNeg) = some w) {t : Int32} (ht : f_X9_thrown w.2  = some t) (e1 : t = z.1) (e2 : z.1 = 0 → (Kou z.2 0) = w.1.toInt64) (kk : ∀ ad' : Nat → Nat, AG ad ad' (Kn a) → J p l e R s m args below meth c G A 9 Q (k + 5) (n + 39) ad' z.2 w.2 1757 [(0, .ref sc), (1, .ref (ad' 0)), (2, .ref (ad' 100)), (3, .ref (ad' 19)), (4, .int i)] []) : J p l e R s m args below meth c G A 9 Q k n ad a b 1042 [(0, .ref sc), (1, .ref (ad 0)), (2, .ref (ad 100)), (3, .ref (ad 19)), (4, .int i)] [] := by
  refine j_aload_n C 1 rfl dL_law_1042 ?_
  refine j_aload_n C 0 rfl dL_law_1043 ?_
  refine j_iload C 4 rfl dL_law_1044 ?_
  refine j_iconst C (v := 1) rfl dL_law_1046 ?_
  refine j_iadd C dL_law_1047 ?_
  refine j_sld C hX hv1 dL_law_1048 ?_
  refine j_aload_n C 3 rfl dL_law_1049 ?_
  refine j_wcallS (As := [.ref (ad 0), .int (xs (i + 1).toNatClampNeg), .ref (ad 19)]) (rest := []) C (k_L_loadPreset hst hz) cw_L_loadPreset ml_L_150 rfl ⟨Nat.le_trans (Nat.le_of_ble_eq_true rfl) hF, Nat.le_trans (Nat.le_of_ble_eq_true rfl) hM⟩ ⟨by show k + 2 ≤ R.cells; omega, by show n + 12 ≤ R.slots; omega⟩ rfl (Nat.le_of_ble_eq_true rfl) dL_law_1050 (fun ad9 hg9 => ?_)
  rw [← hg9 0 m_0, ← hg9 19 m_19, ← hg9 100 m_100]
  refine j_widen (k + 5) (n + 39) (by show k + 2 ≤ k + 5; omega) (by show n + 12 ≤ n + 39; omega) ?_
  refine j_istore C (i := 5) dL_law_1053 (by decide) rfl ?_
  refine j_aload_n C 3 rfl dL_law_1055 ?_
  refine j_aload_n C 1 rfl dL_law_1056 ?_
  refine j_iload C 5 rfl dL_law_1057 ?_
  refine j_iconst C (v := 1) rfl dL_law_1059 ?_
  refine j_iadd C dL_law_1060 ?_
  refine j_sld C hX hv1 dL_law_1061 ?_
  refine j_callV (q := 100) (As := [.int (xs (i + 1).toNatClampNeg)]) (rest := []) C (k_X9_loadPreset hw) cw_X9_loadPreset ml_L_152 m_100 ce_100 rfl rfl ⟨Nat.le_trans (Nat.le_of_ble_eq_true rfl) hF, Nat.le_trans (Nat.le_of_ble_eq_true rfl) hM⟩ hC rfl (Nat.le_of_ble_eq_true rfl) dL_law_1062 ?_
  refine j_widen (k + 5) (n + 39) (Nat.le_refl (k + 5)) (Nat.le_refl (n + 39)) ?_
  refine j_istore C (i := 6) dL_law_1065 (by decide) rfl ?_
  refine j_aload_n C 4 rfl dL_law_1067 ?_
  refine j_callV (q := 100) (As := []) (rest := []) C (k_X9_thrown ht) cw_X9_thrown ml_L_96 m_100 ce_100 rfl rfl ⟨Nat.le_trans (Nat.le_of_ble_eq_true rfl) hF, Nat.le_trans (Nat.le_of_ble_eq_true rfl) hM⟩ hC rfl (Nat.le_of_ble_eq_true rfl) dL_law_1068 ?_
  refine j_widen (k + 5) (n + 39) (Nat.le_refl (k + 5)) (Nat.le_refl (n + 39)) ?_
  refine j_iload C 1 rfl dL_law_1071 ?_
  refine j_icmp_eq C (X := Unit) (f := ()) (g := ()) (r := ()) 1078 dL_law_1073 rfl (ite_self _) (fun _ _ => ?_) (fun h9 _ => absurd e1 h9)
  refine j_iload C 1 rfl dL_law_1078 ?_
  refine j_if_ne C (X := Unit) (f := ()) (g := ()) (r := ()) 1095 dL_law_1080 rfl (ite_self _) (fun _ _ => ?_) (fun h8 _ => ?_)
  ·
    refine j_goto C 1757 dL_law_1095 rfl ?_
    refine j_sub [2, 3, 4, 5, 6] rfl ?_
    exact kk ad9 hg9
  have h8 := Classical.not_not.mp h8
  refine j_aload_n C 5 rfl dL_law_1083 ?_
  refine j_iconst C (v := 0) rfl dL_law_1084 ?_
  refine j_lald (X := Unit) (x := some ()) (r := ()) C m_19 ce_19 rfl dL_law_1085 (fun _ => ?_)
  refine j_iload C 0 rfl dL_law_1086 ?_
  refine j_i2l C dL_law_1088 ?_
  refine j_lcmp C dL_law_1089 ?_
  refine j_if_eq C (X := Unit) (f := ()) (g := ()) (r := ()) 1095 dL_law_1090 rfl (ite_self _) (fun _ _ => ?_) (fun h9 _ => absurd (lcmp_eq (e2 h8)) h9)
  refine j_goto C 1757 dL_law_1095 rfl ?_
  refine j_sub [2, 3, 4, 5, 6] rfl ?_
  exact kk ad9 hg9
set_option maxHeartbeats 1000000 in
theorem q_17 (C : CX G A RL cL_law 9 p s m args c) (hX : SX A sc L xs s) (hst : l.stackTraces = false) (hF : 14 ≤ R.frames) (hM : 530 ≤ R.locals) (hC : k + 5 ≤ R.cells ∧ n + 39 ≤ R.slots) (hv1 : vp_in (i + 1) L) (hv2 : vp_in (i + 2) L) (hv3 : vp_in (i + 3) L) (hv4 : vp_in (i + 4) L) {z : Int32} (hz : f_X8_mode a  = some z) {w : Int32 × MS} (hw : f_X9_mode b  = some w) (e1 : z = w.1) (kk : ∀ ad' : Nat → Nat, AG ad ad' (Kn a) → J p l e R s m args below meth c G A 9 Q (k + 5) (n + 39) ad' a w.2 1757 [(0, .ref sc), (1, .ref (ad' 0)), (2, .ref (ad' 100)), (3, .ref (ad' 19)), (4, .int i)] []) : J p l e R s m args below meth c G A 9 Q k n ad a b 1098 [(0, .ref sc), (1, .ref (ad 0)), (2, .ref (ad 100)), (3, .ref (ad 19)), (4, .int i)] [] := by
  refine j_widen (k + 5) (n + 39) (Nat.le_add_right _ _) (Nat.le_add_right _ _) ?_
  refine j_aload_n C 1 rfl dL_law_1098 ?_
  refine j_callV (q := 0) (As := []) (rest := []) C (k_X8_mode hz) cw_X8_mode ml_L_153 m_0 ce_0 rfl rfl ⟨Nat.le_trans (Nat.le_of_ble_eq_true rfl) hF, Nat.le_trans (Nat.le_of_ble_eq_true rfl) hM⟩ hC rfl (Nat.le_of_ble_eq_true rfl) dL_law_1099 ?_
  refine j_widen (k + 5) (n + 39) (Nat.le_refl (k + 5)) (Nat.le_refl (n + 39)) ?_
  refine j_aload_n C 2 rfl dL_law_1102 ?_
  refine j_callV (q := 100) (As := []) (rest := [.int z]) C (k_X9_mode hw) cw_X9_mode ml_L_156 m_100 ce_100 rfl rfl ⟨Nat.le_trans (Nat.le_of_ble_eq_true rfl) hF, Nat.le_trans (Nat.le_of_ble_eq_true rfl) hM⟩ hC rfl (Nat.le_of_ble_eq_true rfl) dL_law_1103 ?_
  refine j_widen (k + 5) (n + 39) (Nat.le_refl (k + 5)) (Nat.le_refl (n + 39)) ?_
  refine j_icmp_eq C (X := Unit) (f := ()) (g := ()) (r := ()) 1757 dL_law_1106 rfl (ite_self _) (fun _ _ => ?_) (fun h9 _ => absurd e1 h9)
  refine j_sub [0, 1, 2, 3, 4] rfl ?_
  exact kk ad (fun _ _ => rfl)
set_option maxHeartbeats 1000000 in
theorem q_18 (C : CX G A RL cL_law 9 p s m args c) (hX : SX A sc L xs s) (hst : l.stackTraces = false) (hF : 14 ≤ R.frames) (hM : 530 ≤ R.locals) (hC : k + 5 ≤ R.cells ∧ n + 39 ≤ R.slots) (hv1 : vp_in (i + 1) L) (hv2 : vp_in (i + 2) L) (hv3 : vp_in (i + 3) L) (hv4 : vp_in (i + 4) L) {z : Int32} (hz : f_X8_shown a  = some z) {w : Int32 × MS} (hw : f_X9_shown b  = some w) (e1 : z = w.1) (kk : ∀ ad' : Nat → Nat, AG ad ad' (Kn a) → J p l e R s m args below meth c G A 9 Q (k + 5) (n + 39) ad' a w.2 1757 [(0, .ref sc), (1, .ref (ad' 0)), (2, .ref (ad' 100)), (3, .ref (ad' 19)), (4, .int i)] []) : J p l e R s m args below meth c G A 9 Q k n ad a b 1111 [(0, .ref sc), (1, .ref (ad 0)), (2, .ref (ad 100)), (3, .ref (ad 19)), (4, .int i)] [] := by
  refine j_widen (k + 5) (n + 39) (Nat.le_add_right _ _) (Nat.le_add_right _ _) ?_
  refine j_aload_n C 1 rfl dL_law_1111 ?_
  refine j_callV (q := 0) (As := []) (rest := []) C (k_X8_shown hz) cw_X8_shown ml_L_157 m_0 ce_0 rfl rfl ⟨Nat.le_trans (Nat.le_of_ble_eq_true rfl) hF, Nat.le_trans (Nat.le_of_ble_eq_true rfl) hM⟩ hC rfl (Nat.le_of_ble_eq_true rfl) dL_law_1112 ?_
  refine j_widen (k + 5) (n + 39) (Nat.le_refl (k + 5)) (Nat.le_refl (n + 39)) ?_
  refine j_aload_n C 2 rfl dL_law_1115 ?_
  refine j_callV (q := 100) (As := []) (rest := [.int z]) C (k_X9_shown hw) cw_X9_shown ml_L_160 m_100 ce_100 rfl rfl ⟨Nat.le_trans (Nat.le_of_ble_eq_true rfl) hF, Nat.le_trans (Nat.le_of_ble_eq_true rfl) hM⟩ hC rfl (Nat.le_of_ble_eq_true rfl) dL_law_1116 ?_
  refine j_widen (k + 5) (n + 39) (Nat.le_refl (k + 5)) (Nat.le_refl (n + 39)) ?_
  refine j_icmp_eq C (X := Unit) (f := ()) (g := ()) (r := ()) 1757 dL_law_1119 rfl (ite_self _) (fun _ _ => ?_) (fun h9 _ => absurd e1 h9)
  refine j_sub [0, 1, 2, 3, 4] rfl ?_
  exact kk ad (fun _ _ => rfl)
set_option maxHeartbeats 1000000 in
theorem q_19 (C : CX G A RL cL_law 9 p s m args c) (hX : SX A sc L xs s) (hst : l.stackTraces = false) (hF : 14 ≤ R.frames) (hM : 530 ≤ R.locals) (hC : k + 5 ≤ R.cells ∧ n + 39 ≤ R.slots) (hv1 : vp_in (i + 1) L) (hv2 : vp_in (i + 2) L) (hv3 : vp_in (i + 3) L) (hv4 : vp_in (i + 4) L) {z : Int32} (hz : f_X8_cursor a  = some z) {w : Int32 × MS} (hw : f_X9_cursor b  = some w) (e1 : z = w.1) (kk : ∀ ad' : Nat → Nat, AG ad ad' (Kn a) → J p l e R s m args below meth c G A 9 Q (k + 5) (n + 39) ad' a w.2 1757 [(0, .ref sc), (1, .ref (ad' 0)), (2, .ref (ad' 100)), (3, .ref (ad' 19)), (4, .int i)] []) : J p l e R s m args below meth c G A 9 Q k n ad a b 1124 [(0, .ref sc), (1, .ref (ad 0)), (2, .ref (ad 100)), (3, .ref (ad 19)), (4, .int i)] [] := by
  refine j_widen (k + 5) (n + 39) (Nat.le_add_right _ _) (Nat.le_add_right _ _) ?_
  refine j_aload_n C 1 rfl dL_law_1124 ?_
  refine j_callV (q := 0) (As := []) (rest := []) C (k_X8_cursor hz) cw_X8_cursor ml_L_161 m_0 ce_0 rfl rfl ⟨Nat.le_trans (Nat.le_of_ble_eq_true rfl) hF, Nat.le_trans (Nat.le_of_ble_eq_true rfl) hM⟩ hC rfl (Nat.le_of_ble_eq_true rfl) dL_law_1125 ?_
  refine j_widen (k + 5) (n + 39) (Nat.le_refl (k + 5)) (Nat.le_refl (n + 39)) ?_
  refine j_aload_n C 2 rfl dL_law_1128 ?_
  refine j_callV (q := 100) (As := []) (rest := [.int z]) C (k_X9_cursor hw) cw_X9_cursor ml_L_164 m_100 ce_100 rfl rfl ⟨Nat.le_trans (Nat.le_of_ble_eq_true rfl) hF, Nat.le_trans (Nat.le_of_ble_eq_true rfl) hM⟩ hC rfl (Nat.le_of_ble_eq_true rfl) dL_law_1129 ?_
  refine j_widen (k + 5) (n + 39) (Nat.le_refl (k + 5)) (Nat.le_refl (n + 39)) ?_
  refine j_icmp_eq C (X := Unit) (f := ()) (g := ()) (r := ()) 1757 dL_law_1132 rfl (ite_self _) (fun _ _ => ?_) (fun h9 _ => absurd e1 h9)
  refine j_sub [0, 1, 2, 3, 4] rfl ?_
  exact kk ad (fun _ _ => rfl)
set_option maxHeartbeats 1000000 in
theorem q_20 (C : CX G A RL cL_law 9 p s m args c) (hX : SX A sc L xs s) (hst : l.stackTraces = false) (hF : 14 ≤ R.frames) (hM : 530 ≤ R.locals) (hC : k + 5 ≤ R.cells ∧ n + 39 ≤ R.slots) (hv1 : vp_in (i + 1) L) (hv2 : vp_in (i + 2) L) (hv3 : vp_in (i + 3) L) (hv4 : vp_in (i + 4) L) {z : Int32} (hz : f_X8_chosen a  = some z) {w : Int32 × MS} (hw : f_X9_chosen b  = some w) (e1 : z = w.1) (kk : ∀ ad' : Nat → Nat, AG ad ad' (Kn a) → J p l e R s m args below meth c G A 9 Q (k + 5) (n + 39) ad' a w.2 1757 [(0, .ref sc), (1, .ref (ad' 0)), (2, .ref (ad' 100)), (3, .ref (ad' 19)), (4, .int i)] []) : J p l e R s m args below meth c G A 9 Q k n ad a b 1137 [(0, .ref sc), (1, .ref (ad 0)), (2, .ref (ad 100)), (3, .ref (ad 19)), (4, .int i)] [] := by
  refine j_widen (k + 5) (n + 39) (Nat.le_add_right _ _) (Nat.le_add_right _ _) ?_
  refine j_aload_n C 1 rfl dL_law_1137 ?_
  refine j_callV (q := 0) (As := []) (rest := []) C (k_X8_chosen hz) cw_X8_chosen ml_L_165 m_0 ce_0 rfl rfl ⟨Nat.le_trans (Nat.le_of_ble_eq_true rfl) hF, Nat.le_trans (Nat.le_of_ble_eq_true rfl) hM⟩ hC rfl (Nat.le_of_ble_eq_true rfl) dL_law_1138 ?_
  refine j_widen (k + 5) (n + 39) (Nat.le_refl (k + 5)) (Nat.le_refl (n + 39)) ?_
  refine j_aload_n C 2 rfl dL_law_1141 ?_
  refine j_callV (q := 100) (As := []) (rest := [.int z]) C (k_X9_chosen hw) cw_X9_chosen ml_L_168 m_100 ce_100 rfl rfl ⟨Nat.le_trans (Nat.le_of_ble_eq_true rfl) hF, Nat.le_trans (Nat.le_of_ble_eq_true rfl) hM⟩ hC rfl (Nat.le_of_ble_eq_true rfl) dL_law_1142 ?_
  refine j_widen (k + 5) (n + 39) (Nat.le_refl (k + 5)) (Nat.le_refl (n + 39)) ?_
  refine j_icmp_eq C (X := Unit) (f := ()) (g := ()) (r := ()) 1757 dL_law_1145 rfl (ite_self _) (fun _ _ => ?_) (fun h9 _ => absurd e1 h9)
  refine j_sub [0, 1, 2, 3, 4] rfl ?_
  exact kk ad (fun _ _ => rfl)
set_option maxHeartbeats 1000000 in
theorem q_21 (C : CX G A RL cL_law 9 p s m args c) (hX : SX A sc L xs s) (hst : l.stackTraces = false) (hF : 14 ≤ R.frames) (hM : 530 ≤ R.locals) (hC : k + 5 ≤ R.cells ∧ n + 39 ≤ R.slots) (hv1 : vp_in (i + 1) L) (hv2 : vp_in (i + 2) L) (hv3 : vp_in (i + 3) L) (hv4 : vp_in (i + 4) L) {z : Int32} (hz : f_X8_draft a  = some z) {w : Int32 × MS} (hw : f_X9_draft b  = some w) (e1 : z = w.1) (kk : ∀ ad' : Nat → Nat, AG ad ad' (Kn a) → J p l e R s m args below meth c G A 9 Q (k + 5) (n + 39) ad' a w.2 1757 [(0, .ref sc), (1, .ref (ad' 0)), (2, .ref (ad' 100)), (3, .ref (ad' 19)), (4, .int i)] []) : J p l e R s m args below meth c G A 9 Q k n ad a b 1150 [(0, .ref sc), (1, .ref (ad 0)), (2, .ref (ad 100)), (3, .ref (ad 19)), (4, .int i)] [] := by
  refine j_widen (k + 5) (n + 39) (Nat.le_add_right _ _) (Nat.le_add_right _ _) ?_
  refine j_aload_n C 1 rfl dL_law_1150 ?_
  refine j_callV (q := 0) (As := []) (rest := []) C (k_X8_draft hz) cw_X8_draft ml_L_169 m_0 ce_0 rfl rfl ⟨Nat.le_trans (Nat.le_of_ble_eq_true rfl) hF, Nat.le_trans (Nat.le_of_ble_eq_true rfl) hM⟩ hC rfl (Nat.le_of_ble_eq_true rfl) dL_law_1151 ?_
  refine j_widen (k + 5) (n + 39) (Nat.le_refl (k + 5)) (Nat.le_refl (n + 39)) ?_
  refine j_aload_n C 2 rfl dL_law_1154 ?_
  refine j_callV (q := 100) (As := []) (rest := [.int z]) C (k_X9_draft hw) cw_X9_draft ml_L_172 m_100 ce_100 rfl rfl ⟨Nat.le_trans (Nat.le_of_ble_eq_true rfl) hF, Nat.le_trans (Nat.le_of_ble_eq_true rfl) hM⟩ hC rfl (Nat.le_of_ble_eq_true rfl) dL_law_1155 ?_
  refine j_widen (k + 5) (n + 39) (Nat.le_refl (k + 5)) (Nat.le_refl (n + 39)) ?_
  refine j_icmp_eq C (X := Unit) (f := ()) (g := ()) (r := ()) 1757 dL_law_1158 rfl (ite_self _) (fun _ _ => ?_) (fun h9 _ => absurd e1 h9)
  refine j_sub [0, 1, 2, 3, 4] rfl ?_
  exact kk ad (fun _ _ => rfl)
set_option maxHeartbeats 1000000 in
theorem q_22 (C : CX G A RL cL_law 9 p s m args c) (hX : SX A sc L xs s) (hst : l.stackTraces = false) (hF : 14 ≤ R.frames) (hM : 530 ≤ R.locals) (hC : k + 5 ≤ R.cells ∧ n + 39 ≤ R.slots) (hv1 : vp_in (i + 1) L) (hv2 : vp_in (i + 2) L) (hv3 : vp_in (i + 3) L) (hv4 : vp_in (i + 4) L) {z : Int32} (hz : f_X8_idle a  = some z) {w : Int32 × MS} (hw : f_X9_idle b  = some w) (e1 : z = w.1) (kk : ∀ ad' : Nat → Nat, AG ad ad' (Kn a) → J p l e R s m args below meth c G A 9 Q (k + 5) (n + 39) ad' a w.2 1757 [(0, .ref sc), (1, .ref (ad' 0)), (2, .ref (ad' 100)), (3, .ref (ad' 19)), (4, .int i)] []) : J p l e R s m args below meth c G A 9 Q k n ad a b 1163 [(0, .ref sc), (1, .ref (ad 0)), (2, .ref (ad 100)), (3, .ref (ad 19)), (4, .int i)] [] := by
  refine j_widen (k + 5) (n + 39) (Nat.le_add_right _ _) (Nat.le_add_right _ _) ?_
  refine j_aload_n C 1 rfl dL_law_1163 ?_
  refine j_callV (q := 0) (As := []) (rest := []) C (k_X8_idle hz) cw_X8_idle ml_L_173 m_0 ce_0 rfl rfl ⟨Nat.le_trans (Nat.le_of_ble_eq_true rfl) hF, Nat.le_trans (Nat.le_of_ble_eq_true rfl) hM⟩ hC rfl (Nat.le_of_ble_eq_true rfl) dL_law_1164 ?_
  refine j_widen (k + 5) (n + 39) (Nat.le_refl (k + 5)) (Nat.le_refl (n + 39)) ?_
  refine j_aload_n C 2 rfl dL_law_1167 ?_
  refine j_callV (q := 100) (As := []) (rest := [.int z]) C (k_X9_idle hw) cw_X9_idle ml_L_176 m_100 ce_100 rfl rfl ⟨Nat.le_trans (Nat.le_of_ble_eq_true rfl) hF, Nat.le_trans (Nat.le_of_ble_eq_true rfl) hM⟩ hC rfl (Nat.le_of_ble_eq_true rfl) dL_law_1168 ?_
  refine j_widen (k + 5) (n + 39) (Nat.le_refl (k + 5)) (Nat.le_refl (n + 39)) ?_
  refine j_icmp_eq C (X := Unit) (f := ()) (g := ()) (r := ()) 1757 dL_law_1171 rfl (ite_self _) (fun _ _ => ?_) (fun h9 _ => absurd e1 h9)
  refine j_sub [0, 1, 2, 3, 4] rfl ?_
  exact kk ad (fun _ _ => rfl)
set_option maxHeartbeats 1000000 in
theorem q_23 (C : CX G A RL cL_law 9 p s m args c) (hX : SX A sc L xs s) (hst : l.stackTraces = false) (hF : 14 ≤ R.frames) (hM : 530 ≤ R.locals) (hC : k + 5 ≤ R.cells ∧ n + 39 ≤ R.slots) (hv1 : vp_in (i + 1) L) (hv2 : vp_in (i + 2) L) (hv3 : vp_in (i + 3) L) (hv4 : vp_in (i + 4) L) {z : Int32} (hz : f_X8_barred a  = some z) {w : Int32 × MS} (hw : f_X9_barred b  = some w) (e1 : z = w.1) (kk : ∀ ad' : Nat → Nat, AG ad ad' (Kn a) → J p l e R s m args below meth c G A 9 Q (k + 5) (n + 39) ad' a w.2 1757 [(0, .ref sc), (1, .ref (ad' 0)), (2, .ref (ad' 100)), (3, .ref (ad' 19)), (4, .int i)] []) : J p l e R s m args below meth c G A 9 Q k n ad a b 1176 [(0, .ref sc), (1, .ref (ad 0)), (2, .ref (ad 100)), (3, .ref (ad 19)), (4, .int i)] [] := by
  refine j_widen (k + 5) (n + 39) (Nat.le_add_right _ _) (Nat.le_add_right _ _) ?_
  refine j_aload_n C 1 rfl dL_law_1176 ?_
  refine j_callV (q := 0) (As := []) (rest := []) C (k_X8_barred hz) cw_X8_barred ml_L_177 m_0 ce_0 rfl rfl ⟨Nat.le_trans (Nat.le_of_ble_eq_true rfl) hF, Nat.le_trans (Nat.le_of_ble_eq_true rfl) hM⟩ hC rfl (Nat.le_of_ble_eq_true rfl) dL_law_1177 ?_
  refine j_widen (k + 5) (n + 39) (Nat.le_refl (k + 5)) (Nat.le_refl (n + 39)) ?_
  refine j_aload_n C 2 rfl dL_law_1180 ?_
  refine j_callV (q := 100) (As := []) (rest := [.int z]) C (k_X9_barred hw) cw_X9_barred ml_L_180 m_100 ce_100 rfl rfl ⟨Nat.le_trans (Nat.le_of_ble_eq_true rfl) hF, Nat.le_trans (Nat.le_of_ble_eq_true rfl) hM⟩ hC rfl (Nat.le_of_ble_eq_true rfl) dL_law_1181 ?_
  refine j_widen (k + 5) (n + 39) (Nat.le_refl (k + 5)) (Nat.le_refl (n + 39)) ?_
  refine j_icmp_eq C (X := Unit) (f := ()) (g := ()) (r := ()) 1757 dL_law_1184 rfl (ite_self _) (fun _ _ => ?_) (fun h9 _ => absurd e1 h9)
  refine j_sub [0, 1, 2, 3, 4] rfl ?_
  exact kk ad (fun _ _ => rfl)
set_option maxHeartbeats 1000000 in
theorem q_24 (C : CX G A RL cL_law 9 p s m args c) (hX : SX A sc L xs s) (hst : l.stackTraces = false) (hF : 14 ≤ R.frames) (hM : 530 ≤ R.locals) (hC : k + 5 ≤ R.cells ∧ n + 39 ≤ R.slots) (hv1 : vp_in (i + 1) L) (hv2 : vp_in (i + 2) L) (hv3 : vp_in (i + 3) L) (hv4 : vp_in (i + 4) L) {z : Int32} (hz : f_X8_logged a  = some z) {w : Int32 × MS} (hw : f_X9_logged b  = some w) (e1 : z = w.1) (kk : ∀ ad' : Nat → Nat, AG ad ad' (Kn a) → J p l e R s m args below meth c G A 9 Q (k + 5) (n + 39) ad' a w.2 1757 [(0, .ref sc), (1, .ref (ad' 0)), (2, .ref (ad' 100)), (3, .ref (ad' 19)), (4, .int i)] []) : J p l e R s m args below meth c G A 9 Q k n ad a b 1189 [(0, .ref sc), (1, .ref (ad 0)), (2, .ref (ad 100)), (3, .ref (ad 19)), (4, .int i)] [] := by
  refine j_widen (k + 5) (n + 39) (Nat.le_add_right _ _) (Nat.le_add_right _ _) ?_
  refine j_aload_n C 1 rfl dL_law_1189 ?_
  refine j_callV (q := 0) (As := []) (rest := []) C (k_X8_logged hz) cw_X8_logged ml_L_181 m_0 ce_0 rfl rfl ⟨Nat.le_trans (Nat.le_of_ble_eq_true rfl) hF, Nat.le_trans (Nat.le_of_ble_eq_true rfl) hM⟩ hC rfl (Nat.le_of_ble_eq_true rfl) dL_law_1190 ?_
  refine j_widen (k + 5) (n + 39) (Nat.le_refl (k + 5)) (Nat.le_refl (n + 39)) ?_
  refine j_aload_n C 2 rfl dL_law_1193 ?_
  refine j_callV (q := 100) (As := []) (rest := [.int z]) C (k_X9_logged hw) cw_X9_logged ml_L_184 m_100 ce_100 rfl rfl ⟨Nat.le_trans (Nat.le_of_ble_eq_true rfl) hF, Nat.le_trans (Nat.le_of_ble_eq_true rfl) hM⟩ hC rfl (Nat.le_of_ble_eq_true rfl) dL_law_1194 ?_
  refine j_widen (k + 5) (n + 39) (Nat.le_refl (k + 5)) (Nat.le_refl (n + 39)) ?_
  refine j_icmp_eq C (X := Unit) (f := ()) (g := ()) (r := ()) 1757 dL_law_1197 rfl (ite_self _) (fun _ _ => ?_) (fun h9 _ => absurd e1 h9)
  refine j_sub [0, 1, 2, 3, 4] rfl ?_
  exact kk ad (fun _ _ => rfl)
set_option maxHeartbeats 1000000 in
theorem q_25 (C : CX G A RL cL_law 9 p s m args c) (hX : SX A sc L xs s) (hst : l.stackTraces = false) (hF : 14 ≤ R.frames) (hM : 530 ≤ R.locals) (hC : k + 5 ≤ R.cells ∧ n + 39 ≤ R.slots) (hv1 : vp_in (i + 1) L) (hv2 : vp_in (i + 2) L) (hv3 : vp_in (i + 3) L) (hv4 : vp_in (i + 4) L) {z : Int32} (hz : f_X8_isHome a  = some z) {w : Int32 × MS} (hw : f_X9_isHome b  = some w) (e1 : z = w.1) (kk : ∀ ad' : Nat → Nat, AG ad ad' (Kn a) → J p l e R s m args below meth c G A 9 Q (k + 5) (n + 39) ad' a w.2 1757 [(0, .ref sc), (1, .ref (ad' 0)), (2, .ref (ad' 100)), (3, .ref (ad' 19)), (4, .int i)] []) : J p l e R s m args below meth c G A 9 Q k n ad a b 1202 [(0, .ref sc), (1, .ref (ad 0)), (2, .ref (ad 100)), (3, .ref (ad 19)), (4, .int i)] [] := by
  refine j_widen (k + 5) (n + 39) (Nat.le_add_right _ _) (Nat.le_add_right _ _) ?_
  refine j_aload_n C 1 rfl dL_law_1202 ?_
  refine j_callV (q := 0) (As := []) (rest := []) C (k_X8_isHome hz) cw_X8_isHome ml_L_185 m_0 ce_0 rfl rfl ⟨Nat.le_trans (Nat.le_of_ble_eq_true rfl) hF, Nat.le_trans (Nat.le_of_ble_eq_true rfl) hM⟩ hC rfl (Nat.le_of_ble_eq_true rfl) dL_law_1203 ?_
  refine j_widen (k + 5) (n + 39) (Nat.le_refl (k + 5)) (Nat.le_refl (n + 39)) ?_
  refine j_aload_n C 2 rfl dL_law_1206 ?_
  refine j_callV (q := 100) (As := []) (rest := [.int z]) C (k_X9_isHome hw) cw_X9_isHome ml_L_189 m_100 ce_100 rfl rfl ⟨Nat.le_trans (Nat.le_of_ble_eq_true rfl) hF, Nat.le_trans (Nat.le_of_ble_eq_true rfl) hM⟩ hC rfl (Nat.le_of_ble_eq_true rfl) dL_law_1207 ?_
  refine j_widen (k + 5) (n + 39) (Nat.le_refl (k + 5)) (Nat.le_refl (n + 39)) ?_
  refine j_icmp_eq C (X := Unit) (f := ()) (g := ()) (r := ()) 1757 dL_law_1210 rfl (ite_self _) (fun _ _ => ?_) (fun h9 _ => absurd e1 h9)
  refine j_sub [0, 1, 2, 3, 4] rfl ?_
  exact kk ad (fun _ _ => rfl)
set_option maxHeartbeats 1000000 in
theorem q_26 (C : CX G A RL cL_law 9 p s m args c) (hX : SX A sc L xs s) (hst : l.stackTraces = false) (hF : 14 ≤ R.frames) (hM : 530 ≤ R.locals) (hC : k + 5 ≤ R.cells ∧ n + 39 ≤ R.slots) (hv1 : vp_in (i + 1) L) (hv2 : vp_in (i + 2) L) (hv3 : vp_in (i + 3) L) (hv4 : vp_in (i + 4) L) {z : Int32 × KS} (hz : f_L_display a (xs (i + 1).toNatClampNeg) (xs (i + 2).toNatClampNeg) = some z) {w : Int32 × MS} (hw : f_X9_display b (xs (i + 1).toNatClampNeg) (xs (i + 2).toNatClampNeg) = some w) {t : Int32} (ht : f_X9_thrown w.2  = some t) (e1 : t = z.1) (e2 : z.1 = 0 → (Kou z.2 0) = w.1.toInt64) (kk : ∀ ad' : Nat → Nat, AG ad ad' (Kn a) → J p l e R s m args below meth c G A 9 Q (k + 5) (n + 39) ad' z.2 w.2 1757 [(0, .ref sc), (1, .ref (ad' 0)), (2, .ref (ad' 100)), (3, .ref (ad' 19)), (4, .int i)] []) : J p l e R s m args below meth c G A 9 Q k n ad a b 1215 [(0, .ref sc), (1, .ref (ad 0)), (2, .ref (ad 100)), (3, .ref (ad 19)), (4, .int i)] [] := by
  refine j_aload_n C 1 rfl dL_law_1215 ?_
  refine j_aload_n C 0 rfl dL_law_1216 ?_
  refine j_iload C 4 rfl dL_law_1217 ?_
  refine j_iconst C (v := 1) rfl dL_law_1219 ?_
  refine j_iadd C dL_law_1220 ?_
  refine j_sld C hX hv1 dL_law_1221 ?_
  refine j_aload_n C 0 rfl dL_law_1222 ?_
  refine j_iload C 4 rfl dL_law_1223 ?_
  refine j_iconst C (v := 2) rfl dL_law_1225 ?_
  refine j_iadd C dL_law_1226 ?_
  refine j_sld C hX hv2 dL_law_1227 ?_
  refine j_aload_n C 3 rfl dL_law_1228 ?_
  refine j_wcallS (As := [.ref (ad 0), .int (xs (i + 1).toNatClampNeg), .int (xs (i + 2).toNatClampNeg), .ref (ad 19)]) (rest := []) C (k_L_display hst hz) cw_L_display ml_L_190 rfl ⟨Nat.le_trans (Nat.le_of_ble_eq_true rfl) hF, Nat.le_trans (Nat.le_of_ble_eq_true rfl) hM⟩ ⟨by show k + 1 ≤ R.cells; omega, by show n + 6 ≤ R.slots; omega⟩ rfl (Nat.le_of_ble_eq_true rfl) dL_law_1229 (fun ad9 hg9 => ?_)
  rw [← hg9 0 m_0, ← hg9 19 m_19, ← hg9 100 m_100]
  refine j_widen (k + 5) (n + 39) (by show k + 1 ≤ k + 5; omega) (by show n + 6 ≤ n + 39; omega) ?_
  refine j_istore C (i := 5) dL_law_1232 (by decide) rfl ?_
  refine j_aload_n C 3 rfl dL_law_1234 ?_
  refine j_aload_n C 1 rfl dL_law_1235 ?_
  refine j_iload C 5 rfl dL_law_1236 ?_
  refine j_iconst C (v := 1) rfl dL_law_1238 ?_
  refine j_iadd C dL_law_1239 ?_
  refine j_sld C hX hv1 dL_law_1240 ?_
  refine j_aload_n C 1 rfl dL_law_1241 ?_
  refine j_iload C 5 rfl dL_law_1242 ?_
  refine j_iconst C (v := 2) rfl dL_law_1244 ?_
  refine j_iadd C dL_law_1245 ?_
  refine j_sld C hX hv2 dL_law_1246 ?_
  refine j_callV (q := 100) (As := [.int (xs (i + 1).toNatClampNeg), .int (xs (i + 2).toNatClampNeg)]) (rest := []) C (k_X9_display hw) cw_X9_display ml_L_192 m_100 ce_100 rfl rfl ⟨Nat.le_trans (Nat.le_of_ble_eq_true rfl) hF, Nat.le_trans (Nat.le_of_ble_eq_true rfl) hM⟩ hC rfl (Nat.le_of_ble_eq_true rfl) dL_law_1247 ?_
  refine j_widen (k + 5) (n + 39) (Nat.le_refl (k + 5)) (Nat.le_refl (n + 39)) ?_
  refine j_istore C (i := 6) dL_law_1250 (by decide) rfl ?_
  refine j_aload_n C 4 rfl dL_law_1252 ?_
  refine j_callV (q := 100) (As := []) (rest := []) C (k_X9_thrown ht) cw_X9_thrown ml_L_96 m_100 ce_100 rfl rfl ⟨Nat.le_trans (Nat.le_of_ble_eq_true rfl) hF, Nat.le_trans (Nat.le_of_ble_eq_true rfl) hM⟩ hC rfl (Nat.le_of_ble_eq_true rfl) dL_law_1253 ?_
  refine j_widen (k + 5) (n + 39) (Nat.le_refl (k + 5)) (Nat.le_refl (n + 39)) ?_
  refine j_iload C 1 rfl dL_law_1256 ?_
  refine j_icmp_eq C (X := Unit) (f := ()) (g := ()) (r := ()) 1263 dL_law_1258 rfl (ite_self _) (fun _ _ => ?_) (fun h9 _ => absurd e1 h9)
  refine j_iload C 1 rfl dL_law_1263 ?_
  refine j_if_ne C (X := Unit) (f := ()) (g := ()) (r := ()) 1280 dL_law_1265 rfl (ite_self _) (fun _ _ => ?_) (fun h8 _ => ?_)
  ·
    refine j_goto C 1757 dL_law_1280 rfl ?_
    refine j_sub [2, 3, 4, 5, 6] rfl ?_
    exact kk ad9 hg9
  have h8 := Classical.not_not.mp h8
  refine j_aload_n C 5 rfl dL_law_1268 ?_
  refine j_iconst C (v := 0) rfl dL_law_1269 ?_
  refine j_lald (X := Unit) (x := some ()) (r := ()) C m_19 ce_19 rfl dL_law_1270 (fun _ => ?_)
  refine j_iload C 0 rfl dL_law_1271 ?_
  refine j_i2l C dL_law_1273 ?_
  refine j_lcmp C dL_law_1274 ?_
  refine j_if_eq C (X := Unit) (f := ()) (g := ()) (r := ()) 1280 dL_law_1275 rfl (ite_self _) (fun _ _ => ?_) (fun h9 _ => absurd (lcmp_eq (e2 h8)) h9)
  refine j_goto C 1757 dL_law_1280 rfl ?_
  refine j_sub [2, 3, 4, 5, 6] rfl ?_
  exact kk ad9 hg9
set_option maxHeartbeats 1000000 in
theorem q_27 (C : CX G A RL cL_law 9 p s m args c) (hX : SX A sc L xs s) (hst : l.stackTraces = false) (hF : 14 ≤ R.frames) (hM : 530 ≤ R.locals) (hC : k + 5 ≤ R.cells ∧ n + 39 ≤ R.slots) (hv1 : vp_in (i + 1) L) (hv2 : vp_in (i + 2) L) (hv3 : vp_in (i + 3) L) (hv4 : vp_in (i + 4) L) {z : Int32 × KS} (hz : f_L_events a (xs (i + 1).toNatClampNeg) = some z) {w : Int32 × MS} (hw : f_X9_events b (xs (i + 1).toNatClampNeg) = some w) {t : Int32} (ht : f_X9_thrown w.2  = some t) (e1 : t = z.1) (e2 : z.1 = 0 → (Kou z.2 0) = w.1.toInt64) (kk : ∀ ad' : Nat → Nat, AG ad ad' (Kn a) → J p l e R s m args below meth c G A 9 Q (k + 5) (n + 39) ad' z.2 w.2 1757 [(0, .ref sc), (1, .ref (ad' 0)), (2, .ref (ad' 100)), (3, .ref (ad' 19)), (4, .int i)] []) : J p l e R s m args below meth c G A 9 Q k n ad a b 1283 [(0, .ref sc), (1, .ref (ad 0)), (2, .ref (ad 100)), (3, .ref (ad 19)), (4, .int i)] [] := by
  refine j_aload_n C 1 rfl dL_law_1283 ?_
  refine j_aload_n C 0 rfl dL_law_1284 ?_
  refine j_iload C 4 rfl dL_law_1285 ?_
  refine j_iconst C (v := 1) rfl dL_law_1287 ?_
  refine j_iadd C dL_law_1288 ?_
  refine j_sld C hX hv1 dL_law_1289 ?_
  refine j_aload_n C 3 rfl dL_law_1290 ?_
  refine j_wcallS (As := [.ref (ad 0), .int (xs (i + 1).toNatClampNeg), .ref (ad 19)]) (rest := []) C (k_L_events hst hz) cw_L_events ml_L_193 rfl ⟨Nat.le_trans (Nat.le_of_ble_eq_true rfl) hF, Nat.le_trans (Nat.le_of_ble_eq_true rfl) hM⟩ ⟨by show k + 1 ≤ R.cells; omega, by show n + 6 ≤ R.slots; omega⟩ rfl (Nat.le_of_ble_eq_true rfl) dL_law_1291 (fun ad9 hg9 => ?_)
  rw [← hg9 0 m_0, ← hg9 19 m_19, ← hg9 100 m_100]
  refine j_widen (k + 5) (n + 39) (by show k + 1 ≤ k + 5; omega) (by show n + 6 ≤ n + 39; omega) ?_
  refine j_istore C (i := 5) dL_law_1294 (by decide) rfl ?_
  refine j_aload_n C 3 rfl dL_law_1296 ?_
  refine j_aload_n C 1 rfl dL_law_1297 ?_
  refine j_iload C 5 rfl dL_law_1298 ?_
  refine j_iconst C (v := 1) rfl dL_law_1300 ?_
  refine j_iadd C dL_law_1301 ?_
  refine j_sld C hX hv1 dL_law_1302 ?_
  refine j_callV (q := 100) (As := [.int (xs (i + 1).toNatClampNeg)]) (rest := []) C (k_X9_events hw) cw_X9_events ml_L_195 m_100 ce_100 rfl rfl ⟨Nat.le_trans (Nat.le_of_ble_eq_true rfl) hF, Nat.le_trans (Nat.le_of_ble_eq_true rfl) hM⟩ hC rfl (Nat.le_of_ble_eq_true rfl) dL_law_1303 ?_
  refine j_widen (k + 5) (n + 39) (Nat.le_refl (k + 5)) (Nat.le_refl (n + 39)) ?_
  refine j_istore C (i := 6) dL_law_1306 (by decide) rfl ?_
  refine j_aload_n C 4 rfl dL_law_1308 ?_
  refine j_callV (q := 100) (As := []) (rest := []) C (k_X9_thrown ht) cw_X9_thrown ml_L_96 m_100 ce_100 rfl rfl ⟨Nat.le_trans (Nat.le_of_ble_eq_true rfl) hF, Nat.le_trans (Nat.le_of_ble_eq_true rfl) hM⟩ hC rfl (Nat.le_of_ble_eq_true rfl) dL_law_1309 ?_
  refine j_widen (k + 5) (n + 39) (Nat.le_refl (k + 5)) (Nat.le_refl (n + 39)) ?_
  refine j_iload C 1 rfl dL_law_1312 ?_
  refine j_icmp_eq C (X := Unit) (f := ()) (g := ()) (r := ()) 1319 dL_law_1314 rfl (ite_self _) (fun _ _ => ?_) (fun h9 _ => absurd e1 h9)
  refine j_iload C 1 rfl dL_law_1319 ?_
  refine j_if_ne C (X := Unit) (f := ()) (g := ()) (r := ()) 1336 dL_law_1321 rfl (ite_self _) (fun _ _ => ?_) (fun h8 _ => ?_)
  ·
    refine j_goto C 1757 dL_law_1336 rfl ?_
    refine j_sub [2, 3, 4, 5, 6] rfl ?_
    exact kk ad9 hg9
  have h8 := Classical.not_not.mp h8
  refine j_aload_n C 5 rfl dL_law_1324 ?_
  refine j_iconst C (v := 0) rfl dL_law_1325 ?_
  refine j_lald (X := Unit) (x := some ()) (r := ()) C m_19 ce_19 rfl dL_law_1326 (fun _ => ?_)
  refine j_iload C 0 rfl dL_law_1327 ?_
  refine j_i2l C dL_law_1329 ?_
  refine j_lcmp C dL_law_1330 ?_
  refine j_if_eq C (X := Unit) (f := ()) (g := ()) (r := ()) 1336 dL_law_1331 rfl (ite_self _) (fun _ _ => ?_) (fun h9 _ => absurd (lcmp_eq (e2 h8)) h9)
  refine j_goto C 1757 dL_law_1336 rfl ?_
  refine j_sub [2, 3, 4, 5, 6] rfl ?_
  exact kk ad9 hg9
set_option maxHeartbeats 1000000 in
theorem q_28 (C : CX G A RL cL_law 9 p s m args c) (hX : SX A sc L xs s) (hst : l.stackTraces = false) (hF : 14 ≤ R.frames) (hM : 530 ≤ R.locals) (hC : k + 5 ≤ R.cells ∧ n + 39 ≤ R.slots) (hv1 : vp_in (i + 1) L) (hv2 : vp_in (i + 2) L) (hv3 : vp_in (i + 3) L) (hv4 : vp_in (i + 4) L) {z : Int32 × KS} (hz : f_L_ifTurned a (xs (i + 1).toNatClampNeg) = some z) {w : Int32 × MS} (hw : f_X9_ifTurned b (xs (i + 1).toNatClampNeg) = some w) {t : Int32} (ht : f_X9_thrown w.2  = some t) (e1 : t = z.1) (e2 : z.1 = 0 → (Kou z.2 0) = w.1.toInt64) (kk : ∀ ad' : Nat → Nat, AG ad ad' (Kn a) → J p l e R s m args below meth c G A 9 Q (k + 5) (n + 39) ad' z.2 w.2 1757 [(0, .ref sc), (1, .ref (ad' 0)), (2, .ref (ad' 100)), (3, .ref (ad' 19)), (4, .int i)] []) : J p l e R s m args below meth c G A 9 Q k n ad a b 1339 [(0, .ref sc), (1, .ref (ad 0)), (2, .ref (ad 100)), (3, .ref (ad 19)), (4, .int i)] [] := by
  refine j_aload_n C 1 rfl dL_law_1339 ?_
  refine j_aload_n C 0 rfl dL_law_1340 ?_
  refine j_iload C 4 rfl dL_law_1341 ?_
  refine j_iconst C (v := 1) rfl dL_law_1343 ?_
  refine j_iadd C dL_law_1344 ?_
  refine j_sld C hX hv1 dL_law_1345 ?_
  refine j_aload_n C 3 rfl dL_law_1346 ?_
  refine j_wcallS (As := [.ref (ad 0), .int (xs (i + 1).toNatClampNeg), .ref (ad 19)]) (rest := []) C (k_L_ifTurned hst hz) cw_L_ifTurned ml_L_196 rfl ⟨Nat.le_trans (Nat.le_of_ble_eq_true rfl) hF, Nat.le_trans (Nat.le_of_ble_eq_true rfl) hM⟩ ⟨by show k + 1 ≤ R.cells; omega, by show n + 6 ≤ R.slots; omega⟩ rfl (Nat.le_of_ble_eq_true rfl) dL_law_1347 (fun ad9 hg9 => ?_)
  rw [← hg9 0 m_0, ← hg9 19 m_19, ← hg9 100 m_100]
  refine j_widen (k + 5) (n + 39) (by show k + 1 ≤ k + 5; omega) (by show n + 6 ≤ n + 39; omega) ?_
  refine j_istore C (i := 5) dL_law_1350 (by decide) rfl ?_
  refine j_aload_n C 3 rfl dL_law_1352 ?_
  refine j_aload_n C 1 rfl dL_law_1353 ?_
  refine j_iload C 5 rfl dL_law_1354 ?_
  refine j_iconst C (v := 1) rfl dL_law_1356 ?_
  refine j_iadd C dL_law_1357 ?_
  refine j_sld C hX hv1 dL_law_1358 ?_
  refine j_callV (q := 100) (As := [.int (xs (i + 1).toNatClampNeg)]) (rest := []) C (k_X9_ifTurned hw) cw_X9_ifTurned ml_L_198 m_100 ce_100 rfl rfl ⟨Nat.le_trans (Nat.le_of_ble_eq_true rfl) hF, Nat.le_trans (Nat.le_of_ble_eq_true rfl) hM⟩ hC rfl (Nat.le_of_ble_eq_true rfl) dL_law_1359 ?_
  refine j_widen (k + 5) (n + 39) (Nat.le_refl (k + 5)) (Nat.le_refl (n + 39)) ?_
  refine j_istore C (i := 6) dL_law_1362 (by decide) rfl ?_
  refine j_aload_n C 4 rfl dL_law_1364 ?_
  refine j_callV (q := 100) (As := []) (rest := []) C (k_X9_thrown ht) cw_X9_thrown ml_L_96 m_100 ce_100 rfl rfl ⟨Nat.le_trans (Nat.le_of_ble_eq_true rfl) hF, Nat.le_trans (Nat.le_of_ble_eq_true rfl) hM⟩ hC rfl (Nat.le_of_ble_eq_true rfl) dL_law_1365 ?_
  refine j_widen (k + 5) (n + 39) (Nat.le_refl (k + 5)) (Nat.le_refl (n + 39)) ?_
  refine j_iload C 1 rfl dL_law_1368 ?_
  refine j_icmp_eq C (X := Unit) (f := ()) (g := ()) (r := ()) 1375 dL_law_1370 rfl (ite_self _) (fun _ _ => ?_) (fun h9 _ => absurd e1 h9)
  refine j_iload C 1 rfl dL_law_1375 ?_
  refine j_if_ne C (X := Unit) (f := ()) (g := ()) (r := ()) 1392 dL_law_1377 rfl (ite_self _) (fun _ _ => ?_) (fun h8 _ => ?_)
  ·
    refine j_goto C 1757 dL_law_1392 rfl ?_
    refine j_sub [2, 3, 4, 5, 6] rfl ?_
    exact kk ad9 hg9
  have h8 := Classical.not_not.mp h8
  refine j_aload_n C 5 rfl dL_law_1380 ?_
  refine j_iconst C (v := 0) rfl dL_law_1381 ?_
  refine j_lald (X := Unit) (x := some ()) (r := ()) C m_19 ce_19 rfl dL_law_1382 (fun _ => ?_)
  refine j_iload C 0 rfl dL_law_1383 ?_
  refine j_i2l C dL_law_1385 ?_
  refine j_lcmp C dL_law_1386 ?_
  refine j_if_eq C (X := Unit) (f := ()) (g := ()) (r := ()) 1392 dL_law_1387 rfl (ite_self _) (fun _ _ => ?_) (fun h9 _ => absurd (lcmp_eq (e2 h8)) h9)
  refine j_goto C 1757 dL_law_1392 rfl ?_
  refine j_sub [2, 3, 4, 5, 6] rfl ?_
  exact kk ad9 hg9
set_option maxHeartbeats 1000000 in
theorem q_29 (C : CX G A RL cL_law 9 p s m args c) (hX : SX A sc L xs s) (hst : l.stackTraces = false) (hF : 14 ≤ R.frames) (hM : 530 ≤ R.locals) (hC : k + 5 ≤ R.cells ∧ n + 39 ≤ R.slots) (hv1 : vp_in (i + 1) L) (hv2 : vp_in (i + 2) L) (hv3 : vp_in (i + 3) L) (hv4 : vp_in (i + 4) L) {z : Int32 × KS} (hz : f_L_pressesTo a (xs (i + 1).toNatClampNeg) = some z) {w : Int32 × MS} (hw : f_X9_pressesTo b (xs (i + 1).toNatClampNeg) = some w) {t : Int32} (ht : f_X9_thrown w.2  = some t) (e1 : t = z.1) (e2 : z.1 = 0 → (Kou z.2 0) = w.1.toInt64) (kk : ∀ ad' : Nat → Nat, AG ad ad' (Kn a) → J p l e R s m args below meth c G A 9 Q (k + 5) (n + 39) ad' z.2 w.2 1757 [(0, .ref sc), (1, .ref (ad' 0)), (2, .ref (ad' 100)), (3, .ref (ad' 19)), (4, .int i)] []) : J p l e R s m args below meth c G A 9 Q k n ad a b 1395 [(0, .ref sc), (1, .ref (ad 0)), (2, .ref (ad 100)), (3, .ref (ad 19)), (4, .int i)] [] := by
  refine j_aload_n C 1 rfl dL_law_1395 ?_
  refine j_aload_n C 0 rfl dL_law_1396 ?_
  refine j_iload C 4 rfl dL_law_1397 ?_
  refine j_iconst C (v := 1) rfl dL_law_1399 ?_
  refine j_iadd C dL_law_1400 ?_
  refine j_sld C hX hv1 dL_law_1401 ?_
  refine j_aload_n C 3 rfl dL_law_1402 ?_
  refine j_wcallS (As := [.ref (ad 0), .int (xs (i + 1).toNatClampNeg), .ref (ad 19)]) (rest := []) C (k_L_pressesTo hst hz) cw_L_pressesTo ml_L_199 rfl ⟨Nat.le_trans (Nat.le_of_ble_eq_true rfl) hF, Nat.le_trans (Nat.le_of_ble_eq_true rfl) hM⟩ ⟨by show k + 1 ≤ R.cells; omega, by show n + 6 ≤ R.slots; omega⟩ rfl (Nat.le_of_ble_eq_true rfl) dL_law_1403 (fun ad9 hg9 => ?_)
  rw [← hg9 0 m_0, ← hg9 19 m_19, ← hg9 100 m_100]
  refine j_widen (k + 5) (n + 39) (by show k + 1 ≤ k + 5; omega) (by show n + 6 ≤ n + 39; omega) ?_
  refine j_istore C (i := 5) dL_law_1406 (by decide) rfl ?_
  refine j_aload_n C 3 rfl dL_law_1408 ?_
  refine j_aload_n C 1 rfl dL_law_1409 ?_
  refine j_iload C 5 rfl dL_law_1410 ?_
  refine j_iconst C (v := 1) rfl dL_law_1412 ?_
  refine j_iadd C dL_law_1413 ?_
  refine j_sld C hX hv1 dL_law_1414 ?_
  refine j_callV (q := 100) (As := [.int (xs (i + 1).toNatClampNeg)]) (rest := []) C (k_X9_pressesTo hw) cw_X9_pressesTo ml_L_201 m_100 ce_100 rfl rfl ⟨Nat.le_trans (Nat.le_of_ble_eq_true rfl) hF, Nat.le_trans (Nat.le_of_ble_eq_true rfl) hM⟩ hC rfl (Nat.le_of_ble_eq_true rfl) dL_law_1415 ?_
  refine j_widen (k + 5) (n + 39) (Nat.le_refl (k + 5)) (Nat.le_refl (n + 39)) ?_
  refine j_istore C (i := 6) dL_law_1418 (by decide) rfl ?_
  refine j_aload_n C 4 rfl dL_law_1420 ?_
  refine j_callV (q := 100) (As := []) (rest := []) C (k_X9_thrown ht) cw_X9_thrown ml_L_96 m_100 ce_100 rfl rfl ⟨Nat.le_trans (Nat.le_of_ble_eq_true rfl) hF, Nat.le_trans (Nat.le_of_ble_eq_true rfl) hM⟩ hC rfl (Nat.le_of_ble_eq_true rfl) dL_law_1421 ?_
  refine j_widen (k + 5) (n + 39) (Nat.le_refl (k + 5)) (Nat.le_refl (n + 39)) ?_
  refine j_iload C 1 rfl dL_law_1424 ?_
  refine j_icmp_eq C (X := Unit) (f := ()) (g := ()) (r := ()) 1431 dL_law_1426 rfl (ite_self _) (fun _ _ => ?_) (fun h9 _ => absurd e1 h9)
  refine j_iload C 1 rfl dL_law_1431 ?_
  refine j_if_ne C (X := Unit) (f := ()) (g := ()) (r := ()) 1448 dL_law_1433 rfl (ite_self _) (fun _ _ => ?_) (fun h8 _ => ?_)
  ·
    refine j_goto C 1757 dL_law_1448 rfl ?_
    refine j_sub [2, 3, 4, 5, 6] rfl ?_
    exact kk ad9 hg9
  have h8 := Classical.not_not.mp h8
  refine j_aload_n C 5 rfl dL_law_1436 ?_
  refine j_iconst C (v := 0) rfl dL_law_1437 ?_
  refine j_lald (X := Unit) (x := some ()) (r := ()) C m_19 ce_19 rfl dL_law_1438 (fun _ => ?_)
  refine j_iload C 0 rfl dL_law_1439 ?_
  refine j_i2l C dL_law_1441 ?_
  refine j_lcmp C dL_law_1442 ?_
  refine j_if_eq C (X := Unit) (f := ()) (g := ()) (r := ()) 1448 dL_law_1443 rfl (ite_self _) (fun _ _ => ?_) (fun h9 _ => absurd (lcmp_eq (e2 h8)) h9)
  refine j_goto C 1757 dL_law_1448 rfl ?_
  refine j_sub [2, 3, 4, 5, 6] rfl ?_
  exact kk ad9 hg9
set_option maxHeartbeats 1000000 in
theorem q_30 (C : CX G A RL cL_law 9 p s m args c) (hX : SX A sc L xs s) (hst : l.stackTraces = false) (hF : 14 ≤ R.frames) (hM : 530 ≤ R.locals) (hC : k + 5 ≤ R.cells ∧ n + 39 ≤ R.slots) (hv1 : vp_in (i + 1) L) (hv2 : vp_in (i + 2) L) (hv3 : vp_in (i + 3) L) (hv4 : vp_in (i + 4) L) {z : Int32 × KS} (hz : f_L_detentsTo a (xs (i + 1).toNatClampNeg) = some z) {w : Int32 × MS} (hw : f_X9_detentsTo b (xs (i + 1).toNatClampNeg) = some w) {t : Int32} (ht : f_X9_thrown w.2  = some t) (e1 : t = z.1) (e2 : z.1 = 0 → (Kou z.2 0) = w.1.toInt64) (kk : ∀ ad' : Nat → Nat, AG ad ad' (Kn a) → J p l e R s m args below meth c G A 9 Q (k + 5) (n + 39) ad' z.2 w.2 1757 [(0, .ref sc), (1, .ref (ad' 0)), (2, .ref (ad' 100)), (3, .ref (ad' 19)), (4, .int i)] []) : J p l e R s m args below meth c G A 9 Q k n ad a b 1451 [(0, .ref sc), (1, .ref (ad 0)), (2, .ref (ad 100)), (3, .ref (ad 19)), (4, .int i)] [] := by
  refine j_aload_n C 1 rfl dL_law_1451 ?_
  refine j_aload_n C 0 rfl dL_law_1452 ?_
  refine j_iload C 4 rfl dL_law_1453 ?_
  refine j_iconst C (v := 1) rfl dL_law_1455 ?_
  refine j_iadd C dL_law_1456 ?_
  refine j_sld C hX hv1 dL_law_1457 ?_
  refine j_aload_n C 3 rfl dL_law_1458 ?_
  refine j_wcallS (As := [.ref (ad 0), .int (xs (i + 1).toNatClampNeg), .ref (ad 19)]) (rest := []) C (k_L_detentsTo hst hz) cw_L_detentsTo ml_L_202 rfl ⟨Nat.le_trans (Nat.le_of_ble_eq_true rfl) hF, Nat.le_trans (Nat.le_of_ble_eq_true rfl) hM⟩ ⟨by show k + 1 ≤ R.cells; omega, by show n + 6 ≤ R.slots; omega⟩ rfl (Nat.le_of_ble_eq_true rfl) dL_law_1459 (fun ad9 hg9 => ?_)
  rw [← hg9 0 m_0, ← hg9 19 m_19, ← hg9 100 m_100]
  refine j_widen (k + 5) (n + 39) (by show k + 1 ≤ k + 5; omega) (by show n + 6 ≤ n + 39; omega) ?_
  refine j_istore C (i := 5) dL_law_1462 (by decide) rfl ?_
  refine j_aload_n C 3 rfl dL_law_1464 ?_
  refine j_aload_n C 1 rfl dL_law_1465 ?_
  refine j_iload C 5 rfl dL_law_1466 ?_
  refine j_iconst C (v := 1) rfl dL_law_1468 ?_
  refine j_iadd C dL_law_1469 ?_
  refine j_sld C hX hv1 dL_law_1470 ?_
  refine j_callV (q := 100) (As := [.int (xs (i + 1).toNatClampNeg)]) (rest := []) C (k_X9_detentsTo hw) cw_X9_detentsTo ml_L_204 m_100 ce_100 rfl rfl ⟨Nat.le_trans (Nat.le_of_ble_eq_true rfl) hF, Nat.le_trans (Nat.le_of_ble_eq_true rfl) hM⟩ hC rfl (Nat.le_of_ble_eq_true rfl) dL_law_1471 ?_
  refine j_widen (k + 5) (n + 39) (Nat.le_refl (k + 5)) (Nat.le_refl (n + 39)) ?_
  refine j_istore C (i := 6) dL_law_1474 (by decide) rfl ?_
  refine j_aload_n C 4 rfl dL_law_1476 ?_
  refine j_callV (q := 100) (As := []) (rest := []) C (k_X9_thrown ht) cw_X9_thrown ml_L_96 m_100 ce_100 rfl rfl ⟨Nat.le_trans (Nat.le_of_ble_eq_true rfl) hF, Nat.le_trans (Nat.le_of_ble_eq_true rfl) hM⟩ hC rfl (Nat.le_of_ble_eq_true rfl) dL_law_1477 ?_
  refine j_widen (k + 5) (n + 39) (Nat.le_refl (k + 5)) (Nat.le_refl (n + 39)) ?_
  refine j_iload C 1 rfl dL_law_1480 ?_
  refine j_icmp_eq C (X := Unit) (f := ()) (g := ()) (r := ()) 1487 dL_law_1482 rfl (ite_self _) (fun _ _ => ?_) (fun h9 _ => absurd e1 h9)
  refine j_iload C 1 rfl dL_law_1487 ?_
  refine j_if_ne C (X := Unit) (f := ()) (g := ()) (r := ()) 1504 dL_law_1489 rfl (ite_self _) (fun _ _ => ?_) (fun h8 _ => ?_)
  ·
    refine j_goto C 1757 dL_law_1504 rfl ?_
    refine j_sub [2, 3, 4, 5, 6] rfl ?_
    exact kk ad9 hg9
  have h8 := Classical.not_not.mp h8
  refine j_aload_n C 5 rfl dL_law_1492 ?_
  refine j_iconst C (v := 0) rfl dL_law_1493 ?_
  refine j_lald (X := Unit) (x := some ()) (r := ()) C m_19 ce_19 rfl dL_law_1494 (fun _ => ?_)
  refine j_iload C 0 rfl dL_law_1495 ?_
  refine j_i2l C dL_law_1497 ?_
  refine j_lcmp C dL_law_1498 ?_
  refine j_if_eq C (X := Unit) (f := ()) (g := ()) (r := ()) 1504 dL_law_1499 rfl (ite_self _) (fun _ _ => ?_) (fun h9 _ => absurd (lcmp_eq (e2 h8)) h9)
  refine j_goto C 1757 dL_law_1504 rfl ?_
  refine j_sub [2, 3, 4, 5, 6] rfl ?_
  exact kk ad9 hg9
set_option maxHeartbeats 1000000 in
theorem q_31 (C : CX G A RL cL_law 9 p s m args c) (hX : SX A sc L xs s) (hst : l.stackTraces = false) (hF : 14 ≤ R.frames) (hM : 530 ≤ R.locals) (hC : k + 5 ≤ R.cells ∧ n + 39 ≤ R.slots) (hv1 : vp_in (i + 1) L) (hv2 : vp_in (i + 2) L) (hv3 : vp_in (i + 3) L) (hv4 : vp_in (i + 4) L) {z : Int32 × KS} (hz : f_L_codesTo a (xs (i + 1).toNatClampNeg) = some z) {w : Int32 × MS} (hw : f_X9_codesTo b (xs (i + 1).toNatClampNeg) = some w) {t : Int32} (ht : f_X9_thrown w.2  = some t) (e1 : t = z.1) (e2 : z.1 = 0 → (Kou z.2 0) = w.1.toInt64) (kk : ∀ ad' : Nat → Nat, AG ad ad' (Kn a) → J p l e R s m args below meth c G A 9 Q (k + 5) (n + 39) ad' z.2 w.2 1757 [(0, .ref sc), (1, .ref (ad' 0)), (2, .ref (ad' 100)), (3, .ref (ad' 19)), (4, .int i)] []) : J p l e R s m args below meth c G A 9 Q k n ad a b 1507 [(0, .ref sc), (1, .ref (ad 0)), (2, .ref (ad 100)), (3, .ref (ad 19)), (4, .int i)] [] := by
  refine j_aload_n C 1 rfl dL_law_1507 ?_
  refine j_aload_n C 0 rfl dL_law_1508 ?_
  refine j_iload C 4 rfl dL_law_1509 ?_
  refine j_iconst C (v := 1) rfl dL_law_1511 ?_
  refine j_iadd C dL_law_1512 ?_
  refine j_sld C hX hv1 dL_law_1513 ?_
  refine j_aload_n C 3 rfl dL_law_1514 ?_
  refine j_wcallS (As := [.ref (ad 0), .int (xs (i + 1).toNatClampNeg), .ref (ad 19)]) (rest := []) C (k_L_codesTo hst hz) cw_L_codesTo ml_L_205 rfl ⟨Nat.le_trans (Nat.le_of_ble_eq_true rfl) hF, Nat.le_trans (Nat.le_of_ble_eq_true rfl) hM⟩ ⟨by show k + 1 ≤ R.cells; omega, by show n + 6 ≤ R.slots; omega⟩ rfl (Nat.le_of_ble_eq_true rfl) dL_law_1515 (fun ad9 hg9 => ?_)
  rw [← hg9 0 m_0, ← hg9 19 m_19, ← hg9 100 m_100]
  refine j_widen (k + 5) (n + 39) (by show k + 1 ≤ k + 5; omega) (by show n + 6 ≤ n + 39; omega) ?_
  refine j_istore C (i := 5) dL_law_1518 (by decide) rfl ?_
  refine j_aload_n C 3 rfl dL_law_1520 ?_
  refine j_aload_n C 1 rfl dL_law_1521 ?_
  refine j_iload C 5 rfl dL_law_1522 ?_
  refine j_iconst C (v := 1) rfl dL_law_1524 ?_
  refine j_iadd C dL_law_1525 ?_
  refine j_sld C hX hv1 dL_law_1526 ?_
  refine j_callV (q := 100) (As := [.int (xs (i + 1).toNatClampNeg)]) (rest := []) C (k_X9_codesTo hw) cw_X9_codesTo ml_L_207 m_100 ce_100 rfl rfl ⟨Nat.le_trans (Nat.le_of_ble_eq_true rfl) hF, Nat.le_trans (Nat.le_of_ble_eq_true rfl) hM⟩ hC rfl (Nat.le_of_ble_eq_true rfl) dL_law_1527 ?_
  refine j_widen (k + 5) (n + 39) (Nat.le_refl (k + 5)) (Nat.le_refl (n + 39)) ?_
  refine j_istore C (i := 6) dL_law_1530 (by decide) rfl ?_
  refine j_aload_n C 4 rfl dL_law_1532 ?_
  refine j_callV (q := 100) (As := []) (rest := []) C (k_X9_thrown ht) cw_X9_thrown ml_L_96 m_100 ce_100 rfl rfl ⟨Nat.le_trans (Nat.le_of_ble_eq_true rfl) hF, Nat.le_trans (Nat.le_of_ble_eq_true rfl) hM⟩ hC rfl (Nat.le_of_ble_eq_true rfl) dL_law_1533 ?_
  refine j_widen (k + 5) (n + 39) (Nat.le_refl (k + 5)) (Nat.le_refl (n + 39)) ?_
  refine j_iload C 1 rfl dL_law_1536 ?_
  refine j_icmp_eq C (X := Unit) (f := ()) (g := ()) (r := ()) 1543 dL_law_1538 rfl (ite_self _) (fun _ _ => ?_) (fun h9 _ => absurd e1 h9)
  refine j_iload C 1 rfl dL_law_1543 ?_
  refine j_if_ne C (X := Unit) (f := ()) (g := ()) (r := ()) 1560 dL_law_1545 rfl (ite_self _) (fun _ _ => ?_) (fun h8 _ => ?_)
  ·
    refine j_goto C 1757 dL_law_1560 rfl ?_
    refine j_sub [2, 3, 4, 5, 6] rfl ?_
    exact kk ad9 hg9
  have h8 := Classical.not_not.mp h8
  refine j_aload_n C 5 rfl dL_law_1548 ?_
  refine j_iconst C (v := 0) rfl dL_law_1549 ?_
  refine j_lald (X := Unit) (x := some ()) (r := ()) C m_19 ce_19 rfl dL_law_1550 (fun _ => ?_)
  refine j_iload C 0 rfl dL_law_1551 ?_
  refine j_i2l C dL_law_1553 ?_
  refine j_lcmp C dL_law_1554 ?_
  refine j_if_eq C (X := Unit) (f := ()) (g := ()) (r := ()) 1560 dL_law_1555 rfl (ite_self _) (fun _ _ => ?_) (fun h9 _ => absurd (lcmp_eq (e2 h8)) h9)
  refine j_goto C 1757 dL_law_1560 rfl ?_
  refine j_sub [2, 3, 4, 5, 6] rfl ?_
  exact kk ad9 hg9
set_option maxHeartbeats 1000000 in
theorem q_32 (C : CX G A RL cL_law 9 p s m args c) (hX : SX A sc L xs s) (hst : l.stackTraces = false) (hF : 14 ≤ R.frames) (hM : 530 ≤ R.locals) (hC : k + 5 ≤ R.cells ∧ n + 39 ≤ R.slots) (hv1 : vp_in (i + 1) L) (hv2 : vp_in (i + 2) L) (hv3 : vp_in (i + 3) L) (hv4 : vp_in (i + 4) L) {z : Int32} (hz : f_X8_ticksToHome a  = some z) {w : Int32 × MS} (hw : f_X9_ticksToHome b  = some w) (e1 : z = w.1) (kk : ∀ ad' : Nat → Nat, AG ad ad' (Kn a) → J p l e R s m args below meth c G A 9 Q (k + 5) (n + 39) ad' a w.2 1757 [(0, .ref sc), (1, .ref (ad' 0)), (2, .ref (ad' 100)), (3, .ref (ad' 19)), (4, .int i)] []) : J p l e R s m args below meth c G A 9 Q k n ad a b 1563 [(0, .ref sc), (1, .ref (ad 0)), (2, .ref (ad 100)), (3, .ref (ad 19)), (4, .int i)] [] := by
  refine j_widen (k + 5) (n + 39) (Nat.le_add_right _ _) (Nat.le_add_right _ _) ?_
  refine j_aload_n C 1 rfl dL_law_1563 ?_
  refine j_callV (q := 0) (As := []) (rest := []) C (k_X8_ticksToHome hz) cw_X8_ticksToHome ml_L_208 m_0 ce_0 rfl rfl ⟨Nat.le_trans (Nat.le_of_ble_eq_true rfl) hF, Nat.le_trans (Nat.le_of_ble_eq_true rfl) hM⟩ hC rfl (Nat.le_of_ble_eq_true rfl) dL_law_1564 ?_
  refine j_widen (k + 5) (n + 39) (Nat.le_refl (k + 5)) (Nat.le_refl (n + 39)) ?_
  refine j_aload_n C 2 rfl dL_law_1567 ?_
  refine j_callV (q := 100) (As := []) (rest := [.int z]) C (k_X9_ticksToHome hw) cw_X9_ticksToHome ml_L_211 m_100 ce_100 rfl rfl ⟨Nat.le_trans (Nat.le_of_ble_eq_true rfl) hF, Nat.le_trans (Nat.le_of_ble_eq_true rfl) hM⟩ hC rfl (Nat.le_of_ble_eq_true rfl) dL_law_1568 ?_
  refine j_widen (k + 5) (n + 39) (Nat.le_refl (k + 5)) (Nat.le_refl (n + 39)) ?_
  refine j_icmp_eq C (X := Unit) (f := ()) (g := ()) (r := ()) 1757 dL_law_1571 rfl (ite_self _) (fun _ _ => ?_) (fun h9 _ => absurd e1 h9)
  refine j_sub [0, 1, 2, 3, 4] rfl ?_
  exact kk ad (fun _ _ => rfl)
set_option maxHeartbeats 1000000 in
theorem q_33 (C : CX G A RL cL_law 9 p s m args c) (hX : SX A sc L xs s) (hst : l.stackTraces = false) (hF : 14 ≤ R.frames) (hM : 530 ≤ R.locals) (hC : k + 5 ≤ R.cells ∧ n + 39 ≤ R.slots) (hv1 : vp_in (i + 1) L) (hv2 : vp_in (i + 2) L) (hv3 : vp_in (i + 3) L) (hv4 : vp_in (i + 4) L) {z : UInt64} (hz : f_X8_fraction a  = some z) {w : UInt64 × MS} (hw : f_X9_fraction b  = some w) (e2 : z = w.1) (kk : ∀ ad' : Nat → Nat, AG ad ad' (Kn a) → J p l e R s m args below meth c G A 9 Q (k + 5) (n + 39) ad' a w.2 1757 [(0, .ref sc), (1, .ref (ad' 0)), (2, .ref (ad' 100)), (3, .ref (ad' 19)), (4, .int i)] []) : J p l e R s m args below meth c G A 9 Q k n ad a b 1576 [(0, .ref sc), (1, .ref (ad 0)), (2, .ref (ad 100)), (3, .ref (ad 19)), (4, .int i)] [] := by
  refine j_widen (k + 5) (n + 39) (Nat.le_add_right _ _) (Nat.le_add_right _ _) ?_
  refine j_aload_n C 1 rfl dL_law_1576 ?_
  refine j_callV (q := 0) (As := []) (rest := []) C (k_X8_fraction hz) cw_X8_fraction ml_L_212 m_0 ce_0 rfl rfl ⟨Nat.le_trans (Nat.le_of_ble_eq_true rfl) hF, Nat.le_trans (Nat.le_of_ble_eq_true rfl) hM⟩ hC rfl (Nat.le_of_ble_eq_true rfl) dL_law_1577 ?_
  refine j_widen (k + 5) (n + 39) (Nat.le_refl (k + 5)) (Nat.le_refl (n + 39)) ?_
  refine j_dstore C (i := 5) dL_law_1580 (by decide) rfl ?_
  refine j_aload_n C 3 rfl dL_law_1582 ?_
  refine j_callV (q := 100) (As := []) (rest := []) C (k_X9_fraction hw) cw_X9_fraction ml_L_216 m_100 ce_100 rfl rfl ⟨Nat.le_trans (Nat.le_of_ble_eq_true rfl) hF, Nat.le_trans (Nat.le_of_ble_eq_true rfl) hM⟩ hC rfl (Nat.le_of_ble_eq_true rfl) dL_law_1583 ?_
  refine j_widen (k + 5) (n + 39) (Nat.le_refl (k + 5)) (Nat.le_refl (n + 39)) ?_
  refine j_dstore C (i := 7) dL_law_1586 (by decide) rfl ?_
  refine j_dload C 1 rfl dL_law_1588 ?_
  refine j_dload C 0 rfl dL_law_1590 ?_
  refine j_dcmp C dL_law_1592 ?_
  rw [← e2]
  refine j_if_eq C (X := Unit) (f := ()) (g := ()) (r := ()) 1614 dL_law_1593 rfl (ite_self _) (fun _ _ => ?_) (fun h9 _ => ?_)
  ·
    refine j_goto C 1757 dL_law_1614 rfl ?_
    refine j_sub [2, 3, 4, 5, 6] rfl ?_
    exact kk ad (fun _ _ => rfl)
  refine j_dload C 1 rfl dL_law_1596 ?_
  refine j_dload C 1 rfl dL_law_1598 ?_
  refine j_dcmp C dL_law_1600 ?_
  refine j_if_eq C (X := Unit) (f := ()) (g := ()) (r := ()) 1612 dL_law_1601 rfl (ite_self _) (fun h7 _ => absurd h7 h9) (fun _ _ => ?_)
  refine j_dload C 0 rfl dL_law_1604 ?_
  refine j_dload C 0 rfl dL_law_1606 ?_
  refine j_dcmp C dL_law_1608 ?_
  refine j_if_ne C (X := Unit) (f := ()) (g := ()) (r := ()) 1614 dL_law_1609 rfl (ite_self _) (fun _ _ => ?_) (fun h7 _ => absurd h9 h7)
  refine j_goto C 1757 dL_law_1614 rfl ?_
  refine j_sub [2, 3, 4, 5, 6] rfl ?_
  exact kk ad (fun _ _ => rfl)
set_option maxHeartbeats 1000000 in
theorem q_34 (C : CX G A RL cL_law 9 p s m args c) (hX : SX A sc L xs s) (hst : l.stackTraces = false) (hF : 14 ≤ R.frames) (hM : 530 ≤ R.locals) (hC : k + 5 ≤ R.cells ∧ n + 39 ≤ R.slots) (hv1 : vp_in (i + 1) L) (hv2 : vp_in (i + 2) L) (hv3 : vp_in (i + 3) L) (hv4 : vp_in (i + 4) L) {z : Int32 × KS} (hz : f_L_append a (xs (i + 1).toNatClampNeg) = some z) {w : Int32 × MS} (hw : f_X9_append b (xs (i + 1).toNatClampNeg) = some w) {t : Int32} (ht : f_X9_thrown w.2  = some t) (e1 : t = z.1) (e2 : z.1 = 0 → (Kou z.2 0) = w.1.toInt64) (kk : ∀ ad' : Nat → Nat, AG ad ad' (Kn a) → J p l e R s m args below meth c G A 9 Q (k + 5) (n + 39) ad' z.2 w.2 1757 [(0, .ref sc), (1, .ref (ad' 0)), (2, .ref (ad' 100)), (3, .ref (ad' 19)), (4, .int i)] []) : J p l e R s m args below meth c G A 9 Q k n ad a b 1617 [(0, .ref sc), (1, .ref (ad 0)), (2, .ref (ad 100)), (3, .ref (ad 19)), (4, .int i)] [] := by
  refine j_aload_n C 1 rfl dL_law_1617 ?_
  refine j_aload_n C 0 rfl dL_law_1618 ?_
  refine j_iload C 4 rfl dL_law_1619 ?_
  refine j_iconst C (v := 1) rfl dL_law_1621 ?_
  refine j_iadd C dL_law_1622 ?_
  refine j_sld C hX hv1 dL_law_1623 ?_
  refine j_aload_n C 3 rfl dL_law_1624 ?_
  refine j_wcallS (As := [.ref (ad 0), .int (xs (i + 1).toNatClampNeg), .ref (ad 19)]) (rest := []) C (k_L_append hst hz) cw_L_append ml_L_217 rfl ⟨Nat.le_trans (Nat.le_of_ble_eq_true rfl) hF, Nat.le_trans (Nat.le_of_ble_eq_true rfl) hM⟩ ⟨by show k + 1 ≤ R.cells; omega, by show n + 6 ≤ R.slots; omega⟩ rfl (Nat.le_of_ble_eq_true rfl) dL_law_1625 (fun ad9 hg9 => ?_)
  rw [← hg9 0 m_0, ← hg9 19 m_19, ← hg9 100 m_100]
  refine j_widen (k + 5) (n + 39) (by show k + 1 ≤ k + 5; omega) (by show n + 6 ≤ n + 39; omega) ?_
  refine j_istore C (i := 5) dL_law_1628 (by decide) rfl ?_
  refine j_aload_n C 3 rfl dL_law_1630 ?_
  refine j_aload_n C 1 rfl dL_law_1631 ?_
  refine j_iload C 5 rfl dL_law_1632 ?_
  refine j_iconst C (v := 1) rfl dL_law_1634 ?_
  refine j_iadd C dL_law_1635 ?_
  refine j_sld C hX hv1 dL_law_1636 ?_
  refine j_callV (q := 100) (As := [.int (xs (i + 1).toNatClampNeg)]) (rest := []) C (k_X9_append hw) cw_X9_append ml_L_219 m_100 ce_100 rfl rfl ⟨Nat.le_trans (Nat.le_of_ble_eq_true rfl) hF, Nat.le_trans (Nat.le_of_ble_eq_true rfl) hM⟩ hC rfl (Nat.le_of_ble_eq_true rfl) dL_law_1637 ?_
  refine j_widen (k + 5) (n + 39) (Nat.le_refl (k + 5)) (Nat.le_refl (n + 39)) ?_
  refine j_istore C (i := 6) dL_law_1640 (by decide) rfl ?_
  refine j_aload_n C 4 rfl dL_law_1642 ?_
  refine j_callV (q := 100) (As := []) (rest := []) C (k_X9_thrown ht) cw_X9_thrown ml_L_96 m_100 ce_100 rfl rfl ⟨Nat.le_trans (Nat.le_of_ble_eq_true rfl) hF, Nat.le_trans (Nat.le_of_ble_eq_true rfl) hM⟩ hC rfl (Nat.le_of_ble_eq_true rfl) dL_law_1643 ?_
  refine j_widen (k + 5) (n + 39) (Nat.le_refl (k + 5)) (Nat.le_refl (n + 39)) ?_
  refine j_iload C 1 rfl dL_law_1646 ?_
  refine j_icmp_eq C (X := Unit) (f := ()) (g := ()) (r := ()) 1653 dL_law_1648 rfl (ite_self _) (fun _ _ => ?_) (fun h9 _ => absurd e1 h9)
  refine j_iload C 1 rfl dL_law_1653 ?_
  refine j_if_ne C (X := Unit) (f := ()) (g := ()) (r := ()) 1670 dL_law_1655 rfl (ite_self _) (fun _ _ => ?_) (fun h8 _ => ?_)
  ·
    refine j_goto C 1757 dL_law_1670 rfl ?_
    refine j_sub [2, 3, 4, 5, 6] rfl ?_
    exact kk ad9 hg9
  have h8 := Classical.not_not.mp h8
  refine j_aload_n C 5 rfl dL_law_1658 ?_
  refine j_iconst C (v := 0) rfl dL_law_1659 ?_
  refine j_lald (X := Unit) (x := some ()) (r := ()) C m_19 ce_19 rfl dL_law_1660 (fun _ => ?_)
  refine j_iload C 0 rfl dL_law_1661 ?_
  refine j_i2l C dL_law_1663 ?_
  refine j_lcmp C dL_law_1664 ?_
  refine j_if_eq C (X := Unit) (f := ()) (g := ()) (r := ()) 1670 dL_law_1665 rfl (ite_self _) (fun _ _ => ?_) (fun h9 _ => absurd (lcmp_eq (e2 h8)) h9)
  refine j_goto C 1757 dL_law_1670 rfl ?_
  refine j_sub [2, 3, 4, 5, 6] rfl ?_
  exact kk ad9 hg9
set_option maxHeartbeats 1000000 in
theorem q_35 (C : CX G A RL cL_law 9 p s m args c) (hX : SX A sc L xs s) (hst : l.stackTraces = false) (hF : 14 ≤ R.frames) (hM : 530 ≤ R.locals) (hC : k + 5 ≤ R.cells ∧ n + 39 ≤ R.slots) (hv1 : vp_in (i + 1) L) (hv2 : vp_in (i + 2) L) (hv3 : vp_in (i + 3) L) (hv4 : vp_in (i + 4) L) {z : Int32 × KS} (hz : f_X8_clearText a  = some z) {w : Int32 × MS} (hw : f_X9_clearText b  = some w) (e1 : z.1 = w.1) (kk : ∀ ad' : Nat → Nat, AG ad ad' (Kn a) → J p l e R s m args below meth c G A 9 Q (k + 5) (n + 39) ad' z.2 w.2 1757 [(0, .ref sc), (1, .ref (ad' 0)), (2, .ref (ad' 100)), (3, .ref (ad' 19)), (4, .int i)] []) : J p l e R s m args below meth c G A 9 Q k n ad a b 1673 [(0, .ref sc), (1, .ref (ad 0)), (2, .ref (ad 100)), (3, .ref (ad 19)), (4, .int i)] [] := by
  refine j_widen (k + 5) (n + 39) (Nat.le_add_right _ _) (Nat.le_add_right _ _) ?_
  refine j_aload_n C 1 rfl dL_law_1673 ?_
  refine j_callV (q := 0) (As := []) (rest := []) C (k_X8_clearText hz) cw_X8_clearText ml_L_220 m_0 ce_0 rfl rfl ⟨Nat.le_trans (Nat.le_of_ble_eq_true rfl) hF, Nat.le_trans (Nat.le_of_ble_eq_true rfl) hM⟩ hC rfl (Nat.le_of_ble_eq_true rfl) dL_law_1674 ?_
  refine j_widen (k + 5) (n + 39) (Nat.le_refl (k + 5)) (Nat.le_refl (n + 39)) ?_
  refine j_aload_n C 2 rfl dL_law_1677 ?_
  refine j_callV (q := 100) (As := []) (rest := [.int z.1]) C (k_X9_clearText hw) cw_X9_clearText ml_L_223 m_100 ce_100 rfl rfl ⟨Nat.le_trans (Nat.le_of_ble_eq_true rfl) hF, Nat.le_trans (Nat.le_of_ble_eq_true rfl) hM⟩ hC rfl (Nat.le_of_ble_eq_true rfl) dL_law_1678 ?_
  refine j_widen (k + 5) (n + 39) (Nat.le_refl (k + 5)) (Nat.le_refl (n + 39)) ?_
  refine j_icmp_eq C (X := Unit) (f := ()) (g := ()) (r := ()) 1757 dL_law_1681 rfl (ite_self _) (fun _ _ => ?_) (fun h9 _ => absurd e1 h9)
  refine j_sub [0, 1, 2, 3, 4] rfl ?_
  exact kk ad (fun _ _ => rfl)
set_option maxHeartbeats 1000000 in
theorem q_36 (C : CX G A RL cL_law 9 p s m args c) (hX : SX A sc L xs s) (hst : l.stackTraces = false) (hF : 14 ≤ R.frames) (hM : 530 ≤ R.locals) (hC : k + 5 ≤ R.cells ∧ n + 39 ≤ R.slots) (hv1 : vp_in (i + 1) L) (hv2 : vp_in (i + 2) L) (hv3 : vp_in (i + 3) L) (hv4 : vp_in (i + 4) L) {z : Int32 × KS} (hz : f_X8_firstError a  = some z) {w : Int32 × MS} (hw : f_X9_firstError b  = some w) (e1 : z.1 = w.1) (kk : ∀ ad' : Nat → Nat, AG ad ad' (Kn a) → J p l e R s m args below meth c G A 9 Q (k + 5) (n + 39) ad' z.2 w.2 1757 [(0, .ref sc), (1, .ref (ad' 0)), (2, .ref (ad' 100)), (3, .ref (ad' 19)), (4, .int i)] []) : J p l e R s m args below meth c G A 9 Q k n ad a b 1686 [(0, .ref sc), (1, .ref (ad 0)), (2, .ref (ad 100)), (3, .ref (ad 19)), (4, .int i)] [] := by
  refine j_widen (k + 5) (n + 39) (Nat.le_add_right _ _) (Nat.le_add_right _ _) ?_
  refine j_aload_n C 1 rfl dL_law_1686 ?_
  refine j_callV (q := 0) (As := []) (rest := []) C (k_X8_firstError hz) cw_X8_firstError ml_L_224 m_0 ce_0 rfl rfl ⟨Nat.le_trans (Nat.le_of_ble_eq_true rfl) hF, Nat.le_trans (Nat.le_of_ble_eq_true rfl) hM⟩ hC rfl (Nat.le_of_ble_eq_true rfl) dL_law_1687 ?_
  refine j_widen (k + 5) (n + 39) (Nat.le_refl (k + 5)) (Nat.le_refl (n + 39)) ?_
  refine j_aload_n C 2 rfl dL_law_1690 ?_
  refine j_callV (q := 100) (As := []) (rest := [.int z.1]) C (k_X9_firstError hw) cw_X9_firstError ml_L_227 m_100 ce_100 rfl rfl ⟨Nat.le_trans (Nat.le_of_ble_eq_true rfl) hF, Nat.le_trans (Nat.le_of_ble_eq_true rfl) hM⟩ hC rfl (Nat.le_of_ble_eq_true rfl) dL_law_1691 ?_
  refine j_widen (k + 5) (n + 39) (Nat.le_refl (k + 5)) (Nat.le_refl (n + 39)) ?_
  refine j_icmp_eq C (X := Unit) (f := ()) (g := ()) (r := ()) 1757 dL_law_1694 rfl (ite_self _) (fun _ _ => ?_) (fun h9 _ => absurd e1 h9)
  refine j_sub [0, 1, 2, 3, 4] rfl ?_
  exact kk ad (fun _ _ => rfl)
set_option maxHeartbeats 1000000 in
theorem q_37 (C : CX G A RL cL_law 9 p s m args c) (hX : SX A sc L xs s) (hst : l.stackTraces = false) (hF : 14 ≤ R.frames) (hM : 530 ≤ R.locals) (hC : k + 5 ≤ R.cells ∧ n + 39 ≤ R.slots) (hv1 : vp_in (i + 1) L) (hv2 : vp_in (i + 2) L) (hv3 : vp_in (i + 3) L) (hv4 : vp_in (i + 4) L) {z : Int32 × KS} (hz : f_L_run a  = some z) {w : Int32 × MS} (hw : f_X9_run b  = some w) {t : Int32} (ht : f_X9_thrown w.2  = some t) (e1 : t = z.1) (e2 : z.1 = 0 → (Kou z.2 0) = w.1.toInt64) (kk : ∀ ad' : Nat → Nat, AG ad ad' (Kn a) → J p l e R s m args below meth c G A 9 Q (k + 5) (n + 39) ad' z.2 w.2 1757 [(0, .ref sc), (1, .ref (ad' 0)), (2, .ref (ad' 100)), (3, .ref (ad' 19)), (4, .int i)] []) : J p l e R s m args below meth c G A 9 Q k n ad a b 1699 [(0, .ref sc), (1, .ref (ad 0)), (2, .ref (ad 100)), (3, .ref (ad 19)), (4, .int i)] [] := by
  refine j_aload_n C 1 rfl dL_law_1699 ?_
  refine j_aload_n C 3 rfl dL_law_1700 ?_
  refine j_wcallS (As := [.ref (ad 0), .ref (ad 19)]) (rest := []) C (k_L_run hst hz) cw_L_run ml_L_228 rfl ⟨Nat.le_trans (Nat.le_of_ble_eq_true rfl) hF, Nat.le_trans (Nat.le_of_ble_eq_true rfl) hM⟩ ⟨by show k + 1 ≤ R.cells; omega, by show n + 6 ≤ R.slots; omega⟩ rfl (Nat.le_of_ble_eq_true rfl) dL_law_1701 (fun ad9 hg9 => ?_)
  rw [← hg9 0 m_0, ← hg9 19 m_19, ← hg9 100 m_100]
  refine j_widen (k + 5) (n + 39) (by show k + 1 ≤ k + 5; omega) (by show n + 6 ≤ n + 39; omega) ?_
  refine j_istore C (i := 5) dL_law_1704 (by decide) rfl ?_
  refine j_aload_n C 3 rfl dL_law_1706 ?_
  refine j_callV (q := 100) (As := []) (rest := []) C (k_X9_run hw) cw_X9_run ml_L_230 m_100 ce_100 rfl rfl ⟨Nat.le_trans (Nat.le_of_ble_eq_true rfl) hF, Nat.le_trans (Nat.le_of_ble_eq_true rfl) hM⟩ hC rfl (Nat.le_of_ble_eq_true rfl) dL_law_1707 ?_
  refine j_widen (k + 5) (n + 39) (Nat.le_refl (k + 5)) (Nat.le_refl (n + 39)) ?_
  refine j_istore C (i := 6) dL_law_1710 (by decide) rfl ?_
  refine j_aload_n C 4 rfl dL_law_1712 ?_
  refine j_callV (q := 100) (As := []) (rest := []) C (k_X9_thrown ht) cw_X9_thrown ml_L_96 m_100 ce_100 rfl rfl ⟨Nat.le_trans (Nat.le_of_ble_eq_true rfl) hF, Nat.le_trans (Nat.le_of_ble_eq_true rfl) hM⟩ hC rfl (Nat.le_of_ble_eq_true rfl) dL_law_1713 ?_
  refine j_widen (k + 5) (n + 39) (Nat.le_refl (k + 5)) (Nat.le_refl (n + 39)) ?_
  refine j_iload C 1 rfl dL_law_1716 ?_
  refine j_icmp_eq C (X := Unit) (f := ()) (g := ()) (r := ()) 1723 dL_law_1718 rfl (ite_self _) (fun _ _ => ?_) (fun h9 _ => absurd e1 h9)
  refine j_iload C 1 rfl dL_law_1723 ?_
  refine j_if_ne C (X := Unit) (f := ()) (g := ()) (r := ()) 1740 dL_law_1725 rfl (ite_self _) (fun _ _ => ?_) (fun h8 _ => ?_)
  ·
    refine j_goto C 1757 dL_law_1740 rfl ?_
    refine j_sub [2, 3, 4, 5, 6] rfl ?_
    exact kk ad9 hg9
  have h8 := Classical.not_not.mp h8
  refine j_aload_n C 5 rfl dL_law_1728 ?_
  refine j_iconst C (v := 0) rfl dL_law_1729 ?_
  refine j_lald (X := Unit) (x := some ()) (r := ()) C m_19 ce_19 rfl dL_law_1730 (fun _ => ?_)
  refine j_iload C 0 rfl dL_law_1731 ?_
  refine j_i2l C dL_law_1733 ?_
  refine j_lcmp C dL_law_1734 ?_
  refine j_if_eq C (X := Unit) (f := ()) (g := ()) (r := ()) 1740 dL_law_1735 rfl (ite_self _) (fun _ _ => ?_) (fun h9 _ => absurd (lcmp_eq (e2 h8)) h9)
  refine j_goto C 1757 dL_law_1740 rfl ?_
  refine j_sub [2, 3, 4, 5, 6] rfl ?_
  exact kk ad9 hg9
set_option maxHeartbeats 1000000 in
theorem q_38 (C : CX G A RL cL_law 9 p s m args c) (hX : SX A sc L xs s) (hst : l.stackTraces = false) (hF : 14 ≤ R.frames) (hM : 530 ≤ R.locals) (hC : k + 5 ≤ R.cells ∧ n + 39 ≤ R.slots) (hv1 : vp_in (i + 1) L) (hv2 : vp_in (i + 2) L) (hv3 : vp_in (i + 3) L) (hv4 : vp_in (i + 4) L) {z : Int64 × KS} (hz : f_X8_digest a  = some z) {w : Int64 × MS} (hw : f_X9_digest b  = some w) (e2 : z.1 = w.1) (kk : ∀ ad' : Nat → Nat, AG ad ad' (Kn a) → J p l e R s m args below meth c G A 9 Q (k + 5) (n + 39) ad' z.2 w.2 1757 [(0, .ref sc), (1, .ref (ad' 0)), (2, .ref (ad' 100)), (3, .ref (ad' 19)), (4, .int i)] []) : J p l e R s m args below meth c G A 9 Q k n ad a b 1743 [(0, .ref sc), (1, .ref (ad 0)), (2, .ref (ad 100)), (3, .ref (ad 19)), (4, .int i)] [] := by
  refine j_widen (k + 5) (n + 39) (Nat.le_add_right _ _) (Nat.le_add_right _ _) ?_
  refine j_aload_n C 1 rfl dL_law_1743 ?_
  refine j_callV (q := 0) (As := []) (rest := []) C (k_X8_digest hz) cw_X8_digest ml_L_231 m_0 ce_0 rfl rfl ⟨Nat.le_trans (Nat.le_of_ble_eq_true rfl) hF, Nat.le_trans (Nat.le_of_ble_eq_true rfl) hM⟩ hC rfl (Nat.le_of_ble_eq_true rfl) dL_law_1744 ?_
  refine j_widen (k + 5) (n + 39) (Nat.le_refl (k + 5)) (Nat.le_refl (n + 39)) ?_
  refine j_aload_n C 2 rfl dL_law_1747 ?_
  refine j_callV (q := 100) (As := []) (rest := [.long z.1]) C (k_X9_digest hw) cw_X9_digest ml_L_235 m_100 ce_100 rfl rfl ⟨Nat.le_trans (Nat.le_of_ble_eq_true rfl) hF, Nat.le_trans (Nat.le_of_ble_eq_true rfl) hM⟩ hC rfl (Nat.le_of_ble_eq_true rfl) dL_law_1748 ?_
  refine j_widen (k + 5) (n + 39) (Nat.le_refl (k + 5)) (Nat.le_refl (n + 39)) ?_
  refine j_lcmp C dL_law_1751 ?_
  refine j_if_eq C (X := Unit) (f := ()) (g := ()) (r := ()) 1757 dL_law_1752 rfl (ite_self _) (fun _ _ => ?_) (fun h9 _ => absurd (lcmp_eq e2) h9)
  refine j_sub [0, 1, 2, 3, 4] rfl ?_
  exact kk ad (fun _ _ => rfl)
end LC
