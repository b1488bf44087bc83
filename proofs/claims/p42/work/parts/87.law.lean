/-! ===== the law's own walk ===== -/
section LZ
variable {p : Program} {l : Launch} {e : Env} {R : Room} {s : State} {m : MethodId} {args : Array Value} {below : List Frame} {meth : Method} {c : Code} {G : GT} {A : Nat → Prop} {Q : State → Prop} {b : MS} {sc L : Nat} {xs : Nat → Int32}
/-- the items are added -/
theorem law_1 (C : CX G A RL cL_law 6 p s m args c) (hX : SX A sc L xs s) (hF : 14 ≤ R.frames) (hM : 536 ≤ R.locals) (hKR : 600104 ≤ R.cells ∧ 7301314 ≤ R.slots) (hL : L ≤ 260) (kend : ∀ (cl sl : Nat) (ad : Nat → Nat) (a : KS), cl ≤ 1000 → sl ≤ 10000 → AI 13 a → J p l e R s m args below meth c G A 6 Q cl sl ad a b 41 [(0, .ref sc), (1, .ref (ad 0)), (2, .int 1)] []) : ∀ (N k cl sl : Nat) (ad : Nat → Nat) (a : KS), k + N = 12 → cl ≤ 21 + 2 * k → sl ≤ 255 + 21 * k → AI (1 + k) a → J p l e R s m args below meth c G A 6 Q cl sl ad a b 15 [(0, .ref sc), (1, .ref (ad 0)), (2, .int 1), (3, .int (oN k))] [] := by
  intro N
  induction N with
  | zero =>
    intro k cl sl ad a hk hc hs hA
    obtain rfl : k = 12 := by omega
    refine j_iload_n C 3 rfl dL_law_15 ?_
    refine j_bipush C (v := 12) (by decide) dL_law_16 ?_
    refine j_icmp_ge C (X := Unit) (f := ()) (g := ()) (r := ()) 41 dL_law_18 rfl (ite_self _) (fun _ _ => ?_) (fun h9 _ => absurd (Int32.le_refl 12) h9)
    refine j_sub [0, 1, 2] rfl ?_
    exact kend cl sl ad a (by omega) (by omega) hA
  | succ N ih =>
    intro k cl sl ad a hk hc hs hA
    refine j_iload_n C 3 rfl dL_law_15 ?_
    refine j_bipush C (v := 12) (by decide) dL_law_16 ?_
    refine j_icmp_ge C (X := Unit) (f := ()) (g := ()) (r := ()) 41 dL_law_18 rfl (ite_self _) (fun h9 _ => ?_) (fun _ _ => ?_)
    · rw [show (12 : Int32) = oN 12 from rfl, oN_le (by decide) (by omega)] at h9
      omega
    refine j_iload_n C 2 rfl dL_law_21 ?_
    refine j_if_eq C (X := Unit) (f := ()) (g := ()) (r := ()) 41 dL_law_22 rfl (ite_self _) (fun h9 _ => absurd h9 n10) (fun _ _ => ?_)
    refine j_aload_n C 1 rfl dL_law_25 ?_
    refine j_aload_n C 0 rfl dL_law_26 ?_
    refine j_iload_n C 3 rfl dL_law_27 ?_
    refine j_callSX (As := [.ref sc, .int (oN k)]) (rest := [.ref (ad 0)]) C hX (k_cell hL (k := k) (by omega)) cw_L_cell ml_L_138 rfl ⟨Nat.le_trans (Nat.le_of_ble_eq_true rfl) hF, Nat.le_trans (Nat.le_of_ble_eq_true rfl) hM⟩ ⟨by show cl + 0 ≤ R.cells; omega, by show sl + 0 ≤ R.slots; omega⟩ rfl (Nat.le_of_ble_eq_true rfl) dL_law_28 ?_
    refine j_widen cl sl (Nat.le_refl _) (Nat.le_refl _) ?_
    obtain ⟨a', e1, e2⟩ := adds_ok hA (by omega) (cellv L xs k)
    refine j_ncallS (As := [.ref (ad 0), .int (cellv L xs k)]) (rest := []) C (k_L_adds e1) cw_L_adds ml_L_142 rfl ⟨Nat.le_trans (Nat.le_of_ble_eq_true rfl) hF, Nat.le_trans (Nat.le_of_ble_eq_true rfl) hM⟩ ⟨by show cl + 2 ≤ R.cells; omega, by show sl + 21 ≤ R.slots; omega⟩ rfl (Nat.le_of_ble_eq_true rfl) dL_law_31 (fun ad9 hg9 => ?_)
    rw [← hg9 0 m_0]
    refine j_widen (cl + 2) (sl + 21) (Nat.le_refl _) (Nat.le_refl _) ?_
    refine j_istore_n C (i := 2) dL_law_34 rfl (by decide) rfl ?_
    refine j_iinc (z := 1) C (v := oN (k + 1)) 3 rfl (oN_succ k) (by decide) rfl dL_law_35 ?_
    refine j_goto C 15 dL_law_38 (by decide) ?_
    refine j_sub [2, 3, 1, 0] rfl ?_
    refine ih (k + 1) (cl + 2) (sl + 21) ad9 a' (by omega) (by omega) (by omega) ?_
    rw [show 1 + (k + 1) = 1 + k + 1 by omega]
    exact e2
/-- a turn of the law is through -/
theorem law_159 (C : CX G A RL cL_law 6 p s m args c) {cl sl t : Nat} {ad : Nat → Nat} {a : KS} {y : Int32} (kk : J p l e R s m args below meth c G A 6 Q cl sl ad a b 43 [(0, .ref sc), (1, .ref (ad 0)), (2, .int 1), (3, .int (oN (t + 1)))] []) : J p l e R s m args below meth c G A 6 Q cl sl ad a b 159 [(0, .ref sc), (1, .ref (ad 0)), (2, .int 1), (3, .int (oN t)), (5, .int y)] [] := by
  refine j_iconst C (v := 1) rfl dL_law_159 ?_
  refine j_goto C 164 dL_law_160 (by decide) ?_
  refine j_istore_n C (i := 2) dL_law_164 rfl (by decide) rfl ?_
  refine j_iinc (z := 1) C (v := oN (t + 1)) 3 rfl (oN_succ t) (by decide) rfl dL_law_165 ?_
  refine j_goto C 43 dL_law_168 (by decide) ?_
  refine j_sub [2, 3, 1, 0] rfl ?_
  exact kk
theorem law_144 (C : CX G A RL cL_law 6 p s m args c) (hF : 14 ≤ R.frames) (hM : 536 ≤ R.locals) {cl sl t : Nat} (hKR : cl ≤ R.cells ∧ sl ≤ R.slots) (ht : t < 44) {ad : Nat → Nat} {a : KS} {y : Int32} (hl : LI (200 * t + 99) a) (hr : Kit a 0 11 = -1) (kk : ∀ a' : KS, LI (200 * (t + 1)) a' → Kit a' 0 11 = -1 → J p l e R s m args below meth c G A 6 Q cl sl ad a' b 43 [(0, .ref sc), (1, .ref (ad 0)), (2, .int 1), (3, .int (oN (t + 1)))] []) : J p l e R s m args below meth c G A 6 Q cl sl ad a b 144 [(0, .ref sc), (1, .ref (ad 0)), (2, .int 1), (3, .int (oN t)), (5, .int y)] [] := by
  refine j_iload_n C 3 rfl dL_law_144 ?_
  refine j_bipush C (v := 9) (by decide) dL_law_145 ?_
  refine j_irem C (by decide) dL_law_147 ?_
  refine j_iconst C (v := 4) rfl dL_law_148 ?_
  refine j_icmp_ne C (X := Unit) (f := ()) (g := ()) (r := ()) 159 dL_law_149 rfl (ite_self _) (fun _ _ => ?_) (fun _ _ => ?_)
  · exact law_159 C (kk a (hl.up (by omega)) hr)
  · obtain ⟨a', e1, e2, e3, -⟩ := isLeft_ok (by omega) hl
    refine j_aload_n C 1 rfl dL_law_152 ?_
    refine j_callS (As := [.ref (ad 0)]) (rest := []) C (k_L_isLeft e1) cw_L_isLeft ml_L_156 rfl ⟨Nat.le_trans (Nat.le_of_ble_eq_true rfl) hF, Nat.le_trans (Nat.le_of_ble_eq_true rfl) hM⟩ hKR rfl (Nat.le_of_ble_eq_true rfl) dL_law_153 ?_
    refine j_widen cl sl (Nat.le_refl _) (Nat.le_refl _) ?_
    refine j_if_eq C (X := Unit) (f := ()) (g := ()) (r := ()) 163 dL_law_156 rfl (ite_self _) (fun h9 _ => absurd h9 n10) (fun _ _ => ?_)
    exact law_159 C (kk a' (e2.up (by omega)) (e3.trans hr))
theorem law_117 (C : CX G A RL cL_law 6 p s m args c) (hF : 14 ≤ R.frames) (hM : 536 ≤ R.locals) {cl sl t : Nat} (hKR : cl ≤ R.cells ∧ sl ≤ R.slots) (ht : t < 44) {ad : Nat → Nat} {a : KS} {y : Int32} (hl : LI (200 * t + 99) a) (hr : Kit a 0 11 = -1) (kk : ∀ a' : KS, LI (200 * (t + 1)) a' → Kit a' 0 11 = -1 → J p l e R s m args below meth c G A 6 Q cl sl ad a' b 43 [(0, .ref sc), (1, .ref (ad 0)), (2, .int 1), (3, .int (oN (t + 1)))] []) : J p l e R s m args below meth c G A 6 Q cl sl ad a b 117 [(0, .ref sc), (1, .ref (ad 0)), (2, .int 1), (3, .int (oN t)), (5, .int y)] [] := by
  refine j_iload_n C 3 rfl dL_law_117 ?_
  refine j_bipush C (v := 7) (by decide) dL_law_118 ?_
  refine j_irem C (by decide) dL_law_120 ?_
  refine j_iconst C (v := 5) rfl dL_law_121 ?_
  refine j_icmp_ne C (X := Unit) (f := ()) (g := ()) (r := ()) 144 dL_law_122 rfl (ite_self _) (fun _ _ => ?_) (fun _ _ => ?_)
  · exact law_144 C hF hM hKR ht hl hr kk
  · obtain ⟨b', hb'⟩ := hl.1
    have hn := rt_n hb'.1
    obtain ⟨i, i1, i2⟩ := up_q (x := y >>> (6 &&& 31)) (n := Kn a) hn.1 (by omega) a
    obtain ⟨a', e1, e2, e3, -⟩ := reached_ok hl i1
    refine j_aload_n C 1 rfl dL_law_125 ?_
    refine j_iload C 4 rfl dL_law_126 ?_
    refine j_bipush C (v := 6) (by decide) dL_law_128 ?_
    refine j_ishr C dL_law_130 ?_
    refine j_aload_n C 1 rfl dL_law_131 ?_
    refine j_callV (q := 0) (As := []) (rest := [.int (y >>> (6 &&& 31)), .ref (ad 0)]) C (k_X8_items (q_items hb'.1)) cw_X8_items ml_L_11 m_0 ce_0 rfl rfl ⟨Nat.le_trans (Nat.le_of_ble_eq_true rfl) hF, Nat.le_trans (Nat.le_of_ble_eq_true rfl) hM⟩ hKR rfl (Nat.le_of_ble_eq_true rfl) dL_law_132 ?_
    refine j_widen cl sl (Nat.le_refl _) (Nat.le_refl _) ?_
    refine j_callS (As := [.int (y >>> (6 &&& 31)), .int (oN (Kn a))]) (rest := [.ref (ad 0)]) C (k_L_up i2) cw_L_up ml_L_29 rfl ⟨Nat.le_trans (Nat.le_of_ble_eq_true rfl) hF, Nat.le_trans (Nat.le_of_ble_eq_true rfl) hM⟩ hKR rfl (Nat.le_of_ble_eq_true rfl) dL_law_135 ?_
    refine j_widen cl sl (Nat.le_refl _) (Nat.le_refl _) ?_
    refine j_callS (As := [.ref (ad 0), .int (oN i)]) (rest := []) C (k_L_isReached e1) cw_L_isReached ml_L_153 rfl ⟨Nat.le_trans (Nat.le_of_ble_eq_true rfl) hF, Nat.le_trans (Nat.le_of_ble_eq_true rfl) hM⟩ hKR rfl (Nat.le_of_ble_eq_true rfl) dL_law_138 ?_
    refine j_widen cl sl (Nat.le_refl _) (Nat.le_refl _) ?_
    refine j_if_eq C (X := Unit) (f := ()) (g := ()) (r := ()) 163 dL_law_141 rfl (ite_self _) (fun h9 _ => absurd h9 n10) (fun _ _ => ?_)
    exact law_144 C hF hM hKR ht (e2.up (by omega)) (e3.trans hr) kk
/-- the turns -/
theorem law_2 (C : CX G A RL cL_law 6 p s m args c) (hX : SX A sc L xs s) (hF : 14 ≤ R.frames) (hM : 536 ≤ R.locals) {cl sl : Nat} (hKR : cl ≤ R.cells ∧ sl ≤ R.slots) (hL : L ≤ 260) {ad : Nat → Nat} (kend : ∀ a : KS, J p l e R s m args below meth c G A 6 Q cl sl ad a b 171 [(0, .ref sc), (1, .ref (ad 0)), (2, .int 1)] []) : ∀ (N t : Nat) (a : KS), t + N = 44 → LI (200 * t) a → Kit a 0 11 = -1 → J p l e R s m args below meth c G A 6 Q cl sl ad a b 43 [(0, .ref sc), (1, .ref (ad 0)), (2, .int 1), (3, .int (oN t))] [] := by
  intro N
  induction N with
  | zero =>
    intro t a ht hl hr
    obtain rfl : t = 44 := by omega
    refine j_iload_n C 3 rfl dL_law_43 ?_
    refine j_bipush C (v := 44) (by decide) dL_law_44 ?_
    refine j_icmp_ge C (X := Unit) (f := ()) (g := ()) (r := ()) 171 dL_law_46 rfl (ite_self _) (fun _ _ => ?_) (fun h9 _ => absurd (Int32.le_refl 44) h9)
    refine j_sub [0, 1, 2] rfl ?_
    exact kend a
  | succ N ih =>
    intro t a ht hl hr
    have e12 : (12 : Int32) + 2 * oN t = oN (12 + 2 * t) := by
      rw [show (12 : Int32) = oN 12 from rfl, show (2 : Int32) = oN 2 from rfl, oN_mul, oN_add]
    have e13 : (13 : Int32) + 2 * oN t = oN (13 + 2 * t) := by
      rw [show (13 : Int32) = oN 13 from rfl, show (2 : Int32) = oN 2 from rfl, oN_mul, oN_add]
    obtain ⟨x, hx⟩ : ∃ x, x = cellv L xs (12 + 2 * t) := ⟨_, rfl⟩
    obtain ⟨y, hy⟩ : ∃ y, y = cellv L xs (13 + 2 * t) := ⟨_, rfl⟩
    obtain ⟨a1, e1, l1, r1, -⟩ := acts_ok (by omega) hl x y
    obtain ⟨q, q1, q2⟩ := up_q (x := y >>> (4 &&& 31)) (n := 101) (by decide) (by decide) a1
    have d : (oN q - 50).toInt = (q : Int) - 50 := sub_i32 (y := 50) (by omega) (by decide)
    have d1 : ¬ (oN q - 50) < -50 := by rw [Int32.lt_iff_toInt_lt, d, show (-50 : Int32).toInt = -50 by decide]; omega
    have d2 : ¬ 50 < (oN q - 50) := by rw [Int32.lt_iff_toInt_lt, d, show (50 : Int32).toInt = 50 by decide]; omega
    obtain ⟨f, e2⟩ := holds_ok (by omega) l1 (r1.trans hr) d1 d2
    refine j_iload_n C 3 rfl dL_law_43 ?_
    refine j_bipush C (v := 44) (by decide) dL_law_44 ?_
    refine j_icmp_ge C (X := Unit) (f := ()) (g := ()) (r := ()) 171 dL_law_46 rfl (ite_self _) (fun h9 _ => ?_) (fun _ _ => ?_)
    · rw [show (44 : Int32) = oN 44 from rfl, oN_le (by decide) (by omega)] at h9
      omega
    refine j_iload_n C 2 rfl dL_law_49 ?_
    refine j_if_eq C (X := Unit) (f := ()) (g := ()) (r := ()) 171 dL_law_50 rfl (ite_self _) (fun h9 _ => absurd h9 n10) (fun _ _ => ?_)
    refine j_aload_n C 0 rfl dL_law_53 ?_
    refine j_bipush C (v := 12) (by decide) dL_law_54 ?_
    refine j_iconst C (v := 2) rfl dL_law_56 ?_
    refine j_iload_n C 3 rfl dL_law_57 ?_
    refine j_imul C dL_law_58 ?_
    refine j_iadd C dL_law_59 ?_
    rw [e12]
    refine j_callSX (As := [.ref sc, .int (oN (12 + 2 * t))]) (rest := []) C hX (k_cell hL (k := 12 + 2 * t) (by omega)) cw_L_cell ml_L_138 rfl ⟨Nat.le_trans (Nat.le_of_ble_eq_true rfl) hF, Nat.le_trans (Nat.le_of_ble_eq_true rfl) hM⟩ hKR rfl (Nat.le_of_ble_eq_true rfl) dL_law_60 ?_
    refine j_widen cl sl (Nat.le_refl _) (Nat.le_refl _) ?_
    rw [← hx]
    refine j_istore C (i := 4) dL_law_63 (by decide) rfl ?_
    refine j_aload_n C 1 rfl dL_law_65 ?_
    refine j_bipush C (v := 13) (by decide) dL_law_66 ?_
    refine j_iconst C (v := 2) rfl dL_law_68 ?_
    refine j_iload_n C 4 rfl dL_law_69 ?_
    refine j_imul C dL_law_70 ?_
    refine j_iadd C dL_law_71 ?_
    rw [e13]
    refine j_callSX (As := [.ref sc, .int (oN (13 + 2 * t))]) (rest := []) C hX (k_cell hL (k := 13 + 2 * t) (by omega)) cw_L_cell ml_L_138 rfl ⟨Nat.le_trans (Nat.le_of_ble_eq_true rfl) hF, Nat.le_trans (Nat.le_of_ble_eq_true rfl) hM⟩ hKR rfl (Nat.le_of_ble_eq_true rfl) dL_law_72 ?_
    refine j_widen cl sl (Nat.le_refl _) (Nat.le_refl _) ?_
    rw [← hy]
    refine j_istore C (i := 5) dL_law_75 (by decide) rfl ?_
    refine j_sub [2, 3, 4, 5, 1, 0] rfl ?_
    refine j_aload_n C 1 rfl dL_law_77 ?_
    refine j_iload C 4 rfl dL_law_78 ?_
    refine j_iload C 5 rfl dL_law_80 ?_
    refine j_callS (As := [.ref (ad 0), .int x, .int y]) (rest := []) C (k_L_acts e1) cw_L_acts ml_L_146 rfl ⟨Nat.le_trans (Nat.le_of_ble_eq_true rfl) hF, Nat.le_trans (Nat.le_of_ble_eq_true rfl) hM⟩ hKR rfl (Nat.le_of_ble_eq_true rfl) dL_law_82 ?_
    refine j_widen cl sl (Nat.le_refl _) (Nat.le_refl _) ?_
    refine j_if_eq C (X := Unit) (f := ()) (g := ()) (r := ()) 111 dL_law_85 rfl (ite_self _) (fun h9 _ => absurd h9 n10) (fun _ _ => ?_)
    refine j_aload_n C 1 rfl dL_law_88 ?_
    refine j_iload C 5 rfl dL_law_89 ?_
    refine j_iconst C (v := 4) rfl dL_law_91 ?_
    refine j_ishr C dL_law_92 ?_
    refine j_bipush C (v := 101) (by decide) dL_law_93 ?_
    refine j_callS (As := [.int (y >>> (4 &&& 31)), .int 101]) (rest := [.ref (ad 0)]) C (k_L_up (show f_L_up a1 (y >>> (4 &&& 31)) 101 = some (oN q) from q2)) cw_L_up ml_L_29 rfl ⟨Nat.le_trans (Nat.le_of_ble_eq_true rfl) hF, Nat.le_trans (Nat.le_of_ble_eq_true rfl) hM⟩ hKR rfl (Nat.le_of_ble_eq_true rfl) dL_law_95 ?_
    refine j_widen cl sl (Nat.le_refl _) (Nat.le_refl _) ?_
    refine j_bipush C (v := 50) (by decide) dL_law_98 ?_
    refine j_isub C dL_law_100 ?_
    refine j_callS (As := [.ref (ad 0), .int (oN q - 50)]) (rest := []) C (k_L_holds e2) cw_L_holds ml_L_150 rfl ⟨Nat.le_trans (Nat.le_of_ble_eq_true rfl) hF, Nat.le_trans (Nat.le_of_ble_eq_true rfl) hM⟩ hKR rfl (Nat.le_of_ble_eq_true rfl) dL_law_101 ?_
    refine j_widen cl sl (Nat.le_refl _) (Nat.le_refl _) ?_
    refine j_if_eq C (X := Unit) (f := ()) (g := ()) (r := ()) 111 dL_law_104 rfl (ite_self _) (fun h9 _ => absurd h9 n10) (fun _ _ => ?_)
    refine j_iconst C (v := 1) rfl dL_law_107 ?_
    refine j_goto C 112 dL_law_108 (by decide) ?_
    refine j_istore_n C (i := 2) dL_law_112 rfl (by decide) rfl ?_
    refine j_iload_n C 0 rfl dL_law_113 ?_
    refine j_if_eq C (X := Unit) (f := ()) (g := ()) (r := ()) 163 dL_law_114 rfl (ite_self _) (fun h9 _ => absurd h9 n10) (fun _ _ => ?_)
    refine j_sub [1, 2, 0, 3, 5] rfl ?_
    exact law_117 C hF hM hKR (by omega) (LI.sc l1 f) (r1.trans hr) (fun a' k1 k2 => ih (t + 1) a' (by omega) k1 k2)
end LZ
theorem ai_0 : AI 1 a0 := by
  have h : Rel 500 a0 b0 := rel_0.dn (B := 0) ⟨0, Nat.le_refl _, rfl⟩ (by decide)
  refine ⟨⟨b0, h⟩, rfl, ⟨rfl, rfl, rfl, fun i hi q => ?_⟩, rfl, Nat.le_refl _⟩
  have i0 : i = 0 := by
    have : i < 1 := hi
    omega
  subst i0
  exact q.1 rfl
