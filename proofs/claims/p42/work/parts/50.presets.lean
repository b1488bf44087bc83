/-! ===== presets ===== -/
theorem oN_mul (x y : Nat) : oN x * oN y = oN (x * y) := (Int32.ofNat_mul _ _).symm
def PP (P p : Nat) : Prop := (P = 6 ∧ p = 0) ∨ (P = 8 ∧ p = 1)
def RE (it : Nat → Nat → Int32) (v mv : Nat → Int32) (k : Nat) : Prop := (¬ it k 1 = 0 → v k = mv k ∧ VR (it k) (v k)) ∧ (it k 1 = 0 → mv k = 0)
abbrev RPp (P p : Nat) (a : KS) (b : MS) : Prop := RP (Kn a) (Kit a) (Khi a P) (Khi a (P + 1)) (Mhi b 125 p) (fun k => Mhi b 124 (24 * p + k))
theorem row0 (b : MS) : (fun k => Mhi b 124 (24 * 0 + k)) = (fun k => Mhi b 124 k) := funext fun k => by rw [Nat.mul_zero, Nat.zero_add]
theorem RPs_iff {a : KS} {b : MS} : RPs a b ↔ RPp 6 0 a b ∧ RPp 8 1 a b := by
  unfold RPp
  rw [row0]
theorem RP_get {a : KS} {b : MS} {P p : Nat} (h : RPs a b) (hp : PP P p) : RPp P p a b := by
  rw [RPs_iff] at h
  rcases hp with ⟨rfl, rfl⟩ | ⟨rfl, rfl⟩
  · exact h.1
  · exact h.2
theorem RP_w {n : Nat} {it : Nat → Nat → Int32} {p v v' mv mv' : Nat → Int32} {m x y : Int32} {k : Nat} (h : RP n it p v m mv) (hv : ∀ i, ¬ it i 1 = 0 → v' i = if i = k then x else v i) (hm : ∀ i, i < n → mv' i = if i = k then y else mv i) (h1 : ¬ it k 1 = 0 → x = y ∧ VR (it k) x) (h2 : it k 1 = 0 → y = 0) : RP n it p v' m mv' := by
  obtain ⟨q, q1, q2, q3, q4, q5⟩ := h
  refine ⟨q, q1, q2, q3, q4, fun i hi => ⟨fun hk => ?_, fun hk => ?_⟩⟩
  · rw [hv i hk, hm i (by omega)]
    by_cases g : i = k
    · rw [if_pos g, if_pos g, g]
      exact h1 (g ▸ hk)
    · rw [if_neg g, if_neg g]
      exact (q5 i hi).1 hk
  · rw [hm i (by omega)]
    by_cases g : i = k
    · rw [if_pos g]; exact h2 (g ▸ hk)
    · rw [if_neg g]; exact (q5 i hi).2 hk
theorem idx_p {p k : Nat} (hp : p < 2) (hk : k < 24) : 24 * oN p + oN k = oN (24 * p + k) ∧ inb (oN (24 * p + k)) 48 = true ∧ (oN (24 * p + k)).toNatClampNeg = 24 * p + k := by
  refine ⟨?_, inb_oN (by omega) (by decide), ofNat_cl (by omega)⟩
  rw [show (24 : Int32) = oN 24 from rfl, oN_mul, oN_add]
theorem PP.lt {P p : Nat} (hp : PP P p) : p < 2 := by
  rcases hp with ⟨rfl, rfl⟩ | ⟨rfl, rfl⟩ <;> decide
theorem PP.ok {P p : Nat} (hp : PP P p) : okp P = true := by
  rcases hp with ⟨rfl, rfl⟩ | ⟨rfl, rfl⟩ <;> rfl
/-- a menu's number is 0 -/
theorem menu_0 {a : KS} {b : MS} (h : RTs a b) {k : Nat} (hk : k < Kn a) (hm : Kit a k 1 = 0) : Mhi b 107 k = 0 := by
  have it := it_at h hk
  obtain ⟨k9, k10, k11⟩ := h.2.2.2.2.2.2.2.1 k hk
  rcases k9 with ⟨-, x1, x2, -⟩ | ⟨z, -⟩ | ⟨z, -⟩
  · rw [x1] at k10
    rw [x2] at k11
    have z0 : (0 : Int32).toInt = 0 := by decide
    rw [← it.2.2.2.2.2.1]
    apply i32_ext
    omega
  · exact absurd (z.symm.trans hm) n10
  · exact absurd (z.symm.trans hm) n20
/-- a value kept in a preset, menu or not -/
theorem keep_1 {j P p : Nat} {a : KS} {b : MS} (hp : PP P p) (h : Rel j a b) {k : Nat} (hk : k < Kn a) (hm : ¬ Kit a k 1 = 0) : Rel j (sKhi a (P + 1) k (Kit a k 10)) (sMhi b 124 (24 * p + k) (Mhi b 107 k)) := by
  have hn := rt_n h.1
  have it := it_at h.1 hk
  have vr := (h.1.2.2.2.2.2.2.2.1 k hk).2
  obtain ⟨hT, hD, hG, hP, hX⟩ := h
  rw [RPs_iff] at hP
  rcases hp with ⟨rfl, rfl⟩ | ⟨rfl, rfl⟩
  · refine ⟨hT, hD, hG, RPs_iff.mpr ⟨RP_w (k := k) hP.1 (fun i _ => Khi_s _ _ _ _ i) (fun i hi => ?_) (fun _ => ⟨it.2.2.2.2.2.1, vr⟩) (fun z => absurd z hm), ?_⟩, hX⟩
    · show Mhi (sMhi b 124 (24 * 0 + k) (Mhi b 107 k)) 124 (24 * 0 + i) = _
      rw [Mhi_s]
      by_cases g : i = k
      · rw [if_pos g, if_pos (by omega)]
      · rw [if_neg g, if_neg (by omega)]
    · obtain ⟨q, q1, q2, q3, q4, q5⟩ := hP.2
      refine ⟨q, q1, q2, q3, q4, fun i hi => ?_⟩
      have e2 : Mhi (sMhi b 124 (24 * 0 + k) (Mhi b 107 k)) 124 (24 * 1 + i) = Mhi b 124 (24 * 1 + i) := by rw [Mhi_s, if_neg (by omega)]
      have q6 := q5 i hi
      refine ⟨fun hz => ?_, fun hz => ?_⟩
      · show Khi a 9 i = Mhi (sMhi b 124 (24 * 0 + k) (Mhi b 107 k)) 124 (24 * 1 + i) ∧ VR (Kit a i) (Khi a 9 i)
        rw [e2]; exact q6.1 hz
      · show Mhi (sMhi b 124 (24 * 0 + k) (Mhi b 107 k)) 124 (24 * 1 + i) = 0
        rw [e2]; exact q6.2 hz
  · refine ⟨hT, hD, hG, RPs_iff.mpr ⟨?_, RP_w (k := k) hP.2 (fun i _ => Khi_s _ _ _ _ i) (fun i hi => ?_) (fun _ => ⟨it.2.2.2.2.2.1, vr⟩) (fun z => absurd z hm)⟩, hX⟩
    · obtain ⟨q, q1, q2, q3, q4, q5⟩ := hP.1
      refine ⟨q, q1, q2, q3, q4, fun i hi => ?_⟩
      have e2 : Mhi (sMhi b 124 (24 * 1 + k) (Mhi b 107 k)) 124 (24 * 0 + i) = Mhi b 124 (24 * 0 + i) := by rw [Mhi_s, if_neg (by omega)]
      have q6 := q5 i hi
      refine ⟨fun hz => ?_, fun hz => ?_⟩
      · show Khi a 7 i = Mhi (sMhi b 124 (24 * 1 + k) (Mhi b 107 k)) 124 (24 * 0 + i) ∧ VR (Kit a i) (Khi a 7 i)
        rw [e2]; exact q6.1 hz
      · show Mhi (sMhi b 124 (24 * 1 + k) (Mhi b 107 k)) 124 (24 * 0 + i) = 0
        rw [e2]; exact q6.2 hz
    · show Mhi (sMhi b 124 (24 * 1 + k) (Mhi b 107 k)) 124 (24 * 1 + i) = _
      rw [Mhi_s]
      by_cases g : i = k
      · rw [if_pos g, if_pos (by omega)]
      · rw [if_neg g, if_neg (by omega)]
theorem keep_0 {j P p : Nat} {a : KS} {b : MS} (hp : PP P p) (h : Rel j a b) {k : Nat} (hk : k < Kn a) (hm : Kit a k 1 = 0) : Rel j a (sMhi b 124 (24 * p + k) (Mhi b 107 k)) := by
  have hn := rt_n h.1
  have m0 := menu_0 h.1 hk hm
  obtain ⟨hT, hD, hG, hP, hX⟩ := h
  rw [RPs_iff] at hP
  have key : ∀ r : Nat, r < 2 → ∀ i, i < Kn a → (Mhi (sMhi b 124 (24 * p + k) (Mhi b 107 k)) 124 (24 * r + i) = Mhi b 124 (24 * r + i) ∨ (i = k ∧ Mhi (sMhi b 124 (24 * p + k) (Mhi b 107 k)) 124 (24 * r + i) = 0)) := by
    intro r hr i hi
    rw [Mhi_s]
    by_cases g : 24 * r + i = 24 * p + k
    · rw [if_pos g]
      exact Or.inr ⟨by omega, m0⟩
    · rw [if_neg g]
      exact Or.inl rfl
  have all : ∀ P' r : Nat, r < 2 → RPp P' r a b → RP (Kn a) (Kit a) (Khi a P') (Khi a (P' + 1)) (Mhi b 125 r) (fun i => Mhi (sMhi b 124 (24 * p + k) (Mhi b 107 k)) 124 (24 * r + i)) := by
    intro P' r hr hx
    obtain ⟨q, q1, q2, q3, q4, q5⟩ := hx
    refine ⟨q, q1, q2, q3, q4, fun i hi => ?_⟩
    have q6 := q5 i hi
    show (¬ Kit a i 1 = 0 → Khi a (P' + 1) i = Mhi (sMhi b 124 (24 * p + k) (Mhi b 107 k)) 124 (24 * r + i) ∧ VR (Kit a i) (Khi a (P' + 1) i)) ∧ (Kit a i 1 = 0 → Mhi (sMhi b 124 (24 * p + k) (Mhi b 107 k)) 124 (24 * r + i) = 0)
    rcases key r hr i (by omega) with z | ⟨z1, z2⟩
    · rw [z]; exact q6
    · rw [z2]
      exact ⟨fun hz => absurd (z1 ▸ hm) hz, fun _ => rfl⟩
  exact ⟨hT, hD, hG, RPs_iff.mpr ⟨all 6 0 (by decide) hP.1, all 8 1 (by decide) hP.2⟩, hX⟩
/-- the end of saving -/
theorem saved {j P p : Nat} {a : KS} {b : MS} (hp : PP P p) (h : Rel j a b) (hk : ∀ m, m < Kn a → RE (Kit a) (Khi a (P + 1)) (fun i => Mhi b 124 (24 * p + i)) m) : Rel j (sKhi (sKhi a P 1 (oN (Kn a))) P 2 1) (sMhi b 125 p (oN (Kn a))) := by
  have hn := rt_n h.1
  obtain ⟨hT, hD, hG, hP, hX⟩ := h
  rw [RPs_iff] at hP
  rcases hp with ⟨rfl, rfl⟩ | ⟨rfl, rfl⟩
  · exact ⟨hT, hD, hG, RPs_iff.mpr ⟨⟨Kn a, Nat.le_refl _, rfl, rfl, Or.inr ⟨hn.1, rfl⟩, hk⟩, hP.2⟩, hX⟩
  · exact ⟨hT, hD, hG, RPs_iff.mpr ⟨hP.1, ⟨Kn a, Nat.le_refl _, rfl, rfl, Or.inr ⟨hn.1, rfl⟩, hk⟩⟩, hX⟩
theorem PP_1 {P p : Nat} (hp : PP P p) {a : KS} {k : Nat} {v : Int32} : Khi (sKhi a (P + 1) k v) 1 2 = Khi a 1 2 := by
  rcases hp with ⟨rfl, rfl⟩ | ⟨rfl, rfl⟩ <;> rfl
theorem save_l {P p j : Nat} (hp : PP P p) : ∀ (fuel k : Nat) (a : KS) (b : MS) (c : Int32), k ≤ Kn a → Kn a - k < fuel → Rel j a b → (∀ m, m < k → RE (Kit a) (Khi a (P + 1)) (fun i => Mhi b 124 (24 * p + i)) m) → ∃ (r : Int32) (a' : KS) (b' : MS), l_X5_save_4 fuel a P c (oN k) = some (r, a') ∧ l_X9_savePreset_27 fuel b (oN p) c (oN k) = some (r, b') ∧ Rel j a' b' ∧ Mhi b' 100 0 = Mhi b 100 0 := by
  intro fuel
  induction fuel with
  | zero => intro k a b c h1 h2; omega
  | succ f ih =>
    intro k a b c h1 h2 h hk
    have hn := rt_n h.1
    have e1 : l_X5_save_4 (f + 1) a P c (oN k) = f_X5_save_4 (l_X5_save_4 f) a P c (oN k) := rfl
    have e2 : l_X9_savePreset_27 (f + 1) b (oN p) c (oN k) = f_X9_savePreset_27 (l_X9_savePreset_27 f) b (oN p) c (oN k) := rfl
    have n1 := h.1.1.2.2.1
    have n2 := h.1.1.2.2.2
    have pl := hp.lt
    rw [e1, e2]
    unfold f_X5_save_4 f_X5_save_61 f_X9_savePreset_27
    rw [n1, n2]
    by_cases g : Kn a ≤ k
    · have ek : k = Kn a := by omega
      have gg : oN (Kn a) ≤ oN k := by rw [oN_le (by omega) (by omega)]; exact g
      rw [if_pos gg, if_pos gg, gd_t hp.ok, gd_t (by decide), gd_t (inb_oN (by omega) (by decide)), ofNat_cl (by omega)]
      subst ek
      exact ⟨_, _, _, rfl, rfl, saved hp h hk, rfl⟩
    · have gg : ¬ oN (Kn a) ≤ oN k := by rw [oN_le (by omega) (by omega)]; exact g
      have g24 : ¬ 24 ≤ oN k := fun z => by rw [show (24 : Int32) = oN 24 from rfl, oN_le (by decide) (by omega)] at z; omega
      have hlt : k < Kn a := by omega
      obtain ⟨x1, x2, x3⟩ := idx_p (k := k) pl (by omega)
      rw [if_neg gg, if_neg gg, gd_t hp.ok, if_neg g24, find_in h.1 hlt, bs, ocs_s, gd_d hlt, gd_t (in24 h.1 hlt), gd_t (in24 h.1 hlt), x1, gd_t x2, x3, cl_n h.1 hlt, isMenu_in (b := sMhi b 124 (24 * p + k) (Mhi b 107 k)) h.1 hlt, bs]
      unfold f_X5_save_55 f_X9_savePreset_66
      by_cases m : Kit a k 1 = 0
      · have h' := keep_0 hp h hlt m
        rw [if_pos m, if_pos m, if_neg n10, lt_e, Int32.add_zero, oN_succ]
        obtain ⟨r, a', b', r1, r2, r3, r4⟩ := ih (k + 1) a _ c (by omega) (by omega) h' (fun i hi => by
          show (¬ Kit a i 1 = 0 → Khi a (P + 1) i = Mhi (sMhi b 124 (24 * p + k) (Mhi b 107 k)) 124 (24 * p + i) ∧ VR (Kit a i) (Khi a (P + 1) i)) ∧ (Kit a i 1 = 0 → Mhi (sMhi b 124 (24 * p + k) (Mhi b 107 k)) 124 (24 * p + i) = 0)
          rw [Mhi_s]
          by_cases z : i = k
          · subst z
            rw [if_pos rfl]
            exact ⟨fun z => absurd m z, fun _ => menu_0 h.1 hlt m⟩
          · rw [if_neg (by omega)]
            exact hk i (by omega))
        exact ⟨r, a', b', r1, r2, r3, r4⟩
      · have h' := keep_1 hp h hlt m
        rw [if_neg m, if_neg m, if_pos rfl, lt_e, oN_succ]
        obtain ⟨r, a', b', r1, r2, r3, r4⟩ := ih (k + 1) (sKhi a (P + 1) k (Kit a k 10)) (sMhi b 124 (24 * p + k) (Mhi b 107 k)) (c + 1) (show k + 1 ≤ Kn a by omega) (show Kn a - (k + 1) < f by omega) h' (fun i hi => by
          show (¬ Kit a i 1 = 0 → Khi (sKhi a (P + 1) k (Kit a k 10)) (P + 1) i = Mhi (sMhi b 124 (24 * p + k) (Mhi b 107 k)) 124 (24 * p + i) ∧ VR (Kit a i) (Khi (sKhi a (P + 1) k (Kit a k 10)) (P + 1) i)) ∧ (Kit a i 1 = 0 → Mhi (sMhi b 124 (24 * p + k) (Mhi b 107 k)) 124 (24 * p + i) = 0)
          rw [Mhi_s, Khi_s]
          by_cases z : i = k
          · subst z
            rw [if_pos rfl, if_pos rfl]
            exact ⟨fun _ => ⟨(it_at h.1 hlt).2.2.2.2.2.1, (h.1.2.2.2.2.2.2.2.1 i hlt).2⟩, fun z => absurd z m⟩
          · rw [if_neg (show ¬ 24 * p + i = 24 * p + k by omega), if_neg z]
            exact hk i (by omega))
        exact ⟨r, a', b', r1, r2, r3, r4⟩
theorem pre_K {a : KS} {P p : Nat} (hp : PP P p) : f_X8_presetNumbered a (oN p) = some (0, P) := by
  rcases hp with ⟨rfl, rfl⟩ | ⟨rfl, rfl⟩ <;> rfl
theorem pre_cases (v : Int32) : (v < 0 ∨ 1 < v) ∨ ∃ P p, PP P p ∧ v = oN p := by
  by_cases g1 : v < 0
  · exact Or.inl (Or.inl g1)
  · by_cases g2 : 1 < v
    · exact Or.inl (Or.inr g2)
    · obtain ⟨q, -, q2, rfl⟩ := rng2 (lo := 0) (hi := 1) (by decide) (by decide) g1 g2
      rcases Nat.eq_zero_or_pos q with z | z
      · exact Or.inr ⟨6, 0, Or.inl ⟨rfl, rfl⟩, by rw [z]⟩
      · exact Or.inr ⟨8, 1, Or.inr ⟨rfl, rfl⟩, by rw [show q = 1 by omega]⟩
theorem pre_out {a : KS} {v : Int32} (o : v < 0 ∨ 1 < v) : f_X8_presetNumbered a v = some (2, 0) := by
  unfold f_X8_presetNumbered f_X8_presetNumbered_9
  by_cases g : v < 0
  · rw [if_pos g]
  · rw [if_neg g, if_neg (Int32.not_le.mpr (o.resolve_left g))]
theorem pre_in {b : MS} {P p : Nat} (hp : PP P p) : f_X9_in b (oN p) 0 1 = some 1 := by
  rcases hp with ⟨rfl, rfl⟩ | ⟨rfl, rfl⟩ <;> rfl
theorem s_15 : S_15 Rel := by
  intro j a b v1 v2 v3 v4 hj h
  rcases pre_cases v1 with o | ⟨P, p, hp, rfl⟩
  · refine ⟨(1, a), (0, sMhi b 100 0 1), 1, ?_, ?_, rfl, rfl, fun q => absurd q n10, h.nx 1⟩
    · unfold f_L_savePreset f_X8_savePreset
      rw [pre_out o]; rfl
    · unfold f_X9_savePreset f_X9_savePreset_15
      rw [in_f o]; rfl
  · have hn := rt_n h.1
    obtain ⟨r, a', b', r1, r2, r3, r4⟩ := save_l (j := j) hp FU 0 a (sMhi b 100 0 0) 0 (Nat.zero_le _) (by rw [FU_e]; omega) (h.thr 0) (fun m hm => by omega)
    refine ⟨(0, sKou a' 0 r.toInt64), (r, b'), Mhi b' 100 0, ?_, ?_, rfl, ?_, fun _ => rfl, (r3.kou 0 _).up⟩
    · unfold f_L_savePreset f_X8_savePreset f_X5_save
      rw [pre_K hp, bs, if_pos rfl, gd_t hp.ok, show l_X5_save_4 FU a P 0 0 = _ from r1]; rfl
    · unfold f_X9_savePreset f_X9_savePreset_15
      rw [pre_in hp, bs, if_neg n10, holds_0, bs, if_pos n10]
      exact r2
    · exact r4
theorem Mhi_id {b : MS} {p i : Nat} {x : Int32} (h : Mhi b p i = x) : sMhi b p i x = b := by
  have e : (sMhi b p i x).1 = b.1 := by
    funext q k
    show (if q = p ∧ k = i then x else b.1 q k) = _
    by_cases g : q = p ∧ k = i
    · rw [if_pos g, g.1, g.2]; exact h.symm
    · rw [if_neg g]
  exact Prod.ext e rfl
theorem load_l {P p j q : Nat} (hp : PP P p) : ∀ (fuel k : Nat) (a : KS) (b : MS) (c : Int32), k ≤ q → q - k < fuel → Rel j a (sMhi b 100 23 0) → Khi a P 1 = oN q → q ≤ Kn a → ∃ (r : Int32) (a' : KS) (b' : MS), l_X5_load_4 fuel a P c (oN k) = some (r, a') ∧ l_X9_loadPreset_43 fuel b (oN p) c (oN k) = some (r, b') ∧ Rel j a' b' ∧ Mhi b' 100 0 = Mhi b 100 0 := by
  intro fuel
  induction fuel with
  | zero => intro k a b c h1 h2; omega
  | succ f ih =>
    intro k a b c h1 h2 h hq hqn
    have hn := rt_n h.1
    have e1 : l_X5_load_4 (f + 1) a P c (oN k) = f_X5_load_4 (l_X5_load_4 f) a P c (oN k) := rfl
    have e2 : l_X9_loadPreset_43 (f + 1) b (oN p) c (oN k) = f_X9_loadPreset_43 (l_X9_loadPreset_43 f) b (oN p) c (oN k) := rfl
    have pl := hp.lt
    obtain ⟨q', x1, x2, x3, -, x4⟩ := RP_get h.2.2.2.1 hp
    have eq : q' = q := oN_inj (by omega) (by omega) (x3.symm.trans hq)
    subst eq
    have x2 : Mhi b 125 p = oN q' := x2
    rw [e1, e2]
    unfold f_X5_load_4 f_X9_loadPreset_43
    rw [gd_t hp.ok, hq, gd_t (inb_oN (show p < 2 from pl) (by decide)), show (oN p).toNatClampNeg = p from ofNat_cl (by omega), x2]
    by_cases g : q' ≤ k
    · have gg : oN q' ≤ oN k := by rw [oN_le (by omega) (by omega)]; exact g
      rw [if_pos gg, if_pos gg]
      exact ⟨_, _, _, rfl, rfl, h, rfl⟩
    · have gg : ¬ oN q' ≤ oN k := by rw [oN_le (by omega) (by omega)]; exact g
      have g24 : ¬ 24 ≤ oN k := fun z => by rw [show (24 : Int32) = oN 24 from rfl, oN_le (by decide) (by omega)] at z; omega
      have hlt : k < Kn a := by omega
      obtain ⟨y1, y2, y3⟩ := idx_p (k := k) pl (by omega)
      have it := it_at h.1 hlt
      have it7 : Kit a k 10 = Mhi b 107 k := it.2.2.2.2.2.1
      obtain ⟨z1, z2⟩ := x4 k (by omega)
      have z1 : ¬ Kit a k 1 = 0 → Khi a (P + 1) k = Mhi b 124 (24 * p + k) ∧ VR (Kit a k) (Khi a (P + 1) k) := z1
      have z2 : Kit a k 1 = 0 → Mhi b 124 (24 * p + k) = 0 := z2
      rw [if_neg gg, if_neg gg, if_neg g24, find_in h.1 hlt, bs, ocs_s, gd_d hlt, gd_t (in24 h.1 hlt), gd_t (in24 h.1 hlt), y1, gd_t y2, y3, cl_n h.1 hlt]
      unfold f_X5_load_69 f_X9_loadPreset_82
      rw [y1, y3, cl_n h.1 hlt]
      by_cases m : Kit a k 1 = 0
      · have v0 : Mhi b 107 k = 0 := menu_0 h.1 hlt m
        have v1 : Mhi b 107 k = Mhi b 124 (24 * p + k) := by rw [v0, z2 m]
        rw [if_pos m, if_pos v1, lt_e, gd_t y2, gd_t (in24 h.1 hlt), gd_t (in24 h.1 hlt), Int32.add_zero, oN_succ, Mhi_id v1]
        exact ih (k + 1) a b c (by omega) (by omega) h hq hqn
      · obtain ⟨w1, w2⟩ := z1 m
        rw [if_neg m, it7, w1]
        by_cases e : Mhi b 107 k = Mhi b 124 (24 * p + k)
        · rw [if_pos e, if_pos e, lt_e, gd_t y2, gd_t (in24 h.1 hlt), gd_t (in24 h.1 hlt), Int32.add_zero, oN_succ, Mhi_id e]
          exact ih (k + 1) a b c (by omega) (by omega) h hq hqn
        · rw [if_neg e, if_neg e, lt_e, gd_t (in24 h.1 hlt), gd_t y2, gd_t (in24 h.1 hlt), oN_succ]
          rw [w1] at w2
          have h' : Rel j (sKit a k 10 (Mhi b 124 (24 * p + k))) (sMhi (sMhi b 107 k (Mhi b 124 (24 * p + k))) 100 23 0) := val_rel h hlt w2
          obtain ⟨r, a', b', r1, r2, r3, r4⟩ := ih (k + 1) _ _ (c + 1) (by omega) (by omega) h' hq hqn
          exact ⟨r, a', b', r1, r2, r3, r4⟩
theorem nolog {j : Nat} {a : KS} {b : MS} (h : Rel j a b) : Rel j (sKhi a 3 2 0) (sMhi b 100 23 0) := by
  obtain ⟨hT, hD, ⟨-, gl⟩, hP, hX⟩ := h
  exact ⟨hT, hD, ⟨⟨0, by decide, rfl, rfl, fun k hk => by omega⟩, gl⟩, hP, hX⟩
theorem s_16 : S_16 Rel := by
  intro j a b v1 v2 v3 v4 hj h
  rcases pre_cases v1 with o | ⟨P, p, hp, rfl⟩
  · refine ⟨(1, a), (0, sMhi b 100 0 1), 1, ?_, ?_, rfl, rfl, fun q => absurd q n10, h.nx 1⟩
    · unfold f_L_loadPreset f_X8_loadPreset
      rw [pre_out o]; rfl
    · unfold f_X9_loadPreset f_X9_loadPreset_30
      rw [in_f o]; rfl
  · have hn := rt_n h.1
    have pl := hp.lt
    obtain ⟨q, x1, x2, x3, x4, -⟩ := RP_get h.2.2.2.1 hp
    have hb : inb (oN p) 2 = true := inb_oN pl (by decide)
    have cp : (oN p).toNatClampNeg = p := ofNat_cl (by omega)
    rcases x4 with ⟨q0, s0⟩ | ⟨q1, s1⟩
    · refine ⟨(2, a), (0, sMhi b 100 0 2), 2, ?_, ?_, rfl, rfl, fun q => absurd q n20, h.nx 2⟩
      · unfold f_L_loadPreset f_X8_loadPreset
        rw [pre_K hp, bs, if_pos rfl, gd_t hp.ok, s0]; rfl
      · unfold f_X9_loadPreset f_X9_loadPreset_30
        rw [pre_in hp, bs, if_pos n10, gd_t hb, cp, x2, q0]; rfl
    · have hk3 : Khi (sKhi a 3 2 0) P 1 = oN q := by
        rcases hp with ⟨rfl, rfl⟩ | ⟨rfl, rfl⟩ <;> exact x3
      obtain ⟨r, a', b', r1, r2, r3, r4⟩ := load_l (j := j) hp FU 0 (sKhi a 3 2 0) (sMhi b 100 0 0) 0 (Nat.zero_le _) (by rw [FU_e]; omega) (nolog (h.thr 0)) hk3 x1
      refine ⟨(0, sKou a' 0 r.toInt64), (r, b'), Mhi b' 100 0, ?_, ?_, rfl, ?_, fun _ => rfl, (r3.kou 0 _).up⟩
      · unfold f_L_loadPreset f_X8_loadPreset f_X3_removeAll f_X5_load
        rw [pre_K hp, bs, if_pos rfl, gd_t hp.ok, s1, if_pos n10, bs, show l_X5_load_4 FU (sKhi a 3 2 0) P 0 0 = _ from r1]; rfl
      · unfold f_X9_loadPreset f_X9_loadPreset_30
        have nq : ¬ oN q = 0 := fun z => absurd (oN_inj (y := 0) (by omega) (by decide) z) (by omega)
        rw [pre_in hp, bs, if_pos n10, gd_t hb, cp, x2, if_pos nq, holds_0, bs, if_pos n10]
        exact r2
      · exact r4
