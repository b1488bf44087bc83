/-! ===== a preset kept and given back ===== -/
theorem PP.c {P p : Nat} (hp : PP P p) : (P = 6 ∨ P = 8) := by
  rcases hp with ⟨h, -⟩ | ⟨h, -⟩
  · exact Or.inl h
  · exact Or.inr h
theorem save_one {P p : Nat} (hp : PP P p) : ∀ (fuel k : Nat) (a : KS) (c : Nat), TN a → k ≤ Kn a → Kn a - k < fuel → ∃ (r : Nat) (A : KS), r ≤ c + (Kn a - k) ∧ l_X5_save_4 fuel a P (oN c) (oN k) = some (oN r, A) ∧ A.2 = a.2 ∧ (∀ q, q ≠ P → q ≠ P + 1 → Khi A q = Khi a q) ∧ Khi A P 1 = oN (Kn a) ∧ Khi A P 2 = 1 ∧ (∀ m, m < k → Khi A (P + 1) m = Khi a (P + 1) m) ∧ (∀ m, k ≤ m → m < Kn a → ¬ Kit a m 1 = 0 → Khi A (P + 1) m = Kit a m 10) := by
  intro fuel
  induction fuel with
  | zero => intro k a c _ h1 h2; omega
  | succ f ih =>
    intro k a c tn h1 h2
    have e1 : l_X5_save_4 (f + 1) a P (oN c) (oN k) = f_X5_save_4 (l_X5_save_4 f) a P (oN c) (oN k) := rfl
    have tnn := tn.1
    rw [e1]
    unfold f_X5_save_4 f_X5_save_61
    rw [tn.2.1]
    by_cases g : Kn a ≤ k
    · have gg : oN (Kn a) ≤ oN k := by rw [oN_le (by omega) (by omega)]; exact g
      rw [if_pos gg, gd_t hp.ok, gd_t (by decide)]
      refine ⟨c, _, by omega, rfl, rfl, fun q q1 q2 => ?_, ?_, ?_, fun m hm => ?_, fun m m1 m2 => by omega⟩
      · funext k
        rw [Khi_np (fun z => q1 z.symm), Khi_np (fun z => q1 z.symm)]
      · rw [Khi_sn (by decide), Khi_se]
      · exact Khi_se
      · rw [Khi_np (by omega), Khi_np (by omega)]
    · have gg : ¬ oN (Kn a) ≤ oN k := by rw [oN_le (by omega) (by omega)]; exact g
      have g24 : ¬ 24 ≤ oN k := fun z => by rw [show (24 : Int32) = oN 24 from rfl, oN_le (by decide) (by omega)] at z; omega
      have hlt : k < Kn a := by omega
      rw [if_neg gg, gd_t hp.ok, if_neg g24, find_tn tn hlt, bs, ocs_s, gd_d hlt]
      unfold f_X5_save_55
      by_cases m : Kit a k 1 = 0
      · rw [if_pos m, oN_succ]
        obtain ⟨r, A, r1, r2, r3, r4, r5, r6, r7, r8⟩ := ih (k + 1) a c tn (by omega) (by omega)
        refine ⟨r, A, by omega, r2, r3, r4, r5, r6, fun i hi => r7 i (by omega), fun i i1 i2 i3 => ?_⟩
        by_cases z : i = k
        · subst z; exact absurd m i3
        · exact r8 i (by omega) i2 i3
      · have pc := hp.c
        have tn2 : TN (sKhi a (P + 1) k (Kit a k 10)) := ⟨tn.1, by rw [Khi_np (by omega)]; exact tn.2.1, tn.2.2⟩
        rw [if_neg m, gd_t (inb_oN (by omega) (by decide)), ofNat_cl (by omega), oN_succ, oN_succ]
        obtain ⟨r, A, r1, r2, r3, r4, r5, r6, r7, r8⟩ := ih (k + 1) (sKhi a (P + 1) k (Kit a k 10)) (c + 1) tn2 (show k + 1 ≤ Kn a by omega) (show Kn a - (k + 1) < f by omega)
        have r1 : r ≤ c + 1 + (Kn a - (k + 1)) := r1
        refine ⟨r, A, by omega, r2, r3, fun q q1 q2 => ?_, r5, r6, fun i hi => ?_, fun i i1 i2 i3 => ?_⟩
        · rw [r4 q q1 q2]
          funext j
          exact Khi_np (fun z => q2 z.symm)
        · rw [r7 i (by omega)]
          exact Khi_sn (by omega)
        · by_cases z : i = k
          · subst z
            rw [r7 i (by omega)]
            exact Khi_se
          · exact r8 i (by omega) i2 i3
theorem load_one {P p : Nat} (hp : PP P p) {a : KS} (tn : TN a) (h1 : Khi a P 1 = oN (Kn a)) (hv : ∀ m, m < Kn a → ¬ Kit a m 1 = 0 → Khi a (P + 1) m = Kit a m 10) : ∀ (fuel k : Nat) (c : Int32), k ≤ Kn a → Kn a - k < fuel → l_X5_load_4 fuel a P c (oN k) = some (c, a) := by
  have tnn := tn.1
  intro fuel
  induction fuel with
  | zero => intro k c h1 h2; omega
  | succ f ih =>
    intro k c k1 k2
    have e1 : l_X5_load_4 (f + 1) a P c (oN k) = f_X5_load_4 (l_X5_load_4 f) a P c (oN k) := rfl
    rw [e1]
    unfold f_X5_load_4
    rw [gd_t hp.ok, h1]
    by_cases g : Kn a ≤ k
    · rw [if_pos (show oN (Kn a) ≤ oN k by rw [oN_le (by omega) (by omega)]; exact g)]
    · have hlt : k < Kn a := by omega
      have g24 : ¬ 24 ≤ oN k := fun z => by rw [show (24 : Int32) = oN 24 from rfl, oN_le (by decide) (by omega)] at z; omega
      have nx : f_X5_load_69 (l_X5_load_4 f) a P c (oN k) = some (c, a) := by
        unfold f_X5_load_69
        rw [oN_succ]
        exact ih (k + 1) c (by omega) (by omega)
      rw [if_neg (show ¬ oN (Kn a) ≤ oN k by rw [oN_le (by omega) (by omega)]; exact g), if_neg g24, find_tn tn hlt, bs, ocs_s, gd_d hlt]
      by_cases m : Kit a k 1 = 0
      · rw [if_pos m, nx]
      · rw [if_neg m, gd_t (inb_oN (by omega) (by decide)), ofNat_cl (by omega), if_pos (hv k hlt m).symm, nx]
theorem presets_ok {B : Nat} (hB : B ≤ 1000000) {a : KS} (h : LI B a) (h0 : Khi a 3 2 = 0) {P p : Nat} (hp : PP P p) : ∃ (r : Nat) (a1 a2 : KS), r ≤ 24 ∧ f_X8_savePreset a (oN p) = some (0, oN r, a1) ∧ f_X8_loadPreset a1 (oN p) = some (0, 0, a2) ∧ LI B a2 ∧ a2.2 = a.2 := by
  obtain ⟨⟨b, hb⟩, hq, eo⟩ := h
  have hn := rt_n hb.1
  have pc := hp.c
  obtain ⟨r, A, r1, r2, r3, r4, r5, r6, r7, r8⟩ := save_one hp FU 0 a 0 hb.tn (Nat.zero_le _) (by rw [FU_e]; omega)
  have es : f_X8_savePreset a (oN p) = some (0, oN r, A) := by
    unfold f_X8_savePreset f_X5_save
    rw [pre_K hp, bs, if_pos rfl, gd_t hp.ok, show l_X5_save_4 FU a P 0 0 = _ from r2]; rfl
  have rA : ∃ b1, Rel 501 A b1 := by
    obtain ⟨z, w, t, z1, -, -, -, -, z6⟩ := s_15 500 a b (oN p) 0 0 0 (by decide) hb
    unfold f_L_savePreset at z1
    rw [es, bs, if_pos rfl] at z1
    obtain rfl := Option.some.inj z1
    exact ⟨w.2, z6⟩
  obtain ⟨b1, hA⟩ := rA
  have eit : Kit A = Kit a := congrArg (fun s => s.1) r3
  have enn : Kn A = Kn a := congrArg (fun s => s.2.2.2.2.2.2.1) r3
  have el : f_X8_loadPreset A (oN p) = some (0, 0, sKhi A 3 2 0) := by
    unfold f_X8_loadPreset f_X3_removeAll f_X5_load
    rw [pre_K hp, bs, if_pos rfl, gd_t hp.ok, r6, if_pos n10, bs]
    have e := load_one hp (a := sKhi A 3 2 0) ⟨hA.tn.1, hA.tn.2.1, hA.tn.2.2⟩ (by rw [Khi_np (by omega)]; show Khi A P 1 = oN (Kn A); rw [r5, enn]) (fun m m1 m2 => by
      have m1 : m < Kn A := m1
      have m2 : ¬ Kit A m 1 = 0 := m2
      rw [Khi_np (by omega)]
      show Khi A (P + 1) m = Kit A m 10
      rw [eit] at m2 ⊢
      exact r8 m (Nat.zero_le _) (by omega) m2) FU 0 0 (Nat.zero_le _) (by rw [FU_e]; have := hA.tn.1; show Kn A - 0 < 1000; omega)
    rw [show l_X5_load_4 FU (sKhi A 3 2 0) P 0 0 = _ from e]; rfl
  have hA2 : ∃ b2, Rel 502 (sKhi A 3 2 0) b2 := by
    obtain ⟨z, w, t, z1, -, -, -, -, z6⟩ := s_16 501 A b1 (oN p) 0 0 0 (by decide) hA
    unfold f_L_loadPreset at z1
    rw [el, bs, if_pos rfl] at z1
    obtain rfl := Option.some.inj z1
    exact ⟨w.2, z6⟩
  obtain ⟨b2, hA2⟩ := hA2
  have e10 : Khi (sKhi A 3 2 0) 10 = Khi a 10 := r4 10 (by omega) (by omega)
  have hid : ∃ q, q ≤ B ∧ Khi (sKhi A 3 2 0) 10 10 = oN q := by
    obtain ⟨q, q1, q2⟩ := hq
    exact ⟨q, q1, by rw [e10]; exact q2⟩
  refine ⟨r, A, _, by omega, es, el, ⟨⟨b2, hA2.dn hid hB⟩, hid, fun m i hc => ?_⟩, r3⟩
  have e2 := chos_same (a := a) (a' := sKhi A 3 2 0) (congrArg (fun s => s.2.2.2.2.2.1) r3) enn (by rw [e10]) (fun k => by show Kit A k 9 = _; rw [eit]) (congrArg (fun s => s.2.2.1) r3)
  have := eo (by rw [← e10]; exact m) i (e2.symm.trans hc)
  show ¬ (¬ Kit A i 11 = -1 ∧ Kit A i 12 = 0)
  rw [eit]
  exact this
