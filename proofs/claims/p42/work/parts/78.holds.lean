/-! ===== what holds at all times ===== -/
theorem q_if {a : KS} {v r : Int32} (h1 : ¬ v < -50) (h2 : ¬ 50 < v) (ht : f_X2_turned a v = some r) : f_X8_ifTurned a v = some (0, r) := by
  unfold f_X8_ifTurned
  rw [reqD_in h1 h2, bs, if_pos rfl, ht, bs]
/-- the ticks that lead home -/
theorem q_ticks {a : KS} {b : MS} {j q s0 s1 : Nat} (hb : Rel j a b) (hq : Khi a 10 10 = oN q) (hq2 : q ≤ 1000000) (h0 : Khi a 12 0 = oN s0) (h02 : s0 ≤ 60) (h1 : Khi a 12 1 = oN s1) (h12 : s1 ≤ 99) : (HM a ∧ f_X8_ticksToHome a = some 0) ∨ (¬ HM a ∧ ∃ (r : Int32) (e : Int), f_X8_ticksToHome a = some r ∧ (WB a → e = (s0 : Int) - q) ∧ (¬ WB a → e = 0) ∧ ((r = -1 ∧ e ≤ 0 ∧ (s1 : Int) - q ≤ 0) ∨ ∃ t : Nat, 1 ≤ t ∧ t ≤ 99 ∧ r = oN t ∧ ((t : Int) = e ∨ (t : Int) = (s1 : Int) - q) ∧ (e ≤ 0 ∨ (t : Int) ≤ e) ∧ ((s1 : Int) - q ≤ 0 ∨ (t : Int) ≤ (s1 : Int) - q))) := by
  have zz : (0 : Int32).toInt = 0 := by decide
  unfold f_X8_ticksToHome
  rw [bind_some']
  unfold f_X2_ticksUntilHome
  rcases home_K hb.1 hb.2.1 with ⟨k1, k2⟩ | ⟨k1, k2⟩
  · rw [k1, bs, if_neg n10]
    exact Or.inl ⟨k2, rfl⟩
  · rw [k1, bs, if_pos rfl]
    refine Or.inr ⟨k2, ?_⟩
    have key : ∀ (s : Int32) (e : Int), s.toInt = e → e ≤ 60 → ∃ r : Int32, f_X2_ticksUntilHome_30 a s = some r ∧ ((r = -1 ∧ e ≤ 0 ∧ (s1 : Int) - q ≤ 0) ∨ ∃ t : Nat, 1 ≤ t ∧ t ≤ 99 ∧ r = oN t ∧ ((t : Int) = e ∨ (t : Int) = (s1 : Int) - q) ∧ (e ≤ 0 ∨ (t : Int) ≤ e) ∧ ((s1 : Int) - q ≤ 0 ∨ (t : Int) ≤ (s1 : Int) - q)) := by
      intro s e he h60
      have hx : (oN s1 - oN q).toInt = (s1 : Int) - q := sub_i32 (by omega) (by omega)
      unfold f_X2_ticksUntilHome_30 f_X2_ticksUntilHome_56
      rw [show f_X2_setting a 1 = some (Khi a 12 1) from rfl, bs, h1, hq, lt_e]
      generalize oN s1 - oN q = x at hx
      have e56 : lt (mmax s x) (fun x1 => if x1 ≤ 0 then some (-1) else some x1) = some (if mmax s x ≤ 0 then -1 else mmax s x) := by
        rw [lt_e]
        by_cases z : mmax s x ≤ 0
        · rw [if_pos z, if_pos z]
        · rw [if_neg z, if_neg z]
      by_cases g1 : s ≤ 0
      · rw [if_pos g1, e56]
        refine ⟨_, rfl, ?_⟩
        rw [Int32.le_iff_toInt_le, zz] at g1
        by_cases g2 : x ≤ 0
        · rw [Int32.le_iff_toInt_le, zz] at g2
          have g3 : mmax s x ≤ 0 := by
            unfold mmax
            by_cases z : s < x
            · rw [if_pos z, Int32.le_iff_toInt_le, zz]; omega
            · rw [if_neg z, Int32.le_iff_toInt_le, zz]; omega
          rw [if_pos g3]
          exact Or.inl ⟨rfl, by omega, by omega⟩
        · have g2' := g2
          rw [Int32.le_iff_toInt_le, zz] at g2'
          have g3 : mmax s x = x := by
            unfold mmax
            rw [if_pos (by rw [Int32.lt_iff_toInt_lt]; omega)]
          rw [g3, if_neg g2]
          exact Or.inr ⟨x.toInt.toNat, by omega, by omega, oN_of (by omega), Or.inr (by omega), Or.inl (by omega), Or.inr (by omega)⟩
      · rw [if_neg g1]
        have g1' := g1
        rw [Int32.le_iff_toInt_le, zz] at g1'
        by_cases g2 : x ≤ 0
        · rw [if_pos g2, e56]
          refine ⟨_, rfl, ?_⟩
          rw [Int32.le_iff_toInt_le, zz] at g2
          have g3 : mmax s x = s := by
            unfold mmax
            rw [if_neg (by rw [Int32.lt_iff_toInt_lt]; omega)]
          rw [g3, if_neg g1]
          exact Or.inr ⟨s.toInt.toNat, by omega, by omega, oN_of (by omega), Or.inl (by omega), Or.inr (by omega), Or.inl (by omega)⟩
        · rw [if_neg g2]
          have g2' := g2
          rw [Int32.le_iff_toInt_le, zz] at g2'
          refine ⟨_, rfl, Or.inr ?_⟩
          unfold mmin
          by_cases z : x < s
          · rw [if_pos z]
            rw [Int32.lt_iff_toInt_lt] at z
            exact ⟨x.toInt.toNat, by omega, by omega, oN_of (by omega), Or.inr (by omega), Or.inr (by omega), Or.inr (by omega)⟩
          · rw [if_neg z]
            rw [Int32.lt_iff_toInt_lt] at z
            exact ⟨s.toInt.toNat, by omega, by omega, oN_of (by omega), Or.inl (by omega), Or.inr (by omega), Or.inr (by omega)⟩
    rcases wbh_K hb.1 hb.2.1 with ⟨w1, w2⟩ | ⟨w1, w2⟩
    · rw [w1, bs, if_neg n10, show f_X2_setting a 0 = some (Khi a 12 0) from rfl, bs, h0, hq]
      obtain ⟨r, r1, r2⟩ := key (oN s0 - oN q) ((s0 : Int) - q) (sub_i32 (by omega) (by omega)) (by omega)
      exact ⟨r, _, r1, fun _ => rfl, fun z => absurd w2 z, r2⟩
    · rw [w1, bs, if_pos rfl]
      obtain ⟨r, r1, r2⟩ := key 0 0 zz (by omega)
      exact ⟨r, _, r1, fun z => absurd z w2, fun _ => rfl, r2⟩
section HO
variable {Y : KS} {b : MS}
theorem cd_root (h : RTs Y b) (hr : Kit Y 0 11 = -1) : cd Y 0 = 0 := by
  rw [cd_0 h]
  unfold clo
  rw [if_neg (fun z => z.1 hr)]
/-- the end of the law's look -/
theorem hold_end {v : Int32} {H : Int64} (hb : Rel 500 Y b) (hr : Kit Y 0 11 = -1) (h1 : ¬ v < -50) (h2 : ¬ 50 < v) (hd : ∃ f, f_X8_digest Y = some (H, sc Y f)) (c : KS → Int32 → Int64 → Int32 → Int32 → Option (Int32 × KS)) : ∃ f, f_L_holds_197 c Y v H 1 (oN (Kn Y)) = some (1, sc Y f) := by
  have hn := rt_n hb.1
  obtain ⟨f, hf⟩ := hd
  have t1 : -50 ≤ v.toInt ∧ v.toInt ≤ 50 := by
    rcases det_cases v with z | ⟨-, -, z1, z2⟩
    · rcases z with z | z
      · exact absurd z h1
      · exact absurd z h2
    · exact ⟨z1, z2⟩
  obtain ⟨r, r1, r2, r3⟩ := turned_r hb t1.1 t1.2
  refine ⟨f, ?_⟩
  unfold f_L_holds_197
  rw [q_items hb.1, bs, if_pos (Int32.le_refl _), q_if h1 h2 r1, bs, gd_d rfl, if_neg n10, q_menu0 hb.1, bs, gd_d rfl, if_neg (show ¬ ¬ (-1 : Int32) = -1 from fun z => z rfl)]
  have e3 : f_X8_pressesTo Y 0 = some (0, 0) := by
    have := q_presses hb.1 (i := 0) (by omega)
    rw [hb.1.2.2.2.1.2.2.1] at this
    exact this
  have e4 : f_X8_detentsTo Y 0 = some (0, 0) := by
    have := q_dets hb (i := 0) (by omega)
    rw [dt_0 hb.1] at this
    exact this
  have e5 : f_X8_codesTo Y 0 = some (0, 0) := by
    have := q_codes hb.1 (i := 0) (by omega)
    rw [cd_root hb.1 hr] at this
    exact this
  rw [e3, bs, gd_d rfl, if_neg nn00, e4, bs, gd_d rfl, if_neg nn00, e5, bs, gd_d rfl, if_neg nn00, hf, bs, if_neg (show ¬ ¬ lg_cmp H H = 0 from fun z => z (lcmp_eq rfl))]
  have hb2 : Rel 500 (sc Y f) b := hb
  have fin : ∀ x : Int32, f_L_holds_437 (sc Y f) r x x = some (1, sc Y f) := by
    intro x
    unfold f_L_holds_437
    rw [if_neg (fun z => z rfl), if_neg r2, if_neg r3]
  have m50 : ¬ (0 : Int32) < -50 := by decide
  have p50 : ¬ (50 : Int32) < 0 := by decide
  rcases mode_c hb2 with m | m | m
  · rw [q_if m50 p50 (turned_0b hb2 m), bs, gd_d rfl, show f_X8_mode (sc Y f) = some (Khi (sc Y f) 10 6) from rfl, bs, if_neg (fun z => z m), show f_X8_cursor (sc Y f) = some (Khi (sc Y f) 10 7) from rfl, bs]
    exact fin _
  · rw [q_if m50 p50 (turned_0e hb2 m), bs, gd_d rfl, show f_X8_mode (sc Y f) = some (Khi (sc Y f) 10 6) from rfl, bs, if_pos (by rw [m]; exact n10), bs, if_neg (fun z => z m), q_draft1 m, bs]
    exact fin _
  · obtain ⟨d, -, d1, d2⟩ := turned_0d hb2 m
    rw [q_if m50 p50 d1, bs, gd_d rfl, show f_X8_mode (sc Y f) = some (Khi (sc Y f) 10 6) from rfl, bs, if_pos (by rw [m]; exact n20), bs, if_pos (by rw [m]; decide), q_if (v := 10) (by decide) (by decide) d2, bs, gd_d rfl]
    exact fin _
theorem hold_items {v : Int32} {H : Int64} (hb : Rel 500 Y b) (hr : Kit Y 0 11 = -1) (h1 : ¬ v < -50) (h2 : ¬ 50 < v) (hd : ∃ f, f_X8_digest Y = some (H, sc Y f)) : ∀ (fuel k : Nat), 1 ≤ k → k ≤ Kn Y → Kn Y - k < fuel → ∃ f, l_L_holds_197 fuel Y v H 1 (oN k) = some (1, sc Y f) := by
  have hn := rt_n hb.1
  intro fuel
  induction fuel with
  | zero => intro k _ _ q; omega
  | succ n ih =>
    intro k k1 k2 k3
    have e1 : l_L_holds_197 (n + 1) Y v H 1 (oN k) = f_L_holds_197 (l_L_holds_197 n) Y v H 1 (oN k) := rfl
    rw [e1]
    by_cases g : k = Kn Y
    · rw [g]
      exact hold_end hb hr h1 h2 hd _
    · have hk : k < Kn Y := by omega
      obtain ⟨p, p1, p2, p3, p4, p5, p6, p7, p8⟩ := par hb.1 k1 hk
      have hp : p < Kn Y := by omega
      obtain ⟨l, l1, l2, l3⟩ := lev hb.1 hk
      have hcd := cd_s hb.1 hk p1 p2
      have hdt := dt_s hb.1 hk p1 p2
      have b1 := cd_le hb.1 k hk
      have b2 := dt_le hb.1 k hk
      have nx : f_L_holds_330 (l_L_holds_197 n) Y v H (oN k) = l_L_holds_197 n Y v H 1 (oN (k + 1)) := by
        unfold f_L_holds_330 f_L_holds_335
        rw [oN_succ]
      have fin : ∀ s : Nat, cd Y k = cd Y p + s → f_L_holds_296 (l_L_holds_197 n) Y v H (oN k) (oN (cd Y k)) (oN (cd Y p)) (oN s) = l_L_holds_197 n Y v H 1 (oN (k + 1)) := by
        intro s hs
        unfold f_L_holds_296
        rw [oN_add, ← hs, if_neg (fun z => z rfl), q_kind hb.1 hk, bs, gd_d rfl]
        rcases (hb.1.2.2.2.2.2.2.2.1 k hk).1 with ⟨kd, -⟩ | ⟨kd, -⟩ | ⟨kd, y1, y2, y3, y4⟩
        · rw [kd, if_pos (by decide), nx]
        · rw [kd, if_pos (by decide), nx]
        · have hv := (hb.1.2.2.2.2.2.2.2.1 k hk).2
          have zz : (0 : Int32).toInt = 0 := by decide
          have z9 : (9 : Int32).toInt = 9 := by decide
          unfold VR at hv
          rw [y1, zz] at hv
          rw [kd, if_neg nn22, q_value hb.1 hk (by rw [kd]; decide), bs, gd_d rfl, if_neg (show ¬ Kit Y k 10 < 0 by rw [Int32.lt_iff_toInt_lt, zz]; omega), bs, gd_d rfl, if_neg (show ¬ (9 : Int32) ≤ Kit Y k 10 by rw [Int32.le_iff_toInt_le, z9]; omega), nx]
      unfold f_L_holds_197
      rw [q_items hb.1, bs, if_neg (show ¬ oN (Kn Y) ≤ oN k by rw [oN_le (by omega) (by omega)]; omega), q_menu hb.1 hk hp p2, bs, gd_d rfl, if_neg n10, q_kind hb.1 hp, bs, gd_d rfl, if_neg (fun z => z p3), q_presses hb.1 hk, bs, gd_d rfl, q_presses hb.1 hp, bs, gd_d rfl, if_neg (fun z => z p4), bs, gd_d rfl, if_neg (show ¬ 4 < Kit Y k 3 by rw [l2, show (4 : Int32) = oN 4 from rfl, oN_lt (by decide) (by omega)]; omega), q_dets hb hk, bs, gd_d rfl, q_dets hb hp, bs, gd_d rfl, if_neg (show ¬ oN (dt Y k) < oN (dt Y p) by rw [oN_lt (by omega) (by omega)]; omega), q_codes hb.1 hk, bs, gd_d rfl, q_codes hb.1 hp, bs, gd_d rfl, q_closed hb.1 hk, bs, gd_d rfl]
      by_cases kc : ¬ Kit Y k 11 = -1 ∧ Kit Y k 12 = 0
      · have ec : clo Y k = 1 := if_pos kc
        rw [if_pos kc, if_neg n10, show (1 : Int32) = oN 1 from rfl, fin 1 (by omega)]
        exact ih (k + 1) (by omega) (by omega) (by omega)
      · have ec : clo Y k = 0 := if_neg kc
        rw [if_neg kc, if_pos rfl, show (0 : Int32) = oN 0 from rfl, fin 0 (by omega)]
        exact ih (k + 1) (by omega) (by omega) (by omega)
end HO
theorem holds_ok {B : Nat} (hB : B ≤ 1000000) {a : KS} (h : LI B a) (hr : Kit a 0 11 = -1) {v : Int32} (h1 : ¬ v < -50) (h2 : ¬ 50 < v) : ∃ f, f_L_holds a v = some (1, sc a f) := by
  obtain ⟨⟨b, hb⟩, ⟨q, q1, q2⟩, -⟩ := h
  have hn := rt_n hb.1
  obtain ⟨H, hdig⟩ := q_dig hb
  obtain ⟨f1, hf1⟩ := hdig (Khi a 15)
  rw [sc_id] at hf1
  unfold f_L_holds
  rw [hf1, bs]
  obtain ⟨X, hX⟩ : ∃ X, X = sc a f1 := ⟨_, rfl⟩
  have hbX : Rel 500 X b := by rw [hX]; exact hb
  have hrX : Kit X 0 11 = -1 := by rw [hX]; exact hr
  have hdX : ∀ f0, ∃ f, f_X8_digest (sc X f0) = some (H, sc X f) := by
    intro f0
    rw [hX, sc_sc]
    obtain ⟨f, hf⟩ := hdig f0
    exact ⟨f, by rw [hf, sc_sc]⟩
  have hqX : Khi X 10 10 = oN q := by rw [hX]; exact q2
  suffices G : ∃ f, (f_X8_logged X).bind (fun z6 => if 8 < z6 then (f_L_holds_125 X v H) else ((f_X8_barred X).bind (fun z10 => if z10 < 0 then (f_L_holds_125 X v H) else ((f_X8_barred X).bind (fun z14 => if 30 < z14 then (f_L_holds_125 X v H) else ((f_X8_mode X).bind (fun z18 => if z18 = 1 then (f_L_holds_45 X v H) else ((f_X8_draft X).bind (fun z22 => if ¬ z22 = 0 then (f_L_holds_125 X v H) else (f_L_holds_45 X v H)))))))))) = some (1, sc X f) by
    obtain ⟨f, hf⟩ := G
    rw [← hX]
    exact ⟨f, by rw [← sc_sc a f1 f, ← hX]; exact hf⟩
  clear hX hf1 hdig
  obtain ⟨w, w1, w2, -⟩ := log_c hbX
  obtain ⟨u, u1, u2⟩ := barred_c hbX
  have ht : ∃ f, f_L_holds_126 X v H 1 = some (1, sc X f) := by
    unfold f_L_holds_126
    obtain ⟨f, hf⟩ := disp_l hbX v H FU 0 (Khi X 15) (by decide) (by rw [FU_e]; decide)
    rw [sc_id] at hf
    rw [show (0 : Int32) = oN 0 from rfl, hf]
    obtain ⟨f2, hf2⟩ := hdX f
    obtain ⟨f3, hf3⟩ := hold_items (Y := sc X f) (b := b) (v := v) (H := H) hbX hrX h1 h2 ⟨f2, by rw [hf2, sc_sc]⟩ FU 1 (Nat.le_refl _) (rt_n hbX.1).1 (by rw [FU_e]; have := (rt_n hbX.1).2; show Kn X - 1 < 1000; omega)
    exact ⟨f3, by rw [← sc_sc X f f3]; exact hf3⟩
  obtain ⟨f9, ht⟩ := ht
  have h45 : f_L_holds_45 X v H = some (1, sc X f9) := by
    obtain ⟨z, z1, z2, z3⟩ := q_frac hbX.1
    obtain ⟨⟨s0, -, s02, s03⟩, ⟨s1, -, s12, s13⟩, -⟩ := set_c hbX
    obtain ⟨s, c, d1, d2, d3, -⟩ := chos_c hbX
    have h91 : f_L_holds_91 X v H = some (1, sc X f9) := by
      have kk : ∀ x : Int32, (f_X8_isHome X = some x) → f_L_holds_103 X v H x = some (1, sc X f9) := by
        intro x hx
        unfold f_L_holds_103
        rw [hx, bs, if_neg (fun z => z rfl), q_shown hbX.1 d2 d1, bs, q_kind hbX.1 d2, bs, gd_d rfl, if_neg (fun z => z d3), ht]
      unfold f_L_holds_91
      rcases q_ticks hbX hqX (by omega) s03 s02 s13 s12 with ⟨k1, k2⟩ | ⟨k1, r, e, k2, -, -, k5⟩
      · rw [k2, bs, if_neg nn00]
        refine kk 1 ?_
        rcases q_home hbX.1 hbX.2.1 with ⟨z1, -⟩ | ⟨-, z2⟩
        · exact z1
        · exact absurd k1 z2
      · have r0 : ¬ r = 0 := by
          rcases k5 with ⟨k5, -⟩ | ⟨t, t1, t2, t3, -⟩
          · rw [k5]; decide
          · rw [t3]; exact fun z => absurd (oN_inj (y := 0) (by omega) (by decide) z) (by omega)
        rw [k2, bs, if_pos r0]
        refine kk 0 ?_
        rcases q_home hbX.1 hbX.2.1 with ⟨-, z2⟩ | ⟨z1, -⟩
        · exact absurd z2 k1
        · exact z1
    unfold f_L_holds_45
    rw [z1, bs, if_neg z2, bs, if_neg z3]
    rcases q_home hbX.1 hbX.2.1 with ⟨z1, z2⟩ | ⟨z1, z2⟩
    · have es : f_X8_shown X = some 0 := by
        have := q_shown hbX.1 (s := 0) (by have := (rt_n hbX.1).1; omega) z2.2.1
        exact this
      rw [z1, bs, if_neg n10, show f_X8_mode X = some (Khi X 10 6) from rfl, bs, if_neg (fun z => z z2.1), es, bs, if_neg nn00, show f_X8_cursor X = some (Khi X 10 7) from rfl, bs, if_neg (fun z => z z2.2.2.1), h91]
    · rw [z1, bs, if_pos rfl, h91]
  rw [show f_X8_logged X = some (Khi X 3 2) from rfl, bs, w2, if_neg (show ¬ 8 < oN w by rw [show (8 : Int32) = oN 8 from rfl, oN_lt (by decide) (by omega)]; omega), show f_X8_barred X = some (Khi X 10 11) from rfl, bs, u2, if_neg (oN_nn (by omega)), bs, if_neg (show ¬ 30 < oN u by rw [show (30 : Int32) = oN 30 from rfl, oN_lt (by decide) (by omega)]; omega), show f_X8_mode X = some (Khi X 10 6) from rfl, bs]
  by_cases m : Khi X 10 6 = 1
  · rw [if_pos m]
    exact ⟨f9, h45⟩
  · rw [if_neg m, q_draft0 m, bs, if_neg nn00]
    exact ⟨f9, h45⟩
