/-! ===== left alone ===== -/
theorem tick_h {a : KS} {n : Nat} (h1 : 1 ≤ n) (h2 : n ≤ 99) {r : Int32} {a' : KS} (h : f_X2_passTicks a (oN n) = some (r, a')) : f_X8_tick a (oN n) = some (0, r, a') := by
  unfold f_X8_tick
  rw [if_neg (show ¬ oN n < 1 by rw [show (1 : Int32) = oN 1 from rfl, oN_lt (by omega) (by decide)]; omega), if_pos (show oN n ≤ 99 by rw [show (99 : Int32) = oN 99 from rfl, oN_le (by omega) (by decide)]; omega), h, bs]
/-- one tick, with all that it does -/
theorem tick1_K {B : Nat} (hB : B + 1 ≤ 1000000) {a : KS} (h : LI B a) : ∃ (r : Int32) (a' : KS), f_X8_tick a 1 = some (0, r, a') ∧ LI (B + 1) a' ∧ Kit a' 0 11 = Kit a 0 11 ∧ Kn a' = Kn a ∧ (Khi a 10 10 + 1 = Khi a 12 1 → ¬ HM a → HM a' ∧ 0 < r) ∧ (Khi a 10 10 + 1 = Khi a 12 0 → ¬ Khi a 10 6 = 0 → WB a → HM a' ∧ 0 < r) := by
  have hT : ∀ k x v d x' (b : MS) (s : Nat), k < 1 → RTs x b → Ksh x = some s → s < Kn x → ((k = 0 → x = a ∧ v = 0) ∧ (k = 1 → TKS a v x)) → TKS x d x' → ((k + 1 = 0 → x' = a ∧ v + d = 0) ∧ (k + 1 = 1 → TKS a (v + d) x')) := by
    intro k x v d x' b s hk _ _ _ t ht
    have k0 : k = 0 := by omega
    obtain ⟨rfl, rfl⟩ := t.1 k0
    rw [Int32.zero_add]
    exact ⟨fun z => absurd z (Nat.succ_ne_zero k), fun _ => ht⟩
  obtain ⟨r, z, p1, p2, p3, p4, p5⟩ := ticks_all (n := 1) (by decide) hB h (fun k x v => (k = 0 → x = a ∧ v = 0) ∧ (k = 1 → TKS a v x)) hT ⟨fun _ => ⟨rfl, rfl⟩, fun z => absurd z (by decide)⟩
  have t := p2.2 rfl
  exact ⟨r, _, tick_h (n := 1) (by decide) (by decide) p1, p3, p4.2.2.2.2.2.1 0 11 (by decide), p4.1, t.2.2.2.2.2.2.1, t.2.2.2.2.2.2.2.1⟩
theorem d_q {d v : Int32} {k : Nat} (hd : d = 0 ∨ d = 1 ∨ d = 2) (hv : ∃ m : Nat, m ≤ 2 * k ∧ v = oN m) : ∃ m : Nat, m ≤ 2 * (k + 1) ∧ v + d = oN m := by
  obtain ⟨m, m1, rfl⟩ := hv
  rcases hd with rfl | rfl | rfl
  · exact ⟨m, by omega, Int32.add_zero _⟩
  · exact ⟨m + 1, by omega, oN_succ m⟩
  · exact ⟨m + 2, by omega, oN_add m 2⟩
theorem isLeft_ok {B : Nat} (hB : B + 99 ≤ 1000000) {a : KS} (h : LI B a) : ∃ a', f_L_isLeft a = some (1, a') ∧ LI (B + 99) a' ∧ Kit a' 0 11 = Kit a 0 11 ∧ Kn a' = Kn a := by
  have hI := h
  obtain ⟨⟨b, hb⟩, ⟨q, q1, q2⟩, eo⟩ := h
  obtain ⟨⟨s0, -, s02, s03⟩, ⟨s1, -, s12, s13⟩, -⟩ := set_c hb
  unfold f_L_isLeft
  rcases q_ticks hb q2 (by omega) s03 s02 s13 s12 with ⟨k1, k2⟩ | ⟨k1, r, e, k2, k3, k4, k5⟩
  · rw [k2, bs, if_pos (by decide)]
    unfold f_L_isLeft_16 f_L_isLeft_25
    rcases q_home hb.1 hb.2.1 with ⟨z1, -⟩ | ⟨-, z2⟩
    · rw [if_neg nn00, z1, bs, if_neg nn11, if_neg (by decide), if_neg (by decide)]
      exact ⟨a, rfl, hI.up (by omega), rfl, rfl⟩
    · exact absurd k1 z2
  · have hh : f_X8_isHome a = some 0 := by
      rcases q_home hb.1 hb.2.1 with ⟨-, z2⟩ | ⟨z1, -⟩
      · exact absurd z2 k1
      · exact z1
    rcases k5 with ⟨k5, -⟩ | ⟨t, t1, t2, t3, t4, t5, t6⟩
    · rw [k2, bs, k5, if_pos (by decide)]
      unfold f_L_isLeft_16 f_L_isLeft_25
      rw [if_pos (by decide), hh, bs, if_neg nn00, if_neg (by decide), if_neg (by decide)]
      exact ⟨a, rfl, hI.up (by omega), rfl, rfl⟩
    · rw [k2, bs, t3, if_neg (show ¬ oN t < 1 by rw [show (1 : Int32) = oN 1 from rfl, oN_lt (by omega) (by decide)]; omega), if_pos (show oN t ≤ 99 by rw [show (99 : Int32) = oN 99 from rfl, oN_le (by omega) (by decide)]; omega)]
      -- the last tick
      have last : ∀ {x : KS} {B' : Nat}, B' + 1 ≤ B + 99 → LI B' x → ¬ HM x → Khi x 10 10 + 1 = oN (q + t) → Khi x 12 = Khi a 12 → ((q + t = s1) ∨ (q + t = s0 ∧ ¬ Khi x 10 6 = 0 ∧ WB x)) → Kit x 0 11 = Kit a 0 11 → Kn x = Kn a → ∃ a', f_L_isLeft_79 x = some (1, a') ∧ LI (B + 99) a' ∧ Kit a' 0 11 = Kit a 0 11 ∧ Kn a' = Kn a := by
        intro x B' h9 hx nh hi hs hc hk hn
        obtain ⟨r, x', y1, y2, y3, y3n, y4, y5⟩ := tick1_K (B := B') (by omega) hx
        have yy : HM x' ∧ 0 < r := by
          rcases hc with hc | ⟨c1, c2, c3⟩
          · exact y4 (by rw [hi, hs, s13, hc]) nh
          · exact y5 (by rw [hi, hs, s03, c1]) c2 c3
        obtain ⟨b2, hb2⟩ := y2.1
        have h2 : f_X8_isHome x' = some 1 := by
          rcases q_home hb2.1 hb2.2.1 with ⟨z1, -⟩ | ⟨-, z2⟩
          · exact z1
          · exact absurd yy.1 z2
        unfold f_L_isLeft_79 f_L_isLeft_84
        rw [if_neg n10, y1, bs, gd_d rfl, if_neg (show ¬ r ≤ 0 from Int32.not_le.mpr yy.2), h2, bs, if_neg n10]
        exact ⟨x', rfl, y2.up h9, y3.trans hk, y3n.trans hn⟩
      by_cases e1 : t = 1
      · subst e1
        rw [if_pos (show oN 1 = 1 from rfl)]
        refine last (x := a) (B' := B) (by omega) hI k1 (by rw [q2, oN_succ]) rfl ?_ rfl rfl
        by_cases w : WB a
        · have m : ¬ Khi a 10 6 = 0 := fun z => k1 ⟨z, w⟩
          have e0 := k3 w
          rcases t4 with t4 | t4
          · exact Or.inr ⟨by omega, m, w⟩
          · exact Or.inl (by omega)
        · have e0 := k4 w
          exact Or.inl (by omega)
      · rw [if_neg (show ¬ oN t = 1 from fun z => e1 (oN_inj (y := 1) (by omega) (by decide) z)), show (1 : Int32) = oN 1 from rfl, oN_sub t1]
        -- the ticks before
        have run : ∃ (r : Int32) (x : KS), f_X8_tick a (oN (t - 1)) = some (0, r, x) ∧ (∃ m : Nat, m ≤ 2 * (t - 1) ∧ r = oN m) ∧ LI (B + (t - 1)) x ∧ SM a x ∧ Khi x 10 10 = oN (q + (t - 1)) ∧ ((WB a ∧ WB x ∧ ¬ Khi x 10 6 = 0) ∨ (¬ WB a ∧ ¬ WB x)) := by
          by_cases w : WB a
          · have m : ¬ Khi a 10 6 = 0 := fun z => k1 ⟨z, w⟩
            have e0 := k3 w
            obtain ⟨r, z, p1, p2, p3, p4, p5⟩ := ticks_all (n := t - 1) (by omega) (show B + (t - 1) ≤ 1000000 by omega) hI (fun k x v => Khi x 10 10 = oN (q + k) ∧ (∃ m : Nat, m ≤ 2 * k ∧ v = oN m) ∧ SM a x ∧ WB x ∧ ¬ Khi x 10 6 = 0) (by
              intro k x v d x' b' s hk hr _ _ ⟨u1, u2, u3, u4, u5⟩ ht
              have e12 : Khi x 12 = Khi a 12 := u3.2.2.2.2.2.2.1
              have n1 : ¬ Khi x 10 10 + 1 = Khi x 12 1 := by
                rw [u1, e12, s13, oN_succ]
                exact fun z => by have := oN_inj (by omega) (by omega) z; omega
              have n0 : ¬ Khi x 10 10 + 1 = Khi x 12 0 := by
                rw [u1, e12, s03, oN_succ]
                exact fun z => by have := oN_inj (by omega) (by omega) z; omega
              obtain ⟨y1, y2, y3⟩ := ht.2.2.2.2.2.1 n1
              refine ⟨by rw [ht.2.1, u1, oN_succ, Nat.add_assoc], d_q ht.2.2.2.2.2.2.2.2.2 u2, u3.tr ht.1, u4.cg y1 y2 y3 ht.1.1, ?_⟩
              rw [ht.2.2.2.2.1 n0 n1]
              exact u5) ⟨q2, ⟨0, by omega, rfl⟩, SM.rf a, w, m⟩
            exact ⟨r, _, tick_h (by omega) (by omega) p1, p2.2.1, p3, p2.2.2.1.tr ⟨rfl, rfl, rfl, rfl, rfl, fun _ _ _ => rfl, rfl, rfl⟩, p2.1, Or.inl ⟨w, p2.2.2.2.1, p2.2.2.2.2⟩⟩
          · have e0 := k4 w
            obtain ⟨r, z, p1, p2, p3, p4, p5⟩ := ticks_all (n := t - 1) (by omega) (show B + (t - 1) ≤ 1000000 by omega) hI (fun k x v => Khi x 10 10 = oN (q + k) ∧ (∃ m : Nat, m ≤ 2 * k ∧ v = oN m) ∧ SM a x ∧ ¬ WB x) (by
              intro k x v d x' b' s hk hr _ _ ⟨u1, u2, u3, u4⟩ ht
              have e12 : Khi x 12 = Khi a 12 := u3.2.2.2.2.2.2.1
              have n1 : ¬ Khi x 10 10 + 1 = Khi x 12 1 := by
                rw [u1, e12, s13, oN_succ]
                exact fun z => by have := oN_inj (by omega) (by omega) z; omega
              obtain ⟨y1, y2, y3⟩ := ht.2.2.2.2.2.1 n1
              exact ⟨by rw [ht.2.1, u1, oN_succ, Nat.add_assoc], d_q ht.2.2.2.2.2.2.2.2.2 u2, u3.tr ht.1, fun z => u4 (z.cg y1.symm y2.symm y3.symm ht.1.1.symm)⟩) ⟨q2, ⟨0, by omega, rfl⟩, SM.rf a, w⟩
            exact ⟨r, _, tick_h (by omega) (by omega) p1, p2.2.1, p3, p2.2.2.1.tr ⟨rfl, rfl, rfl, rfl, rfl, fun _ _ _ => rfl, rfl, rfl⟩, p2.1, Or.inr ⟨w, p2.2.2.2⟩⟩
        obtain ⟨r', x, y1, ⟨m, m1, m2⟩, y3, y4, y5, y6⟩ := run
        have nh : ¬ HM x := by
          rcases y6 with ⟨-, -, z⟩ | ⟨-, z⟩
          · exact fun u => z u.1
          · exact fun u => z u.2
        obtain ⟨b2, hb2⟩ := y3.1
        have h2 : f_X8_isHome x = some 0 := by
          rcases q_home hb2.1 hb2.2.1 with ⟨-, z2⟩ | ⟨z1, -⟩
          · exact absurd z2 nh
          · exact z1
        have e12 : Khi x 12 = Khi a 12 := y4.2.2.2.2.2.2.1
        have tt : f_X8_ticksToHome x = some 1 := by
          rcases q_ticks hb2 y5 (by omega) (by rw [e12]; exact s03) s02 (by rw [e12]; exact s13) s12 with ⟨z1, -⟩ | ⟨-, r2, e2, z2, z3, z4, z5⟩
          · exact absurd z1 nh
          · have ee : (∃ ew : Int, (e2 = ew - (t - 1 : Nat) ∧ e = ew) ∨ (e = 0 ∧ e2 = 0)) := by
              rcases y6 with ⟨w, wx, -⟩ | ⟨w, wx⟩
              · have a1 := k3 w
                have a2 := z3 wx
                exact ⟨e, Or.inl ⟨by omega, rfl⟩⟩
              · exact ⟨0, Or.inr ⟨k4 w, z4 wx⟩⟩
            obtain ⟨ew, ee⟩ := ee
            rcases z5 with ⟨-, z6, z7⟩ | ⟨t', u1, u2, u3, u4, u5, u6⟩
            · exfalso
              omega
            · have : t' = 1 := by omega
              rw [z2, u3, this]; rfl
        rw [y1, bs, gd_d rfl, m2, if_neg (oN_nn (by omega)), h2, bs, if_neg nn00, tt, bs, if_neg (show ¬ ¬ (1 : Int32) = oN 1 from fun z => z rfl)]
        refine last (x := x) (B' := B + (t - 1)) (by omega) y3 nh (by rw [y5, oN_succ]; congr 1; omega) e12 ?_ (y4.2.2.2.2.2.1 0 11 (by decide)) y4.1
        rcases y6 with ⟨w, wx, wm⟩ | ⟨w, wx⟩
        · have e0 := k3 w
          rcases t4 with t4 | t4
          · exact Or.inr ⟨by omega, wm, wx⟩
          · exact Or.inl (by omega)
        · have e0 := k4 w
          exact Or.inl (by omega)
