/-! ===== a tick, ticks ===== -/
section TK
variable {a : KS} {b : MS}
theorem wbh_c (h : RTs a b) {s : Nat} (d1 : Ksh a = some s) (d2 : s < Kn a) : (f_X2_wouldBeHomeBrowsing a = some 1 ∧ WB a) ∨ (f_X2_wouldBeHomeBrowsing a = some 0 ∧ ¬ WB a) := by
  have hn := rt_n h
  unfold f_X2_wouldBeHomeBrowsing
  rw [lt_e, d1, gd_t (by rw [show okr (Kn a) (some s) = true from decide_eq_true d2, show okr (Kn a) (some 0) = true from decide_eq_true (by omega)]; rfl)]
  by_cases e : s = 0
  · subst e
    rw [if_neg (fun q => q rfl)]
    by_cases e2 : Khi a 10 7 = 0
    · rw [if_neg (fun q => q e2)]
      rcases any_eq h with ⟨k1, -, i, k3, k4⟩ | ⟨k1, -, k3⟩
      · rw [k1, bs, if_pos n10]
        exact Or.inr ⟨rfl, fun q => q.2.2 i k3 k4⟩
      · rw [k1, bs, if_neg (fun q => q rfl)]
        exact Or.inl ⟨rfl, d1, e2, k3⟩
    · rw [if_pos e2]
      exact Or.inr ⟨rfl, fun q => e2 q.2.1⟩
  · rw [if_pos (fun q => e (Option.some.inj q))]
    exact Or.inr ⟨rfl, fun q => e (Option.some.inj (d1.symm.trans q.1))⟩
theorem home_c (h : RTs a b) {s : Nat} (d1 : Ksh a = some s) (d2 : s < Kn a) : (f_X2_atHome a = some 1 ∧ HM a) ∨ (f_X2_atHome a = some 0 ∧ ¬ HM a) := by
  unfold f_X2_atHome
  by_cases m0 : Khi a 10 6 = 0
  · rw [if_neg (fun q => q m0)]
    rcases wbh_c h d1 d2 with ⟨k1, k2⟩ | ⟨k1, k2⟩
    · rw [k1, bs, if_neg n10]
      exact Or.inl ⟨rfl, m0, k2⟩
    · rw [k1, bs, if_pos rfl]
      exact Or.inr ⟨rfl, fun q => k2 q.2⟩
  · rw [if_pos m0]
    exact Or.inr ⟨rfl, fun q => m0 q.1⟩
/-- the end of a tick -/
theorem p56_K (h : RTs a b) {s : Nat} (d1 : Ksh a = some s) (d2 : s < Kn a) (c : Int32) : (Khi a 10 10 = Khi a 12 1 ∧ ¬ HM a ∧ ∃ a', f_X2_passTick_56 a c = some (c + 1, a') ∧ SM a a' ∧ HM a' ∧ Khi a' 13 = Khi a 13 ∧ (∀ k, k ≠ 6 → k ≠ 7 → Khi a' 10 k = Khi a 10 k)) ∨ (¬ (Khi a 10 10 = Khi a 12 1 ∧ ¬ HM a) ∧ f_X2_passTick_56 a c = some (c, a)) := by
  have kK : f_X2_setting a 1 = some (Khi a 12 1) := rfl
  unfold f_X2_passTick_56
  rw [kK, bs]
  by_cases g : Khi a 10 10 = Khi a 12 1
  · rw [if_neg (fun z => z g)]
    rcases home_c h d1 d2 with ⟨m1, m2⟩ | ⟨m1, m2⟩
    · rw [m1, bs, if_pos n10]
      exact Or.inr ⟨fun z => z.2 m2, rfl⟩
    · rw [m1, bs, if_neg nn00]
      obtain ⟨a', g1, g2, g3, g4, g5⟩ := goHome_K h.tn
      rw [g1, bs]
      exact Or.inl ⟨g, m2, a', rfl, g2, g3, g4, g5⟩
  · rw [if_pos g]
    exact Or.inr ⟨fun z => g z.1, rfl⟩
/-- what a tick does -/
def TKS (a : KS) (d : Int32) (a' : KS) : Prop := SM a a' ∧ Khi a' 10 10 = Khi a 10 10 + 1 ∧ Khi a' 10 11 = (if Khi a 10 11 ≤ 0 then Khi a 10 11 else Khi a 10 11 - 1) ∧ Khi a' 13 = Khi a 13 ∧
  (¬ Khi a 10 10 + 1 = Khi a 12 0 → ¬ Khi a 10 10 + 1 = Khi a 12 1 → Khi a' 10 6 = Khi a 10 6) ∧
  (¬ Khi a 10 10 + 1 = Khi a 12 1 → Ksh a' = Ksh a ∧ Khi a' 10 7 = Khi a 10 7 ∧ Kit a' = Kit a) ∧
  (Khi a 10 10 + 1 = Khi a 12 1 → ¬ HM a → HM a' ∧ 0 < d) ∧
  (Khi a 10 10 + 1 = Khi a 12 0 → ¬ Khi a 10 6 = 0 → WB a → HM a' ∧ 0 < d) ∧
  (¬ Khi a' 10 6 = 0 → Khi a' 10 6 = Khi a 10 6 ∧ Ksh a' = Ksh a ∧ Khi a' 10 7 = Khi a 10 7 ∧ Kit a' = Kit a) ∧
  (d = 0 ∨ d = 1 ∨ d = 2)
/-- the clock's state at a tick: idle one more, barred one less -/
def tkA (a : KS) : KS := if Khi a 10 11 ≤ 0 then sKhi a 10 10 (Khi a 10 10 + 1) else sKhi (sKhi a 10 10 (Khi a 10 10 + 1)) 10 11 (Khi a 10 11 - 1)
theorem tkA_f (a : KS) : SM a (tkA a) ∧ Khi (tkA a) 10 10 = Khi a 10 10 + 1 ∧ Khi (tkA a) 10 11 = (if Khi a 10 11 ≤ 0 then Khi a 10 11 else Khi a 10 11 - 1) ∧ Khi (tkA a) 13 = Khi a 13 ∧ Khi (tkA a) 10 6 = Khi a 10 6 ∧ Ksh (tkA a) = Ksh a ∧ Khi (tkA a) 10 7 = Khi a 10 7 ∧ Kit (tkA a) = Kit a := by
  unfold tkA
  by_cases g : Khi a 10 11 ≤ 0
  · rw [if_pos g, if_pos g]
    exact ⟨⟨rfl, rfl, rfl, rfl, rfl, fun _ _ _ => rfl, rfl, rfl⟩, rfl, rfl, rfl, rfl, rfl, rfl, rfl⟩
  · rw [if_neg g, if_neg g]
    exact ⟨⟨rfl, rfl, rfl, rfl, rfl, fun _ _ _ => rfl, rfl, rfl⟩, rfl, rfl, rfl, rfl, rfl, rfl, rfl⟩
theorem tk_h (a : KS) : f_X2_passTick a = f_X2_passTick_29 (tkA a) 0 := by
  unfold f_X2_passTick tkA
  by_cases g : Khi a 10 11 ≤ 0
  · rw [if_pos g, if_pos (show Khi (sKhi a 10 10 (Khi a 10 10 + 1)) 10 11 ≤ 0 from g)]
  · rw [if_neg g, if_neg (show ¬ Khi (sKhi a 10 10 (Khi a 10 10 + 1)) 10 11 ≤ 0 from g)]; rfl
theorem SM.rts {a a' : KS} (h : RTs a b) (k : SM a a') (k12 : Kit a' = Kit a) : RTs a' b := by
  obtain ⟨h1, h2, h3, h4, h5, h6, h7, h8⟩ := k
  show RT (Kn a') (Khi a' 1 2) (Mhi b 100 1) (Kit a') (Kmn a') (Kch a') (Kti a') _ _ _ _ _ _ _ _
  rw [h1, h2, h3, h4, h5, k12]
  exact h
theorem WB.cg {a a' : KS} (h : WB a) (h1 : Ksh a' = Ksh a) (h2 : Khi a' 10 7 = Khi a 10 7) (h3 : Kit a' = Kit a) (h4 : Kn a' = Kn a) : WB a' := by
  refine ⟨h1.trans h.1, h2.trans h.2.1, fun i hi q => h.2.2 i (by rw [← h4]; exact hi) ?_⟩
  unfold isOp at q ⊢
  rw [h3] at q
  exact q
theorem tick_K (h : RTs a b) {s : Nat} (d1 : Ksh a = some s) (d2 : s < Kn a) {d : Int32} {a' : KS} (hp : f_X2_passTick a = some (d, a')) : TKS a d a' := by
  rw [tk_h] at hp
  obtain ⟨f1, f2, f3, f4, f5, f6, f7, f8⟩ := tkA_f a
  have e12 : Khi (tkA a) 12 = Khi a 12 := f1.2.2.2.2.2.2.1
  have hx : RTs (tkA a) b := f1.rts h f8
  have x1 : Ksh (tkA a) = some s := f6.trans d1
  have x2 : s < Kn (tkA a) := by rw [f1.1]; exact d2
  have nh : ¬ HM a → ¬ HM (tkA a) := fun z q => z ⟨f5.symm.trans q.1, WB.cg q.2 f6.symm f7.symm f8.symm f1.1.symm⟩
  generalize tkA a = X at *
  unfold f_X2_passTick_29 at hp
  rw [show f_X2_setting X 0 = some (Khi X 12 0) from rfl, bs] at hp
  by_cases g : Khi X 10 10 = Khi X 12 0 ∧ ¬ Khi X 10 6 = 0
  · rw [if_neg (fun z => z g.1), if_neg g.2] at hp
    have g0 : Khi a 10 10 + 1 = Khi a 12 0 := by rw [← f2, ← e12]; exact g.1
    rcases p56_K (a := sKhi X 10 6 0) (b := b) hx x1 x2 (0 + 1) with ⟨k1, k2, X', k3, k4, k5, k6, k7⟩ | ⟨k1, k2⟩
    · rw [k3] at hp
      obtain ⟨rfl, rfl⟩ := Prod.mk.inj (Option.some.inj hp)
      have g1 : Khi a 10 10 + 1 = Khi a 12 1 := by rw [← f2, ← e12]; exact k1
      refine ⟨f1.tr (SM.tr (b := sKhi X 10 6 0) ⟨rfl, rfl, rfl, rfl, rfl, fun _ _ _ => rfl, rfl, rfl⟩ k4), (k7 10 (by decide) (by decide)).trans f2, (k7 11 (by decide) (by decide)).trans f3, k6.trans f4, fun z => absurd g0 z, fun z => absurd g1 z, fun _ _ => ⟨k5, by decide⟩, fun _ _ _ => ⟨k5, by decide⟩, fun z => absurd k5.1 z, Or.inr (Or.inr rfl)⟩
    · rw [k2] at hp
      obtain ⟨rfl, rfl⟩ := Prod.mk.inj (Option.some.inj hp)
      refine ⟨f1.tr ⟨rfl, rfl, rfl, rfl, rfl, fun _ _ _ => rfl, rfl, rfl⟩, f2, f3, f4, fun z => absurd g0 z, fun _ => ⟨f6, f7, f8⟩, fun g1 _ => ?_, fun _ _ w => ⟨⟨rfl, WB.cg w f6 f7 f8 f1.1⟩, by decide⟩, fun z => absurd rfl z, Or.inr (Or.inl rfl)⟩
      have z1 : HM (sKhi X 10 6 0) := by
        refine Classical.byContradiction fun z => k1 ⟨?_, z⟩
        show Khi X 10 10 = Khi X 12 1
        rw [f2, e12]; exact g1
      exact ⟨z1, by decide⟩
  · have e9 : (if ¬ Khi X 10 10 = Khi X 12 0 then f_X2_passTick_56 X 0 else if Khi X 10 6 = 0 then f_X2_passTick_56 X 0 else f_X2_passTick_56 (sKhi X 10 6 0) (0 + 1)) = f_X2_passTick_56 X 0 := by
      by_cases z : Khi X 10 10 = Khi X 12 0
      · rw [if_neg (fun q => q z), if_pos (Classical.byContradiction fun q => g ⟨z, q⟩)]
      · rw [if_pos z]
    rw [e9] at hp
    have ng : Khi a 10 10 + 1 = Khi a 12 0 → Khi a 10 6 = 0 := fun z => by
      rw [← f5]
      exact Classical.byContradiction fun q => g ⟨by rw [f2, e12]; exact z, q⟩
    rcases p56_K (a := X) (b := b) hx x1 x2 0 with ⟨k1, k2, X', k3, k4, k5, k6, k7⟩ | ⟨k1, k2⟩
    · rw [k3] at hp
      obtain ⟨rfl, rfl⟩ := Prod.mk.inj (Option.some.inj hp)
      have g1 : Khi a 10 10 + 1 = Khi a 12 1 := by rw [← f2, ← e12]; exact k1
      exact ⟨f1.tr k4, (k7 10 (by decide) (by decide)).trans f2, (k7 11 (by decide) (by decide)).trans f3, k6.trans f4, fun _ z => absurd g1 z, fun z => absurd g1 z, fun _ _ => ⟨k5, by decide⟩, fun _ _ _ => ⟨k5, by decide⟩, fun z => absurd k5.1 z, Or.inr (Or.inl rfl)⟩
    · rw [k2] at hp
      obtain ⟨rfl, rfl⟩ := Prod.mk.inj (Option.some.inj hp)
      exact ⟨f1, f2, f3, f4, fun _ _ => f5, fun _ => ⟨f6, f7, f8⟩, fun g1 z => absurd ⟨by rw [f2, e12]; exact g1, nh z⟩ k1, fun z1 z2 => absurd (ng z1) z2, fun _ => ⟨f5, f6, f7, f8⟩, Or.inl rfl⟩
end TK
/-- ticks, with what every tick keeps -/
theorem ticks_T {j n : Nat} (hn : n ≤ 99) (T : Nat → KS → Int32 → Prop) (hT : ∀ k a v d a' b s, k < n → RTs a b → Ksh a = some s → s < Kn a → T k a v → TKS a d a' → T (k + 1) a' (v + d)) : ∀ (fuel k B : Nat) (a : KS) (b : MS) (v2 : Int32), k ≤ n → n - k < fuel → B + (n - k) ≤ 2000 * j → PI j k a b → (∃ q, q ≤ B ∧ Khi a 10 10 = oN q) → T k a v2 → ∃ (r : Int32) (z : KS), l_X2_passTicks_4 fuel a (oN n) v2 (oN k) = some (r, sKhi (sKhi z 13 7 (Khi z 13 7 + oN n)) 13 6 (Khi z 13 6 + r)) ∧ T n z r := by
  intro fuel
  induction fuel with
  | zero => intro k B a b v2 _ h; omega
  | succ f ih =>
    intro k B a b v2 h1 h2 hB hI hq hT0
    have e1 : l_X2_passTicks_4 (f + 1) a (oN n) v2 (oN k) = f_X2_passTicks_4 (l_X2_passTicks_4 f) a (oN n) v2 (oN k) := rfl
    rw [e1]
    unfold f_X2_passTicks_4
    by_cases g : k = n
    · subst g
      rw [if_pos (Int32.le_refl _), show (7 : Int32) = oN 7 from rfl, count_in _ (by decide), bs, show (6 : Int32) = oN 6 from rfl, count_in _ (by decide), bs]
      exact ⟨v2, a, rfl, hT0⟩
    · rw [if_neg (show ¬ oN n ≤ oN k by rw [oN_le (by omega) (by omega)]; omega)]
      obtain ⟨d, a', b', r1, -, r3, r4, -⟩ := pass_S (B := B) (by omega) hI hq
      obtain ⟨s, c, d1, d2, -⟩ := hI.2.1.1
      have ht := tick_K hI.1 d1 d2 r1
      rw [r1, bs, lt_e, oN_succ]
      exact ih (k + 1) (B + 1) a' b' (v2 + d) (by omega) (by omega) (by omega) r3 r4 (hT k a v2 d a' b s (by omega) hI.1 d1 d2 hT0 ht)
theorem evk_0 (f : Nat → Int32) : evk f 0 = f := by
  funext x
  unfold evk
  by_cases g : x = 7
  · rw [if_pos g, g]; exact Int32.add_zero _
  · rw [if_neg g]
theorem Rel.pi {j : Nat} {a : KS} {b : MS} (h : Rel j a b) : PI j 0 a b := by
  obtain ⟨h1, h2, h3⟩ := h
  refine ⟨h1, ?_, h3⟩
  rw [evk_0]
  exact h2
/-- ticks: what they keep, and the invariant -/
theorem ticks_all {B n : Nat} (hn : n ≤ 99) (hB : B + n ≤ 1000000) {a : KS} (h : LI B a) (T : Nat → KS → Int32 → Prop) (hT : ∀ k a v d a' b s, k < n → RTs a b → Ksh a = some s → s < Kn a → T k a v → TKS a d a' → T (k + 1) a' (v + d)) (h0 : T 0 a 0) : ∃ (r : Int32) (z : KS), f_X2_passTicks a (oN n) = some (r, sKhi (sKhi z 13 7 (Khi z 13 7 + oN n)) 13 6 (Khi z 13 6 + r)) ∧ T n z r ∧ LI (B + n) (sKhi (sKhi z 13 7 (Khi z 13 7 + oN n)) 13 6 (Khi z 13 6 + r)) ∧ SM a z ∧ Khi z 13 = Khi a 13 := by
  obtain ⟨⟨b, hb⟩, hq, eo⟩ := h
  obtain ⟨r0, a0', b', p1, -, -, p4, p5⟩ := passes_eq hn (j := 500) (B := B) (by omega) hb hq
  have hT2 : ∀ k x v d a' b s, k < n → RTs x b → Ksh x = some s → s < Kn x → (T k x v ∧ SM a x ∧ Khi x 13 = Khi a 13 ∧ EO x) → TKS x d a' → (T (k + 1) a' (v + d) ∧ SM a a' ∧ Khi a' 13 = Khi a 13 ∧ EO a') := by
    intro k a1 v d a' b s hk hr s1 s2 t ht
    refine ⟨hT k a1 v d a' b s hk hr s1 s2 t.1 ht, t.2.1.tr ht.1, ht.2.2.2.1.trans t.2.2.1, fun m1 i hc => ?_⟩
    have m0 : ¬ Khi a' 10 6 = 0 := by rw [m1]; exact n10
    obtain ⟨k1, k2, k3, k4⟩ := ht.2.2.2.2.2.2.2.2.1 m0
    have e := chos_same k2 ht.1.1 k3 (fun i => by rw [k4]) ht.1.2.2.2.2.1
    have := t.2.2.2 (k1.symm.trans m1) i (e.symm.trans hc)
    rw [k4]
    exact this
  obtain ⟨r, z, r1, r2⟩ := ticks_T (j := 500) hn (fun k x v => T k x v ∧ SM a x ∧ Khi x 13 = Khi a 13 ∧ EO x) hT2 FU 0 B a b 0 (Nat.zero_le _) (by rw [FU_e]; omega) (by omega) hb.pi hq ⟨h0, SM.rf a, rfl, eo⟩
  have e : f_X2_passTicks a (oN n) = some (r, sKhi (sKhi z 13 7 (Khi z 13 7 + oN n)) 13 6 (Khi z 13 6 + r)) := r1
  obtain ⟨rfl, rfl⟩ := Prod.mk.inj (Option.some.inj (p1.symm.trans e))
  exact ⟨_, z, e, r2.1, ⟨⟨b', p4⟩, p5, r2.2.2.2⟩, r2.2.1, r2.2.2.1⟩
