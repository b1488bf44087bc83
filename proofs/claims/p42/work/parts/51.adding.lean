/-! ===== adding ===== -/
theorem cnt_congr {mn mn' : Nat → Option Nat} {p : Nat} : ∀ {m : Nat}, (∀ i, i < m → mn' i = mn i) → cnt mn' p m = cnt mn p m := by
  intro m
  induction m with
  | zero => intro _; rfl
  | succ k ih =>
    intro h
    show cnt mn' p k + (if 1 ≤ k ∧ mn' k = some p then 1 else 0) = cnt mn p k + (if 1 ≤ k ∧ mn k = some p then 1 else 0)
    rw [ih (fun i hi => h i (by omega)), h k (by omega)]
theorem cnt_no {mn : Nat → Option Nat} {p : Nat} : ∀ {m : Nat}, (∀ i, 1 ≤ i → i < m → ¬ mn i = some p) → cnt mn p m = 0 := by
  intro m
  induction m with
  | zero => intro _; rfl
  | succ k ih =>
    intro h
    show cnt mn p k + (if 1 ≤ k ∧ mn k = some p then 1 else 0) = 0
    rw [ih (fun i h1 h2 => h i h1 (by omega)), if_neg (fun z => h k z.1 (by omega) z.2)]
theorem okr_up {n : Nat} {o : Option Nat} (h : okr n o = true) : okr (n + 1) o = true := by
  cases o with
  | none => rfl
  | some i =>
    have : i < n := of_decide_eq_true h
    exact decide_eq_true (by omega)
theorem itF_at (n0 kd lvl ent lo hi stp : Int32) : itF n0 kd lvl ent lo hi stp 0 = n0 ∧ itF n0 kd lvl ent lo hi stp 1 = kd ∧ itF n0 kd lvl ent lo hi stp 3 = lvl ∧ itF n0 kd lvl ent lo hi stp 4 = ent ∧ itF n0 kd lvl ent lo hi stp 5 = lo ∧ itF n0 kd lvl ent lo hi stp 6 = hi ∧ itF n0 kd lvl ent lo hi stp 7 = stp ∧ itF n0 kd lvl ent lo hi stp 9 = 0 ∧ itF n0 kd lvl ent lo hi stp 10 = lo ∧ itF n0 kd lvl ent lo hi stp 11 = -1 ∧ itF n0 kd lvl ent lo hi stp 12 = 0 := ⟨rfl, rfl, rfl, rfl, rfl, rfl, rfl, rfl, rfl, rfl, rfl⟩
theorem RT_add {n p c : Nat} {kd lo hi st : Int32} {c12 m1 : Int32} {it it' : Nat → Nat → Int32} {mn mn' : Nat → Option Nat} {ch ch' : Nat → Nat → Option Nat} {ti ti' : Nat → Option Nat} {m2 m3 m4 m5 m6 m7 m8 m9 m2' m3' m4' m5' m6' m7' m8' : Nat → Int32} (h : RT n c12 m1 it mn ch ti m2 m3 m4 m5 m6 m7 m8 m9) (hn : n < 24) (hp : p < n) (hk : it p 1 = 0) (hc : c = cnt mn p n) (c8 : c < 8)
    (h_it : ∀ i, i < n → ∀ m, m ≠ 9 → it' i m = it i m) (h_9 : ∀ i, i < n → it' i 9 = if i = p then oN (c + 1) else it i 9) (h_new : it' n = itF (oN n) kd (it p 3 + 1) (oN c) lo hi st)
    (h_mn : ∀ i, mn' i = if i = n then some p else mn i) (h_ch : ∀ i j, ch' i j = if i = p ∧ j = c then some n else if i = n then none else ch i j) (h_ti : ∀ i, ti' i = if i = n then some n else ti i)
    (h2 : ∀ i, m2' i = if i = n then kd else m2 i) (h3 : ∀ i, m3' i = if i = n then oN p else m3 i) (h4 : ∀ i, m4' i = if i = n then lo else m4 i) (h5 : ∀ i, m5' i = if i = n then hi else m5 i) (h6 : ∀ i, m6' i = if i = n then st else m6 i) (h7 : ∀ i, m7' i = if i = n then lo else m7 i) (h8 : ∀ i, m8' i = if i = n then -1 else m8 i)
    (k9 : K9 (itF (oN n) kd (it p 3 + 1) (oN c) lo hi st)) (hv : lo.toInt ≤ hi.toInt) (hl : kd = 0 → ∃ lv : Nat, lv ≤ 2 ∧ it p 3 = oN lv) : RT (n + 1) (oN (n + 1)) (oN (n + 1)) it' mn' ch' ti' m2' m3' m4' m5' m6' m7' m8' m9 := by
  obtain ⟨⟨t1, t2, -, -⟩, ⟨t5, t6, t7⟩, t8, ⟨t9, t10, t11, t12⟩, t13, t14, t15, t16, t17⟩ := h
  obtain ⟨f0, f1, f3, f4, f5, f6, f7, f9, f10, f11, f12⟩ := itF_at (oN n) kd (it p 3 + 1) (oN c) lo hi st
  have t17n := t17 n (Nat.le_refl _) hn
  have cm : ∀ {q m : Nat}, m ≤ n → cnt mn' q m = cnt mn q m := fun hm => cnt_congr (fun i hi => by rw [h_mn, if_neg (by omega)])
  have cs : ∀ q : Nat, cnt mn' q (n + 1) = cnt mn q n + if p = q then 1 else 0 := by
    intro q
    show cnt mn' q n + (if 1 ≤ n ∧ mn' n = some q then 1 else 0) = _
    rw [cm (Nat.le_refl _), h_mn, if_pos rfl]
    by_cases g : p = q
    · rw [if_pos g, if_pos ⟨t1, by rw [g]⟩]
    · rw [if_neg g, if_neg (fun z => g (Option.some.inj z.2))]
  obtain ⟨lv, l1, l2, l3⟩ := t14 p hp
  refine ⟨⟨by omega, by omega, rfl, rfl⟩, ⟨fun i hi => ?_, fun j => ?_, fun i hi j => ?_⟩, fun i hi => ?_, ⟨?_, ?_, ?_, ?_⟩, fun i i1 hi => ?_, fun i hi => ?_, fun i hi => ?_, fun i hi => ?_, fun i i1 i2 => ?_⟩
  · rw [h_ti]
    by_cases g : i = n
    · rw [if_pos g, g]
    · rw [if_neg g]; exact t5 i (by omega)
  · rw [h_ti]
    by_cases g : j = n
    · rw [if_pos g]; exact decide_eq_true (by omega)
    · rw [if_neg g]; exact okr_up (t6 j)
  · rw [h_ch]
    by_cases g : i = p ∧ j = c
    · rw [if_pos g]; exact decide_eq_true (by omega)
    · rw [if_neg g]
      by_cases g2 : i = n
      · rw [if_pos g2]; rfl
      · rw [if_neg g2]; exact okr_up (t7 i (by omega) j)
  · by_cases g : i = n
    · rw [g, h_new, h2, h4, h5, h6, h7, h8, if_pos rfl, if_pos rfl, if_pos rfl, if_pos rfl, if_pos rfl, if_pos rfl]
      exact ⟨f0, f1, f5, f6, f7, f10, f11, f12.trans t17n.2.2.2.2.symm, Or.inl f12⟩
    · have hi : i < n := by omega
      rw [h_it i hi 0 (by decide), h_it i hi 1 (by decide), h_it i hi 5 (by decide), h_it i hi 6 (by decide), h_it i hi 7 (by decide), h_it i hi 10 (by decide), h_it i hi 11 (by decide), h_it i hi 12 (by decide), h2, h4, h5, h6, h7, h8, if_neg g, if_neg g, if_neg g, if_neg g, if_neg g, if_neg g]
      exact t8 i hi
  · rw [h_mn, if_neg (by omega)]; exact t9
  · rw [h3, if_neg (by omega)]; exact t10
  · rw [h_it 0 (by omega) 3 (by decide)]; exact t11
  · rw [h_it 0 (by omega) 1 (by decide)]; exact t12
  · by_cases g : i = n
    · subst g
      refine ⟨p, hp, by rw [h_mn, if_pos rfl], by rw [h3, if_pos rfl], by rw [h_it p hp 1 (by decide)]; exact hk, ?_, ?_, ?_⟩
      · rw [h_new, h_it p hp 3 (by decide)]; exact f3
      · rw [h_new, cm (Nat.le_refl _), ← hc]; exact f4
      · rw [cm (Nat.le_refl _), ← hc, h_ch, if_pos ⟨rfl, rfl⟩]
    · have hi : i < n := by omega
      obtain ⟨p', q1, q2, q3, q4, q5, q6, q7⟩ := t13 i i1 hi
      refine ⟨p', q1, by rw [h_mn, if_neg g]; exact q2, by rw [h3, if_neg g]; exact q3, by rw [h_it p' (by omega) 1 (by decide)]; exact q4, ?_, ?_, ?_⟩
      · rw [h_it i hi 3 (by decide), h_it p' (by omega) 3 (by decide)]; exact q5
      · rw [h_it i hi 4 (by decide), cm (by omega)]; exact q6
      · have hlt := cnt_hit (mn := mn) (p := p') (i := i) i1 q2
        have hmo := cnt_mono (mn := mn) (p := p') (k := i + 1) (m := n) (by omega)
        rw [cm (by omega), h_ch, if_neg, if_neg (by omega)]
        · exact q7
        · rintro ⟨z1, z2⟩
          subst z1
          omega
  · by_cases g : i = n
    · rw [g, h_new]
      by_cases hz : kd = 0
      · obtain ⟨lw, w1, w2⟩ := hl hz
        refine ⟨lw + 1, by omega, ?_, fun _ => by omega⟩
        rw [f3, w2, oN_succ]
      · refine ⟨lv + 1, by have := l3 hk; omega, ?_, fun z => absurd (f1.symm.trans z) hz⟩
        rw [f3, l2, oN_succ]
    · have hi : i < n := by omega
      rw [h_it i hi 3 (by decide), h_it i hi 1 (by decide)]
      exact t14 i hi
  · rw [cs]
    by_cases g : i = n
    · subst g
      have z : cnt mn i i = 0 := cnt_no (fun k k1 k2 hz => by
        obtain ⟨p', q1, q2, -⟩ := t13 k k1 k2
        have := Option.some.inj (q2.symm.trans hz)
        omega)
      rw [z, if_neg (by omega), h_new]
      exact ⟨f9, by omega⟩
    · have hi : i < n := by omega
      rw [h_9 i hi]
      by_cases g2 : i = p
      · rw [if_pos g2, if_pos g2.symm, g2, ← hc]
        exact ⟨rfl, by omega⟩
      · rw [if_neg g2, if_neg (fun z => g2 z.symm)]
        exact t15 i hi
  · by_cases g : i = n
    · rw [g, h_new]
      refine ⟨k9, ?_, ?_⟩
      · rw [f5, f10]; exact Int.le_refl _
      · rw [f6, f10]; exact hv
    · have hi : i < n := by omega
      unfold K9 VR
      rw [h_it i hi 1 (by decide), h_it i hi 5 (by decide), h_it i hi 6 (by decide), h_it i hi 7 (by decide), h_it i hi 10 (by decide)]
      exact t16 i hi
  · rw [h4, h5, h6, h7, if_neg (by omega), if_neg (by omega), if_neg (by omega), if_neg (by omega)]
    exact t17 i (by omega) i2
def adA (a : KS) (p c : Nat) (kd lo hi st : Int32) : KS := sKhi (sKti (sKit (sKch (sNew a (itF (oN (Kn a)) kd (Kit a p 3 + 1) (oN c) lo hi st) (some p)) p c (some (Kn a))) p 9 (oN (c + 1))) (Kn a) (some (Kn a))) 1 2 (oN (Kn a + 1))
def adB (b : MS) (n : Nat) (kd lo hi st x : Int32) : MS := sMhi (sMhi (sMhi (sMhi (sMhi (sMhi (sMhi (sMhi b 104 n lo) 105 n hi) 106 n st) 107 n lo) 102 n kd) 103 n x) 108 n (-1)) 100 1 (oN (n + 1))
theorem add_rel {j p c : Nat} {a : KS} {b : MS} {kd lo hi st : Int32} (h : Rel j a b) (m0 : Khi a 10 6 = 0) (s0 : Ksh a = some 0) (c0 : Khi a 10 7 = 0) (hn : Kn a < 24) (hp : p < Kn a) (hk : Kit a p 1 = 0) (hc : c = cnt (Kmn a) p (Kn a)) (c8 : c < 8) (k9 : K9 (itF (oN (Kn a)) kd (Kit a p 3 + 1) (oN c) lo hi st)) (hv : lo.toInt ≤ hi.toInt) (hl : kd = 0 → ∃ lv : Nat, lv ≤ 2 ∧ Kit a p 3 = oN lv) : Rel j (adA a p c kd lo hi st) (adB b (Kn a) kd lo hi st (oN p)) := by
  have n01 : ¬ (0 : Int32) = 1 := by decide
  have hkit : ∀ i m, Kit (adA a p c kd lo hi st) i m = if i = p ∧ m = 9 then oN (c + 1) else if i = Kn a then itF (oN (Kn a)) kd (Kit a p 3 + 1) (oN c) lo hi st m else Kit a i m := fun i m => rfl
  have hold : ∀ i, i < Kn a → ∀ m, m ≠ 9 → Kit (adA a p c kd lo hi st) i m = Kit a i m := fun i hi m hm => by
    rw [hkit, if_neg (fun z => hm z.2), if_neg (by omega)]
  have hT : RTs (adA a p c kd lo hi st) (adB b (Kn a) kd lo hi st (oN p)) := by
    refine RT_add (kd := kd) (lo := lo) (hi := hi) (st := st) h.1 hn hp hk hc c8 hold (fun i hi => ?_) (funext fun m => ?_) (fun i => rfl) (fun i k => rfl) (fun i => rfl) (fun i => ?_) (fun i => ?_) (fun i => ?_) (fun i => ?_) (fun i => ?_) (fun i => ?_) (fun i => ?_) k9 hv hl
    · rw [hkit]
      by_cases g : i = p
      · rw [if_pos ⟨g, rfl⟩, if_pos g]
      · rw [if_neg (fun z => g z.1), if_neg g, if_neg (by omega)]
    · rw [hkit, if_neg (by omega), if_pos rfl]
    · unfold adB; simp (disch := decide) only [Mhi_np, Mhi_s]
    · unfold adB; simp (disch := decide) only [Mhi_np, Mhi_s]
    · unfold adB; simp (disch := decide) only [Mhi_np, Mhi_s]
    · unfold adB; simp (disch := decide) only [Mhi_np, Mhi_s]
    · unfold adB; simp (disch := decide) only [Mhi_np, Mhi_s]
    · unfold adB; simp (disch := decide) only [Mhi_np, Mhi_s]
    · unfold adB; simp (disch := decide) only [Mhi_np, Mhi_s]
  have hVR : ∀ i, i < Kn a → ∀ v, VR (Kit a i) v → VR (Kit (adA a p c kd lo hi st) i) v := fun i hi v z => by
    unfold VR at z ⊢
    rw [hold i hi 5 (by decide), hold i hi 6 (by decide)]
    exact z
  obtain ⟨-, ⟨⟨s, c', e1, e2, e3, e4, e5, e6, e7, e8, e9⟩, d2⟩, ⟨⟨q, q1, q2, q3, q4⟩, q5⟩, ⟨hP1, hP2⟩, hX⟩ := h
  obtain rfl : s = 0 := Option.some.inj (e1.symm.trans s0)
  have hRP : ∀ {pr v mv : Nat → Int32} {m : Int32}, RP (Kn a) (Kit a) pr v m mv → RP (Kn a + 1) (Kit (adA a p c kd lo hi st)) pr v m mv := by
    rintro pr v mv m ⟨q, q1, q2, q3, q4, q5⟩
    refine ⟨q, by omega, q2, q3, q4, fun k hk => ?_⟩
    rw [hold k (by omega) 1 (by decide)]
    exact ⟨fun z => ⟨((q5 k hk).1 z).1, hVR k (by omega) _ ((q5 k hk).1 z).2⟩, (q5 k hk).2⟩
  refine ⟨hT, ⟨⟨0, c', e1, by show 0 < Kn a + 1; omega, ?_, e4, e5, e6, ?_, fun z => absurd m0 z, fun z => absurd (m0.symm.trans z) n01⟩, d2⟩, ⟨⟨q, q1, q2, q3, fun k hk => ?_⟩, fun k => okr_up (q5 k)⟩, ⟨hRP hP1, hRP hP2⟩, hX⟩
  · rw [hold 0 (by omega) 1 (by decide)]; exact e3
  · have z : c' = 0 := by
      rcases e7 with z | ⟨z1, z2⟩
      · have h8 := cnt_lt (mn := Kmn a) (p := 0) (Kn a)
        exact oN_inj (by omega) (by decide) (e5.symm.trans c0)
      · omega
    omega
  · obtain ⟨i, x1, x2, x3, x4, x5, x6⟩ := q4 k hk
    exact ⟨i, by show i < Kn a + 1; omega, x2, x3, x4, by rw [hold i x1 1 (by decide)]; exact x5, hVR i x1 _ x6⟩
