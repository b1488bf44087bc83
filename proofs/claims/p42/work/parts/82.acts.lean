/-! ===== every deed does what the law says ===== -/
theorem root_1 {a : KS} {b : MS} (h : RTs a b) {i : Nat} (hk : ¬ Kit a i 1 = 0) : 1 ≤ i := by
  refine Nat.pos_of_ne_zero fun z => hk ?_
  rw [z]
  exact h.2.2.2.1.2.2.2
theorem kind_pos {a : KS} {b : MS} (h : RTs a b) {i : Nat} (hi : i < Kn a) (hk : ¬ Kit a i 1 = 0) : ¬ Kit a i 1 ≤ 0 := by
  rcases (h.2.2.2.2.2.2.2.1 i hi).1 with ⟨k, -⟩ | ⟨k, -⟩ | ⟨k, -⟩
  · exact absurd k hk
  · rw [k]; decide
  · rw [k]; decide
theorem sKhi12_sm {a : KS} {b b' : MS} {i : Nat} {v : Int32} (hb : RTs (sKhi a 12 i v) b') : f_L_values (sKhi a 12 i v) = some (vs (Kit a) 43 0 (Kn a)) := values_same hb rfl (fun _ => rfl) (fun _ => rfl)
theorem acts_ok {B : Nat} (hB : B + 99 ≤ 1000000) {a : KS} (h : LI B a) (v1 v2 : Int32) : OK B a (f_L_acts a v1 v2) := by
  have hI := h
  obtain ⟨⟨b, hb⟩, hq, eo⟩ := h
  have hn := rt_n hb.1
  obtain ⟨x, x1, x2⟩ := up_q (x := v1) (n := 16) (by decide) (by decide) a
  unfold f_L_acts
  rw [q_values hb.1, bs, show f_X8_logged a = some (Khi a 3 2) from rfl, bs, show f_X8_events a 2 = some (0, Khi a 13 2) from q_event a (e := 2) (by decide), bs, gd_d rfl, show f_X8_barred a = some (Khi a 10 11) from rfl, bs, show f_L_up a v1 16 = some (oN x) from x2, bs]
  have ne : ∀ {m k : Nat}, m < 100 → k < 100 → ¬ m = k → ¬ oN m = oN k := fun hm hk g z => g (oN_inj (by omega) (by omega) z)
  by_cases g0 : x = 0
  · subst g0
    obtain ⟨i, i1, i2⟩ := up_q (x := v2) (n := 2) (by decide) (by decide) a
    obtain ⟨m, m1, m2⟩ := up_q (x := v2 >>> (1 &&& 31)) (n := 60) (by decide) (by decide) a
    have ll : ¬ oN i = 2 := fun z => by have := oN_inj (y := 2) (by omega) (by decide) z; omega
    have lo : ¬ (1 : Int32) + oN m < 1 := by
      rw [show (1 : Int32) = oN 1 from rfl, oN_add, oN_lt (by omega) (by decide)]
      omega
    have hu : ∃ y, f_X8_mostOf a (oN i) = some y ∧ (1 : Int32) + oN m ≤ y := by
      have h60 : (1 : Int32) + oN m ≤ 60 := by
        rw [show (1 : Int32) = oN 1 from rfl, oN_add, show (60 : Int32) = oN 60 from rfl, oN_le (by omega) (by decide)]
        omega
      have h99 : (1 : Int32) + oN m ≤ 99 := by
        rw [show (1 : Int32) = oN 1 from rfl, oN_add, show (99 : Int32) = oN 99 from rfl, oN_le (by omega) (by decide)]
        omega
      unfold f_X8_mostOf
      by_cases z : i = 0
      · subst z
        rw [if_neg (show ¬ ¬ oN 0 = 0 from fun z => z rfl)]
        exact ⟨60, rfl, h60⟩
      · have z1 : i = 1 := by omega
        subst z1
        rw [if_pos (show ¬ oN 1 = 0 by decide), if_neg (show ¬ ¬ oN 1 = 1 from fun z => z rfl)]
        exact ⟨99, rfl, h99⟩
    obtain ⟨s1, s2⟩ := set_all (show B ≤ 1000000 by omega) hI (i := i) (v := 1 + oN m) (by omega) (Or.inl ⟨by unfold f_X8_leastOf; rw [if_pos ll], lo⟩) hu
    have sp := set_pos hI
    have pos : ¬ Khi a 12 i ≤ 0 := by
      by_cases z : i = 0
      · subst z; exact Int32.not_le.mpr sp.1
      · have z1 : i = 1 := by omega
        subst z1; exact Int32.not_le.mpr sp.2.1
    obtain ⟨b', hb'⟩ := s2.1
    rw [if_pos (show oN 0 = 0 from rfl), show f_L_up a v2 2 = some (oN i) from i2, bs, show f_L_up a (v2 >>> (1 &&& 31)) 60 = some (oN m) from m2, bs, s1, bs, gd_d rfl, if_neg pos, sKhi12_sm (b := b) hb'.1, bs, if_neg (lc0 _)]
    exact ⟨_, rfl, s2.up (by omega), rfl, rfl⟩
  rw [if_neg (show ¬ oN x = 0 from ne (k := 0) (by omega) (by decide) g0)]
  by_cases g1 : x = 1
  · subst g1
    have hv : ¬ (v2 &&& 1) < 0 ∧ (v2 &&& 1) ≤ 1 := by
      rcases and1_q v2 with z | z <;> rw [z] <;> exact ⟨by decide, by decide⟩
    obtain ⟨s1, s2⟩ := set_all (show B ≤ 1000000 by omega) hI (i := 2) (v := v2 &&& 1) (by decide) (Or.inr ⟨rfl, hv.1⟩) ⟨1, rfl, hv.2⟩
    obtain ⟨b', hb'⟩ := s2.1
    rw [if_pos (show oN 1 = 1 from rfl), show f_X8_set a 2 (v2 &&& 1) = _ from s1, bs, gd_d rfl, if_neg (set_pos hI).2.2, sKhi12_sm (b := b) hb'.1, bs, if_neg (lc0 _)]
    exact ⟨_, rfl, s2.up (by omega), rfl, rfl⟩
  rw [if_neg (show ¬ oN x = 1 from ne (k := 1) (by omega) (by decide) g1)]
  by_cases g2 : x = 2
  · subst g2
    rw [if_pos (show oN 2 = 2 from rfl), show f_X8_mode a = some (Khi a 10 6) from rfl, bs]
    by_cases y : 0 < (v2 &&& 3)
    · rw [if_pos y]
      exact ⟨a, rfl, hI.up (by omega), rfl, rfl⟩
    · obtain ⟨a', e1, e2, e3, e4, e5, e6, e7, e8⟩ := hold_all hI
      obtain ⟨b', hb'⟩ := e2.1
      rw [if_neg y, e1, bs, if_neg (fun z => z rfl)]
      by_cases m : Khi a 10 6 = 0
      · rw [if_neg (fun z => z m)]
        rcases q_home hb'.1 hb'.2.1 with ⟨k1, -⟩ | ⟨-, k2⟩
        · rw [k1, bs, if_neg n10]
          exact a_190 e2 e3 e5
        · exact absurd (e7 m) k2
      · rw [if_pos m, show f_X8_mode a' = some (Khi a' 10 6) from rfl, bs, if_neg (fun z => z e4)]
        exact a_190 e2 e3 e5
  rw [if_neg (show ¬ oN x = 2 from ne (k := 2) (by omega) (by decide) g2)]
  have t6 := a_230 hB hI (s2 := 6) (by decide) (by decide) v2
  have t99 := a_230 hB hI (s2 := 99) (by decide) (by decide) v2
  have tt : OK B a (if ¬ ((v2 >>> (9 &&& 31)) &&& 3) = 0 then (f_L_acts_230 a (vs (Kit a) 43 0 (Kn a)) (Khi a 10 11) 1 v2 6) else (f_L_acts_230 a (vs (Kit a) 43 0 (Kn a)) (Khi a 10 11) 1 v2 99)) := by
    by_cases y : ((v2 >>> (9 &&& 31)) &&& 3) = 0
    · rw [if_neg (fun z => z y)]; exact t99
    · rw [if_pos y]; exact t6
  by_cases g3 : x = 3
  · subst g3
    rw [if_pos (show oN 3 = 3 from rfl)]
    exact tt
  rw [if_neg (show ¬ oN x = 3 from ne (k := 3) (by omega) (by decide) g3)]
  by_cases g4 : x = 4
  · subst g4
    rw [if_pos (show oN 4 = 4 from rfl)]
    exact tt
  rw [if_neg (show ¬ oN x = 4 from ne (k := 4) (by omega) (by decide) g4)]
  by_cases g5 : x = 5
  · subst g5
    rw [if_pos (show oN 5 = 5 from rfl)]
    obtain ⟨q, q1, q2, q3⟩ := log_c hb
    by_cases z : q = 0
    · subst z
      rw [if_neg (show ¬ ¬ Khi a 3 2 = 0 from fun w => w q2)]
      have hp : ∃ P p, PP P p ∧ v2 &&& 1 = oN p := by
        rcases and1_q v2 with w | w
        · exact ⟨6, 0, Or.inl ⟨rfl, rfl⟩, w⟩
        · exact ⟨8, 1, Or.inr ⟨rfl, rfl⟩, w⟩
      obtain ⟨P, p, hp, ep⟩ := hp
      obtain ⟨r, a1, a2, r1, r2, r3, r4, r5⟩ := presets_ok (show B ≤ 1000000 by omega) hI q2 hp
      obtain ⟨b', hb'⟩ := r4.1
      have ek : Kit a2 = Kit a := congrArg (fun s => s.1) r5
      have en : Kn a2 = Kn a := congrArg (fun s => s.2.2.2.2.2.2.1) r5
      rw [ep, r2, bs, gd_d rfl, if_neg (oN_nn (by omega)), r3, bs, gd_d rfl, if_neg nn00, values_same hb'.1 en (fun i => by rw [ek]) (fun i => by rw [ek]), bs, if_neg (lc0 _)]
      exact ⟨a2, rfl, r4.up (by omega), by rw [ek], en⟩
    · obtain ⟨q', rfl⟩ : ∃ q', q = q' + 1 := ⟨q - 1, by omega⟩
      obtain ⟨i, i1, i2, i3, i4⟩ := q3 q' (by omega)
      obtain ⟨s1, s2⟩ := take_all (show B ≤ 1000000 by omega) hI (by omega) i1 q2 i2
      obtain ⟨X, hX⟩ : ∃ X, X = sKhi (sKhi (sKit a i 10 (Khi a 5 q')) 3 2 (oN q')) 13 3 (Khi a 13 3 + 1) := ⟨_, rfl⟩
      rw [← hX] at s1 s2
      obtain ⟨b', hb'⟩ := s2.1
      have xn : Kn X = Kn a := by rw [hX]; rfl
      have x1' : ∀ m, m ≠ 10 → ∀ k, Kit X k m = Kit a k m := by
        intro m hm k
        rw [hX]
        show Kit (sKit a i 10 _) k m = _
        exact Kit_n hm
      have xl : Khi X 3 2 = oN q' := by rw [hX]; rfl
      have x13 : Khi X 13 2 = Khi a 13 2 := by rw [hX]; rfl
      have i0 := root_1 hb.1 i3
      rw [if_pos (show ¬ Khi a 3 2 = 0 by rw [q2]; exact fun w => by have := oN_inj (y := 0) (by omega) (by decide) w; omega), s1, bs, gd_d rfl, if_neg (show ¬ oN i ≤ 0 by rw [show (0 : Int32) = oN 0 from rfl, oN_le (by omega) (by decide)]; omega), q_items hb'.1, bs, if_neg (show ¬ oN (Kn X) ≤ oN i by rw [xn, oN_le (by omega) (by omega)]; omega), q_kind hb'.1 (show i < Kn X by rw [xn]; exact i1), bs, gd_d rfl, if_neg (show ¬ Kit X i 1 ≤ 0 by rw [x1' 1 (by decide)]; exact kind_pos hb.1 i1 i3), show f_X8_logged X = some (Khi X 3 2) from rfl, bs, if_neg (show ¬ ¬ Khi X 3 2 = Khi a 3 2 - 1 from fun w => w (by rw [xl, q2, oN_pred (by omega)]; rfl)), show f_X8_events X 2 = some (0, Khi X 13 2) from q_event X (e := 2) (by decide), bs, gd_d rfl, if_neg (fun w => w x13)]
      exact ⟨X, rfl, s2.up (by omega), x1' 11 (by decide) 0, xn⟩
  rw [if_neg (show ¬ oN x = 5 from ne (k := 5) (by omega) (by decide) g5)]
  have tu := a_413 hI v2
  by_cases g6 : x = 6
  · subst g6; rw [if_pos (show oN 6 = 6 from rfl)]; exact tu
  rw [if_neg (show ¬ oN x = 6 from ne (k := 6) (by omega) (by decide) g6)]
  by_cases g7 : x = 7
  · subst g7; rw [if_pos (show oN 7 = 7 from rfl)]; exact tu
  rw [if_neg (show ¬ oN x = 7 from ne (k := 7) (by omega) (by decide) g7)]
  by_cases g8 : x = 8
  · subst g8; rw [if_pos (show oN 8 = 8 from rfl)]; exact tu
  rw [if_neg (show ¬ oN x = 8 from ne (k := 8) (by omega) (by decide) g8)]
  by_cases g9 : x = 9
  · subst g9; rw [if_pos (show oN 9 = 9 from rfl)]; exact tu
  rw [if_neg (show ¬ oN x = 9 from ne (k := 9) (by omega) (by decide) g9)]
  obtain ⟨r, a', p1, p2, p3, p4, p5⟩ := press_all hI
  have pp : f_X8_press a = some (r, a') := by
    unfold f_X8_press
    rw [p1]; rfl
  rw [pp, bs]
  rcases p5 with p5 | p5
  · have c := a_505 hI p2 p3 p4 p5
    by_cases r4 : r = 4
    · rw [if_neg (fun z => z r4), show f_X8_events a' 2 = some (0, Khi a' 13 2) from q_event a' (e := 2) (by decide), bs, gd_d rfl, if_pos (show ¬ Khi a' 13 2 = Khi a 13 2 + 1 by rw [p5.2.1]; exact ne_plus _)]
      exact c
    · rw [if_pos r4]; exact c
  · obtain rfl := p5.1
    have c := a_edit (show B ≤ 1000000 by omega) hI p2 p3 p4 p5
    obtain ⟨-, i, q, -, -, -, -, e1, -⟩ := p5
    rw [if_neg (show ¬ ¬ (4 : Int32) = 4 from fun z => z rfl), show f_X8_events a' 2 = some (0, Khi a' 13 2) from q_event a' (e := 2) (by decide), bs, gd_d rfl, if_neg (fun z => z e1)]
    exact c
