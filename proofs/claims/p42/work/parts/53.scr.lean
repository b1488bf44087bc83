/-! ===== the display: rows of signs ===== -/
def wr (f : Nat → Int32) (i : Nat) (v : Int32) : Nat → Int32 := fun k => if k = i then v else f k
def sc (a : KS) (f : Nat → Int32) : KS := (fun p => if p = 15 then f else a.1 p, a.2)
def sm (b : MS) (g : Nat → Int32) : MS := (fun p => if p = 131 then g else b.1 p, b.2)
theorem wr_e {f : Nat → Int32} {i : Nat} {v : Int32} : wr f i v i = v := if_pos rfl
theorem wr_n {f : Nat → Int32} {i k : Nat} {v : Int32} (h : ¬ k = i) : wr f i v k = f k := if_neg h
theorem wr_comm {f : Nat → Int32} {i k : Nat} {x y : Int32} (h : ¬ i = k) : wr (wr f i x) k y = wr (wr f k y) i x := by
  funext m
  show (if m = k then y else if m = i then x else f m) = (if m = i then x else if m = k then y else f m)
  by_cases g : m = k
  · rw [if_pos g, if_neg (by omega), if_pos g]
  · rw [if_neg g, if_neg g]
theorem sc_set {a : KS} {f : Nat → Int32} {i : Nat} {v : Int32} : sKhi (sc a f) 15 i v = sc a (wr f i v) := by
  have e : (sKhi (sc a f) 15 i v).1 = (sc a (wr f i v)).1 := by
    funext p k
    show (if p = 15 ∧ k = i then v else (if p = 15 then f else a.1 p) k) = (if p = 15 then wr f i v else a.1 p) k
    by_cases g : p = 15
    · rw [if_pos g, if_pos g]
      by_cases g2 : k = i
      · rw [if_pos ⟨g, g2⟩, g2, wr_e]
      · rw [if_neg (fun z => g2 z.2), wr_n g2]
    · rw [if_neg (fun z => g z.1), if_neg g, if_neg g]
  exact Prod.ext e rfl
theorem sm_set {b : MS} {f : Nat → Int32} {i : Nat} {v : Int32} : sMhi (sm b f) 131 i v = sm b (wr f i v) := by
  have e : (sMhi (sm b f) 131 i v).1 = (sm b (wr f i v)).1 := by
    funext p k
    show (if p = 131 ∧ k = i then v else (if p = 131 then f else b.1 p) k) = (if p = 131 then wr f i v else b.1 p) k
    by_cases g : p = 131
    · rw [if_pos g, if_pos g]
      by_cases g2 : k = i
      · rw [if_pos ⟨g, g2⟩, g2, wr_e]
      · rw [if_neg (fun z => g2 z.2), wr_n g2]
    · rw [if_neg (fun z => g z.1), if_neg g, if_neg g]
  exact Prod.ext e rfl
theorem sc_id (a : KS) : sc a (Khi a 15) = a := by
  have e : (sc a (Khi a 15)).1 = a.1 := by
    funext p
    show (if p = 15 then Khi a 15 else a.1 p) = a.1 p
    by_cases g : p = 15
    · rw [if_pos g, g]; rfl
    · rw [if_neg g]
  exact Prod.ext e rfl
theorem sm_id (b : MS) : sm b (Mhi b 131) = b := by
  have e : (sm b (Mhi b 131)).1 = b.1 := by
    funext p
    show (if p = 131 then Mhi b 131 else b.1 p) = b.1 p
    by_cases g : p = 131
    · rw [if_pos g, g]; rfl
    · rw [if_neg g]
  exact Prod.ext e rfl
theorem sc_sc (a : KS) (f f' : Nat → Int32) : sc (sc a f) f' = sc a f' := by
  have e : (sc (sc a f) f').1 = (sc a f').1 := by
    funext p
    show (if p = 15 then f' else (if p = 15 then f else a.1 p)) = (if p = 15 then f' else a.1 p)
    by_cases g : p = 15
    · rw [if_pos g, if_pos g]
    · rw [if_neg g, if_neg g, if_neg g]
  exact Prod.ext e rfl
/-- row r of the class's signs is the reference's row -/
def EQ (r : Nat) (f g : Nat → Int32) : Prop := ∀ k, k < 16 → f (16 * r + k) = g k
def BL (lo : Nat) (g : Nat → Int32) : Prop := ∀ k, lo ≤ k → k < 16 → g k = 32
/-- a sign that the display may show -/
abbrev CB (x : Nat) : Prop := 32 ≤ x ∧ x < 127
def CH (f : Nat → Int32) : Prop := ∀ k, k < 32 → ∃ x : Nat, CB x ∧ f k = oN x
def OT (r : Nat) (f f' : Nat → Int32) : Prop := ∀ r', ¬ r' = r → ∀ G, EQ r' f G → EQ r' f' G
theorem E_wr {r c : Nat} {f g : Nat → Int32} {v : Int32} (h : EQ r f g) : EQ r (wr f (16 * r + c) v) (wr g c v) := by
  intro k hk
  by_cases e : k = c
  · rw [e, wr_e, wr_e]
  · rw [wr_n (by omega), wr_n e]; exact h k hk
theorem E_k {r c : Nat} {f g : Nat → Int32} {v : Int32} (h : EQ r f g) (hv : g c = v) : EQ r (wr f (16 * r + c) v) g := by
  intro k hk
  by_cases e : k = c
  · rw [e, wr_e, hv]
  · rw [wr_n (by omega)]; exact h k hk
theorem E_m {r c : Nat} {f g : Nat → Int32} {v : Int32} (h : EQ r f g) (hv : g c = v) : EQ r f (wr g c v) := by
  intro k hk
  by_cases e : k = c
  · rw [e, wr_e, ← hv]; exact h c (e ▸ hk)
  · rw [wr_n e]; exact h k hk
theorem OT_wr {r c : Nat} {f : Nat → Int32} {v : Int32} (hc : c < 16) : OT r f (wr f (16 * r + c) v) := by
  intro r' hr G h k hk
  rw [wr_n (by omega)]
  exact h k hk
theorem OT_tr {r : Nat} {f f' f'' : Nat → Int32} (h1 : OT r f f') (h2 : OT r f' f'') : OT r f f'' := fun r' hr G h => h2 r' hr G (h1 r' hr G h)
theorem OT_rf {r : Nat} {f : Nat → Int32} : OT r f f := fun _ _ _ h => h
theorem BL_wr {lo c : Nat} {g : Nat → Int32} {v : Int32} (h : BL lo g) (hc : c < lo) : BL lo (wr g c v) := by
  intro k k1 k2
  rw [wr_n (by omega)]
  exact h k k1 k2
theorem BL_up {lo lo' : Nat} {g : Nat → Int32} (h : BL lo g) (hc : lo ≤ lo') : BL lo' g := fun k k1 k2 => h k (by omega) k2
theorem CH_wr {i x : Nat} {f : Nat → Int32} {v : Int32} (h : CH f) (hx : CB x) (hv : v = oN x) : CH (wr f i v) := by
  intro k hk
  by_cases e : k = i
  · rw [e, wr_e]; exact ⟨x, hx, hv⟩
  · rw [wr_n e]; exact h k hk
/-- writing a run of signs -/
def wf (B : Nat) (s : Nat → Int32) : Nat → Nat → (Nat → Int32) → (Nat → Int32)
  | _, 0, f => f
  | c, m + 1, f => wf B s (c + 1) m (wr f (B + c) (s c))
theorem wf_last {B : Nat} {s : Nat → Int32} : ∀ (m c : Nat) (f : Nat → Int32), wf B s c (m + 1) f = wr (wf B s c m f) (B + c + m) (s (c + m)) := by
  intro m
  induction m with
  | zero => intro c f; rfl
  | succ m ih =>
    intro c f
    have e : wf B s c (m + 1 + 1) f = wf B s (c + 1) (m + 1) (wr f (B + c) (s c)) := rfl
    rw [e, ih (c + 1)]
    have e2 : wf B s c (m + 1) f = wf B s (c + 1) m (wr f (B + c) (s c)) := rfl
    rw [e2, show B + (c + 1) + m = B + c + (m + 1) by omega, show c + 1 + m = c + (m + 1) by omega]
theorem E_wf {r : Nat} {s : Nat → Int32} : ∀ (m c : Nat) (f g : Nat → Int32), EQ r f g → EQ r (wf (16 * r) s c m f) (wf 0 s c m g) := by
  intro m
  induction m with
  | zero => intro c f g h; exact h
  | succ m ih =>
    intro c f g h
    refine ih (c + 1) _ _ ?_
    have := E_wr (c := c) (v := s c) h
    rw [show (0 : Nat) + c = c from Nat.zero_add c]
    exact this
theorem OT_wf {r : Nat} {s : Nat → Int32} : ∀ (m c : Nat) (f : Nat → Int32), c + m ≤ 16 → OT r f (wf (16 * r) s c m f) := by
  intro m
  induction m with
  | zero => intro c f _; exact OT_rf
  | succ m ih =>
    intro c f h
    exact OT_tr (OT_wr (by omega)) (ih (c + 1) _ (by omega))
theorem BL_wf {lo : Nat} {s : Nat → Int32} : ∀ (m c : Nat) (g : Nat → Int32), BL lo g → c + m ≤ lo → BL lo (wf 0 s c m g) := by
  intro m
  induction m with
  | zero => intro c g h _; exact h
  | succ m ih =>
    intro c g h hc
    exact ih (c + 1) _ (BL_wr h (by omega)) (by omega)
theorem CH_wf {B : Nat} {s : Nat → Int32} : ∀ (m c : Nat) (f : Nat → Int32), CH f → (∀ i, c ≤ i → i < c + m → ∃ x : Nat, CB x ∧ s i = oN x) → CH (wf B s c m f) := by
  intro m
  induction m with
  | zero => intro c f h _; exact h
  | succ m ih =>
    intro c f h hs
    obtain ⟨x, x1, x2⟩ := hs c (Nat.le_refl _) (by omega)
    exact ih (c + 1) _ (CH_wr h x1 x2) (fun i h1 h2 => hs i (by omega) (by omega))
theorem wf_n {B : Nat} {s : Nat → Int32} : ∀ (m c k : Nat) (f : Nat → Int32), (k < B + c ∨ B + c + m ≤ k) → wf B s c m f k = f k := by
  intro m
  induction m with
  | zero => intro c k f _; rfl
  | succ m ih =>
    intro c k f h
    have e : wf B s c (m + 1) f = wf B s (c + 1) m (wr f (B + c) (s c)) := rfl
    rw [e, ih (c + 1) k _ (by omega), wr_n (by omega)]
/-! the class's writing -/
theorem put_in {a : KS} {f : Nat → Int32} {r c : Nat} {v : Int32} (hr : r < 2) (hc : c < 16) : f_X6_put (sc a f) (oN r) (oN c) v = some (sc a (wr f (16 * r + c) (vp_nar .char v))) := by
  have e : oN r * 16 + oN c = oN (16 * r + c) := by
    rw [show (16 : Int32) = oN 16 from rfl, oN_mul, oN_add, Nat.mul_comm]
  have g : ¬ 32 ≤ oN (16 * r + c) := fun z => by rw [show (32 : Int32) = oN 32 from rfl, oN_le (by decide) (by omega)] at z; omega
  unfold f_X6_put
  rw [e, lt_e, if_neg (oN_nn (by omega)), if_neg g, gd_t (inb_oN (by omega) (by decide)), ofNat_cl (by omega), sc_set]
theorem str_nar : ∀ s : Nat, s < 6 → ∀ c : Nat, c < 8 → vp_nar .char (schar s (oN c)) = schar s (oN c) := by decide
theorem str_chx : ∀ s : Nat, s < 6 → ∀ c : Nat, c < scrN.getD s 0 → CB (schar s (oN c)).toNatClampNeg ∧ schar s (oN c) = oN (schar s (oN c)).toNatClampNeg := by decide
theorem str_chr (s : Nat) (hs : s < 6) (c : Nat) (hc : c < scrN.getD s 0) : ∃ x : Nat, CB x ∧ schar s (oN c) = oN x := ⟨_, str_chx s hs c hc⟩
theorem str_len : ∀ s : Nat, s < 6 → scrN.getD s 0 ≤ 7 := by decide
/-- the signs of a string of the class, blank behind its end -/
def ss (s : Nat) (c : Nat) : Int32 := if c < 8 then schar s (oN c) else 32
theorem ss_chr {s : Nat} (hs : s < 6) (i : Nat) (hi : i < scrN.getD s 0) : ∃ x : Nat, CB x ∧ ss s i = oN x := by
  have := str_len s hs
  unfold ss
  rw [if_pos (by omega)]
  exact str_chr s hs i hi
theorem write_l {a : KS} {r s : Nat} (hr : r < 2) (hs : s < 6) : ∀ (fuel c : Nat) (f : Nat → Int32), c ≤ scrN.getD s 0 → scrN.getD s 0 - c < fuel → l_X6_write_2 fuel (sc a f) (oN r) s (oN c) = some (oN (scrN.getD s 0), sc a (wf (16 * r) (ss s) c (scrN.getD s 0 - c) f)) := by
  have hl := str_len s hs
  intro fuel
  induction fuel with
  | zero => intro c f _ h; omega
  | succ n ih =>
    intro c f h1 h2
    have e0 : l_X6_write_2 (n + 1) (sc a f) (oN r) s (oN c) = f_X6_write_2 (l_X6_write_2 n) (sc a f) (oN r) s (oN c) := rfl
    rw [e0]
    unfold f_X6_write_2 slen
    rw [gd_d hs]
    by_cases g : scrN.getD s 0 ≤ c
    · rw [if_pos (show oN (scrN.getD s 0) ≤ oN c from (oN_le (by omega) (by omega)).mpr g), gd_d hs, show scrN.getD s 0 - c = 0 by omega]
      rfl
    · rw [if_neg (show ¬ oN (scrN.getD s 0) ≤ oN c from fun z => g ((oN_le (by omega) (by omega)).mp z)), gd_d hs, gd_t (inb_oN (by omega) (by omega)), put_in hr (by omega), bs, str_nar s hs c (by omega), oN_succ]
      have e3 : wf (16 * r) (ss s) c (scrN.getD s 0 - c) f = wf (16 * r) (ss s) (c + 1) (scrN.getD s 0 - (c + 1)) (wr f (16 * r + c) (schar s (oN c))) := by
        obtain ⟨m, hm⟩ : ∃ m, scrN.getD s 0 - c = m + 1 := ⟨scrN.getD s 0 - c - 1, by omega⟩
        rw [hm, show scrN.getD s 0 - (c + 1) = m by omega]
        show wf (16 * r) (ss s) (c + 1) m (wr f (16 * r + c) (ss s c)) = _
        unfold ss
        rw [if_pos (show c < 8 by omega)]
      rw [e3]
      exact ih (c + 1) _ (by omega) (by omega)
theorem write_K {a : KS} {r s : Nat} {f : Nat → Int32} (hr : r < 2) (hs : s < 6) : f_X6_write (sc a f) (oN r) s = some (oN (scrN.getD s 0), sc a (wf (16 * r) (ss s) 0 (scrN.getD s 0) f)) := by
  have hl := str_len s hs
  exact write_l hr hs FU 0 f (Nat.zero_le _) (by rw [FU_e]; omega)
