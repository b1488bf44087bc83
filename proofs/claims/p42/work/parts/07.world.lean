/-! ===== the words that every method may use ===== -/
def BIG : List Cond := lw_tbl.filter goodWord
theorem big_of {w : Cond} (i : Nat) (h : lw_tbl[i]? = some w) (hg : goodWord w = true) : w ∈ BIG := List.mem_filter.mpr ⟨List.mem_of_getElem? h, hg⟩
theorem BIG_good : ∀ w ∈ BIG, goodWord w = true := fun w h => (List.mem_filter.mp h).2
theorem BIG_tbl : ∀ w ∈ BIG, w ∈ lw_tbl := fun w h => (List.mem_filter.mp h).1
theorem goodIn_big {ws : List Cond} (h : ∀ w ∈ ws, w ∈ BIG) : GoodIn BIG ws := fun w hw => ⟨h w hw, good_of_word (BIG_good w (h w hw))⟩
/-! ===== the state of the class (K) and of the reference (M), by places; G: what the launch fixes ===== -/
abbrev GT : Type := va_G × (Nat → ClassId) × (Nat → Nat) × (Nat → Nat)
def tyG (G : GT) : List (ClassId × FieldType) := [(G.2.1 0, .int), (G.2.1 1, .char), (G.2.1 0, .int), (G.2.1 0, .int), (G.2.1 4, .object RX4)]
/-- the class's state: numbers by place and slot; the items' numbers; each item's menu; its children; the tree's row; the log's row; the shown menu; how many items; what the law's own row holds -/
abbrev KS : Type := (Nat → Nat → Int32) × (Nat → Nat → Int32) × (Nat → Option Nat) × (Nat → Nat → Option Nat) × (Nat → Option Nat) × (Nat → Option Nat) × Option Nat × Nat × (Nat → Int64)
/-- the reference's state: numbers by place and slot; its hash -/
abbrev MS : Type := (Nat → Nat → Int32) × Int64
def up2 {α : Type} (f : Nat → Nat → α) (p j : Nat) (v : α) : Nat → Nat → α := fun q k => if q = p ∧ k = j then v else f q k
def up1 {α : Type} (f : Nat → α) (j : Nat) (v : α) : Nat → α := fun k => if k = j then v else f k
def Khi (a : KS) : Nat → Nat → Int32 := a.1
def Kit (a : KS) : Nat → Nat → Int32 := a.2.1
def Kmn (a : KS) : Nat → Option Nat := a.2.2.1
def Kch (a : KS) : Nat → Nat → Option Nat := a.2.2.2.1
def Kti (a : KS) : Nat → Option Nat := a.2.2.2.2.1
def Klg (a : KS) : Nat → Option Nat := a.2.2.2.2.2.1
def Ksh (a : KS) : Option Nat := a.2.2.2.2.2.2.1
def Kn (a : KS) : Nat := a.2.2.2.2.2.2.2.1
def Kou (a : KS) : Nat → Int64 := a.2.2.2.2.2.2.2.2
def sKhi (a : KS) (p j : Nat) (v : Int32) : KS := (up2 a.1 p j v, a.2)
def sKit (a : KS) (i j : Nat) (v : Int32) : KS := (a.1, up2 a.2.1 i j v, a.2.2)
def sKmn (a : KS) (i : Nat) (o : Option Nat) : KS := (a.1, a.2.1, up1 a.2.2.1 i o, a.2.2.2)
def sKch (a : KS) (i j : Nat) (o : Option Nat) : KS := (a.1, a.2.1, a.2.2.1, up2 a.2.2.2.1 i j o, a.2.2.2.2)
def sKti (a : KS) (j : Nat) (o : Option Nat) : KS := (a.1, a.2.1, a.2.2.1, a.2.2.2.1, up1 a.2.2.2.2.1 j o, a.2.2.2.2.2)
def sKlg (a : KS) (j : Nat) (o : Option Nat) : KS := (a.1, a.2.1, a.2.2.1, a.2.2.2.1, a.2.2.2.2.1, up1 a.2.2.2.2.2.1 j o, a.2.2.2.2.2.2)
def sKsh (a : KS) (o : Option Nat) : KS := (a.1, a.2.1, a.2.2.1, a.2.2.2.1, a.2.2.2.2.1, a.2.2.2.2.2.1, o, a.2.2.2.2.2.2.2)
def sKou (a : KS) (j : Nat) (v : Int64) : KS := (a.1, a.2.1, a.2.2.1, a.2.2.2.1, a.2.2.2.2.1, a.2.2.2.2.2.1, a.2.2.2.2.2.2.1, a.2.2.2.2.2.2.2.1, up1 a.2.2.2.2.2.2.2.2 j v)
def Mhi (b : MS) : Nat → Nat → Int32 := b.1
def Mhs (b : MS) : Int64 := b.2
def sMhi (b : MS) (p j : Nat) (v : Int32) : MS := (up2 b.1 p j v, b.2)
def sMhs (b : MS) (v : Int64) : MS := (b.1, v)
abbrev ip (i : Nat) : Nat := 2 * i + 200
abbrev cp (i : Nat) : Nat := 2 * i + 201
def itr (ad : Nat → Nat) (o : Option Nat) : Option Nat := o.map (fun i => ad (ip i))
abbrev itv (ad : Nat → Nat) (o : Option Nat) : Value := va_rf (itr ad o)
abbrev arI (c : ClassId) (n : Nat) (f : Nat → Int32) : va_E := .inl (c, n, .inl f)
abbrev arJ (c : ClassId) (n : Nat) (f : Nat → Int64) : va_E := .inl (c, n, .inr (.inl f))
abbrev arR (c : ClassId) (n : Nat) (f : Nat → Option Nat) : va_E := .inl (c, n, .inr (.inr (.inr (.inr f))))
/-- the cells of the class's fixed places -/
def celF (G : GT) (ad : Nat → Nat) (h : Nat → Int32) (ti lg : Nat → Option Nat) (sh : Option Nat) (ov : Nat → Int64) (q : Nat) : va_E := match q with
  | 0 => .inr (8, [.ref (ad 1), .ref (ad 3), .ref (ad 6), .ref (ad 8), .ref (ad 10), .ref (ad 14), .ref (ad 16)])
  | 1 => .inr (7, [.ref (ad 200), .ref (ad 2), .int (h 2)])
  | 2 => arR (G.2.1 4) 24 (fun j => itr ad (ti j))
  | 3 => .inr (3, [.ref (ad 4), .ref (ad 5), .int (h 2)])
  | 4 => arR (G.2.1 4) 8 (fun j => itr ad (lg j))
  | 5 => arI (G.2.1 0) 8 h
  | 6 => .inr (5, [.ref (ad 7), .int (h 1), .int (h 2)])
  | 7 => arI (G.2.1 0) 24 h
  | 8 => .inr (5, [.ref (ad 9), .int (h 1), .int (h 2)])
  | 9 => arI (G.2.1 0) 24 h
  | 10 => .inr (2, [.ref (ad 1), .ref (ad 3), .ref (ad 11), .ref (ad 12), .ref (ad 13), itv ad sh, .int (h 6), .int (h 7), .int (h 8), .int (h 9), .int (h 10), .int (h 11), .int (h 12)])
  | 11 => arI (G.2.1 0) 4 h
  | 12 => arI (G.2.1 0) 3 h
  | 13 => arI (G.2.1 0) 8 h
  | 14 => .inr (6, [.ref (ad 15)])
  | 15 => arI (G.2.1 1) 32 h
  | 16 => .inr (1, [.ref (ad 17), .ref (ad 18), .int (h 2), .int (h 3)])
  | 17 => arI (G.2.1 1) 60 h
  | 18 => .inr (0, [.int (h 0), .int (h 1)])
  | 19 => arJ (G.2.1 3) 1 ov
  | _ => .inr (0, [])
/-- the cells of the reference's places -/
def celM (G : GT) (ad : Nat → Nat) (h : Nat → Int32) (hs : Int64) (q : Nat) : va_E := match q with
  | 0 => .inr (9, [.int (h 0), .int (h 1), .ref (ad 102), .ref (ad 103), .ref (ad 104), .ref (ad 105), .ref (ad 106), .ref (ad 107), .ref (ad 108), .ref (ad 109), .int (h 10), .int (h 11), .int (h 12), .int (h 13), .ref (ad 114), .int (h 15), .int (h 16), .int (h 17), .int (h 18), .ref (ad 119), .ref (ad 120), .ref (ad 121), .ref (ad 122), .int (h 23), .ref (ad 124), .ref (ad 125), .ref (ad 126), .int (h 27), .int (h 28), .int (h 29), .int (h 30), .ref (ad 131), .long hs])
  | 2 => arI (G.2.1 0) 24 h
  | 3 => arI (G.2.1 0) 24 h
  | 4 => arI (G.2.1 0) 24 h
  | 5 => arI (G.2.1 0) 24 h
  | 6 => arI (G.2.1 0) 24 h
  | 7 => arI (G.2.1 0) 24 h
  | 8 => arI (G.2.1 0) 24 h
  | 9 => arI (G.2.1 2) 24 h
  | 14 => arI (G.2.1 0) 4 h
  | 19 => arI (G.2.1 0) 3 h
  | 20 => arI (G.2.1 0) 8 h
  | 21 => arI (G.2.1 0) 8 h
  | 22 => arI (G.2.1 0) 8 h
  | 24 => arI (G.2.1 0) 48 h
  | 25 => arI (G.2.1 0) 2 h
  | 26 => arI (G.2.1 0) 60 h
  | 31 => arI (G.2.1 0) 16 h
  | _ => .inr (0, [])
/-- an item's cell (q: its place), its row of children -/
def celI (ad : Nat → Nat) (h : Nat → Int32) (mn : Option Nat) (q : Nat) : va_E := .inr (4, [.int (h 0), .int (h 1), itv ad mn, .int (h 3), .int (h 4), .int (h 5), .int (h 6), .int (h 7), .ref (ad (q + 1)), .int (h 9), .int (h 10), .int (h 11), .int (h 12)])
def celC (G : GT) (ad : Nat → Nat) (ch : Nat → Option Nat) : va_E := arR (G.2.1 4) 8 (fun j => itr ad (ch j))
def cel (G : GT) (ad : Nat → Nat) (a : KS) (b : MS) (q : Nat) : va_E :=
  if q < 100 then celF G ad (Khi a q) (Kti a) (Klg a) (Ksh a) (Kou a) q
  else if q < 200 then celM G ad (Mhi b q) (Mhs b) (q - 100)
  else if q % 2 = 0 then celI ad (Kit a ((q - 200) / 2)) (Kmn a ((q - 200) / 2)) q
  else celC G ad (Kch a ((q - 201) / 2))
def plF : List Nat := [0, 1, 2, 3, 4, 5, 6, 7, 8, 9, 10, 11, 12, 13, 14, 15, 16, 17, 18]
/-- the places of a state with n items -/
def pls (n : Nat) : List Nat := plF ++ ((List.range n).map ip ++ (List.range n).map cp)
theorem plF_lt : ∀ q ∈ plF, q < 200 := by decide +kernel
theorem mem_plF {q n : Nat} (h : q ∈ plF) : q ∈ pls n := List.mem_append_left _ h
theorem mem_ip {i n : Nat} (h : i < n) : ip i ∈ pls n := List.mem_append_right _ (List.mem_append_left _ (List.mem_map.mpr ⟨i, List.mem_range.mpr h, rfl⟩))
theorem mem_cp {i n : Nat} (h : i < n) : cp i ∈ pls n := List.mem_append_right _ (List.mem_append_right _ (List.mem_map.mpr ⟨i, List.mem_range.mpr h, rfl⟩))
theorem pls_nd (n : Nat) : (pls n).Nodup := by
  have h1 : plF.Nodup := by decide +kernel
  have inj : ∀ (f : Nat → Nat), (∀ x y, f x = f y → x = y) → ((List.range n).map f).Nodup := by
    intro f hf
    rw [List.Nodup, List.pairwise_map]
    exact (List.nodup_range (n := n)).imp (fun h e => h (hf _ _ e))
  refine List.nodup_append.mpr ⟨h1, List.nodup_append.mpr ⟨inj ip (fun x y h => by simp only [ip] at h; omega), inj cp (fun x y h => by simp only [cp] at h; omega), ?_⟩, ?_⟩
  · intro x hx y hy e
    obtain ⟨i, -, rfl⟩ := List.mem_map.mp hx
    obtain ⟨j, -, rfl⟩ := List.mem_map.mp hy
    simp only [ip, cp] at e
    omega
  · intro x hx y hy e
    have := plF_lt x hx
    rcases List.mem_append.mp hy with h | h
    · obtain ⟨j, -, rfl⟩ := List.mem_map.mp h
      simp only [ip] at e
      omega
    · obtain ⟨j, -, rfl⟩ := List.mem_map.mp h
      simp only [cp] at e
      omega
def wd (G : GT) (ad : Nat → Nat) (a : KS) (b : MS) : va_W := (pls (Kn a)).map fun q => (ad q, cel G ad a b q)
theorem wd_get {G : GT} {ad : Nat → Nat} {a : KS} {b : MS} {q : Nat} (h : q ∈ pls (Kn a)) : ∃ k : Nat, (pls (Kn a))[k]? = some q ∧ (wd G ad a b)[k]? = some (ad q, cel G ad a b q) := by
  obtain ⟨k, hk⟩ := List.getElem?_of_mem h
  exact ⟨k, hk, by simp [wd, hk]⟩
theorem wd_mem {G : GT} {ad : Nat → Nat} {a : KS} {b : MS} {k : Nat} {q : Nat × va_E} (h : (wd G ad a b)[k]? = some q) : ∃ z, z ∈ pls (Kn a) ∧ q = (ad z, cel G ad a b z) := by
  have h1 := List.mem_of_getElem? h
  obtain ⟨z, hz, e⟩ := List.mem_map.mp h1
  exact ⟨z, hz, e.symm⟩
theorem map_set_nd {α β : Type} {L : List α} (hn : L.Nodup) {k : Nat} {q : α} (hk : L[k]? = some q) (f g : α → β) (e : β) (hq : e = g q) (ho : ∀ z, z ≠ q → f z = g z) : (L.map f).set k e = L.map g := by
  apply List.ext_getElem?
  intro i
  rw [List.getElem?_set, List.getElem?_map, List.getElem?_map]
  have hlt : k < L.length := (List.getElem?_eq_some_iff.mp hk).1
  by_cases hi : k = i
  · subst hi
    have e1 : L[k] = q := (List.getElem?_eq_some_iff.mp hk).2
    simp [hlt, hq, e1]
  · rw [if_neg hi]
    cases hz : L[i]? with
    | none => rfl
    | some z =>
      have : z ≠ q := by
        intro e1
        subst e1
        exact hi ((List.getElem?_inj hlt hn).mp (hk.trans hz.symm))
      simp [ho z this]
/-- one cell changes -/
theorem wd_set {G : GT} {ad : Nat → Nat} {a a' : KS} {b b' : MS} {k q : Nat} {e : va_E} (hk : (pls (Kn a))[k]? = some q) (hn : Kn a' = Kn a) (hq : e = cel G ad a' b' q) (ho : ∀ z, z ≠ q → cel G ad a b z = cel G ad a' b' z) : (wd G ad a b).set k (ad q, e) = wd G ad a' b' := by
  unfold wd
  rw [hn]
  exact map_set_nd (pls_nd _) hk _ (fun z => (ad z, cel G ad a' b' z)) _ (by rw [hq]) (fun z hz => by rw [ho z hz])
/-- the law's footprint: the cells of the places, and what is new -/
def FP (ad : Nat → Nat) (n sz : Nat) : Nat → Prop := fun q => (∃ z, z ∈ pls n ∧ q = ad z) ∨ sz ≤ q
theorem wd_lt {G : GT} {ad : Nat → Nat} {a : KS} {b : MS} {H : Heap} (hP : va_P G.1 vwCl (wd G ad a b) H) {z : Nat} (hz : z ∈ pls (Kn a)) : ad z < H.size := by
  obtain ⟨k, -, hk⟩ := wd_get (G := G) (ad := ad) (b := b) hz
  exact va_at.lt (hP k _ hk)
theorem FP_le {G : GT} {ad : Nat → Nat} {a : KS} {b : MS} {A : Nat → Prop} (hD : va_D A (wd G ad a b)) {sz : Nat} (hA : ∀ q, sz ≤ q → A q) : ∀ q, FP ad (Kn a) sz q → A q := by
  intro q hq
  rcases hq with ⟨z, hz, rfl⟩ | h
  · obtain ⟨k, -, hk⟩ := wd_get (G := G) (ad := ad) (b := b) hz
    exact hD.2 k _ hk
  · exact hA q h
theorem wd_DF {G : GT} {ad : Nat → Nat} {a : KS} {b : MS} {A : Nat → Prop} (hD : va_D A (wd G ad a b)) (sz : Nat) : va_D (FP ad (Kn a) sz) (wd G ad a b) := by
  refine hD.weaken ?_
  intro k q hk _
  obtain ⟨z, hz, rfl⟩ := wd_mem hk
  exact Or.inl ⟨z, hz, rfl⟩
/-- addresses of different places differ -/
theorem wd_inj {G : GT} {ad : Nat → Nat} {a : KS} {b : MS} {A : Nat → Prop} (hD : va_D A (wd G ad a b)) {z w : Nat} (hz : z ∈ pls (Kn a)) (hw : w ∈ pls (Kn a)) (e : ad z = ad w) : z = w := by
  obtain ⟨k, hk, hk'⟩ := wd_get (G := G) (ad := ad) (b := b) hz
  obtain ⟨j, hj, hj'⟩ := wd_get (G := G) (ad := ad) (b := b) hw
  have := hD.1 k j _ _ hk' hj' e
  subst this
  exact Option.some.inj (hk.symm.trans hj)
/-! what the cells are, place by place -/
theorem cel_item {G : GT} {ad : Nat → Nat} {a : KS} {b : MS} (i : Nat) : cel G ad a b (ip i) = celI ad (Kit a i) (Kmn a i) (ip i) := by
  have e : (ip i - 200) / 2 = i := by simp only [ip]; omega
  unfold cel
  rw [if_neg (by simp only [ip]; omega), if_neg (by simp only [ip]; omega), if_pos (by simp only [ip]; omega), e]
theorem cel_chil {G : GT} {ad : Nat → Nat} {a : KS} {b : MS} (i : Nat) : cel G ad a b (cp i) = celC G ad (Kch a i) := by
  have e : (cp i - 201) / 2 = i := by simp only [cp]; omega
  unfold cel
  rw [if_neg (by simp only [cp]; omega), if_neg (by simp only [cp]; omega), if_neg (by simp only [cp]; omega), e]
theorem cel_m {G : GT} {ad : Nat → Nat} {a : KS} {b : MS} (k : Nat) (h : k < 100) : cel G ad a b (100 + k) = celM G ad (Mhi b (100 + k)) (Mhs b) k := by
  have e : 100 + k - 100 = k := by omega
  unfold cel
  rw [if_neg (by omega), if_pos (by omega), e]
theorem cel_f {G : GT} {ad : Nat → Nat} {a : KS} {b : MS} (k : Nat) (h : k < 100) : cel G ad a b k = celF G ad (Khi a k) (Kti a) (Klg a) (Ksh a) (Kou a) k := by
  unfold cel
  rw [if_pos h]
theorem up2_ne {α : Type} {f : Nat → Nat → α} {p j q : Nat} {v : α} (h : q ≠ p) : up2 f p j v q = f q := by
  funext k
  simp [up2, h]
theorem up2_eq {α : Type} {f : Nat → Nat → α} {p j : Nat} {v : α} : up2 f p j v p = up1 (f p) j v := by
  funext k
  simp [up2, up1]
/-- cells other than the one that is written -/
theorem cel_khi {G : GT} {ad : Nat → Nat} {a : KS} {b : MS} {p j : Nat} {v : Int32} {z : Nat} (h : z ≠ p) : cel G ad a b z = cel G ad (sKhi a p j v) b z := by
  have e : Khi (sKhi a p j v) z = Khi a z := up2_ne h
  unfold cel
  rw [e]
  rfl
theorem cel_mhi {G : GT} {ad : Nat → Nat} {a : KS} {b : MS} {p j : Nat} {v : Int32} {z : Nat} (h : z ≠ p) : cel G ad a b z = cel G ad a (sMhi b p j v) z := by
  have e : Mhi (sMhi b p j v) z = Mhi b z := up2_ne h
  unfold cel
  rw [e]
  rfl
theorem cel_kit {G : GT} {ad : Nat → Nat} {a : KS} {b : MS} {i j : Nat} {v : Int32} {z : Nat} (h : z ≠ ip i) : cel G ad a b z = cel G ad (sKit a i j v) b z := by
  unfold cel
  by_cases h1 : z < 100
  · rw [if_pos h1, if_pos h1]; rfl
  rw [if_neg h1, if_neg h1]
  by_cases h2 : z < 200
  · rw [if_pos h2, if_pos h2]
  rw [if_neg h2, if_neg h2]
  by_cases h3 : z % 2 = 0
  · have e : Kit (sKit a i j v) ((z - 200) / 2) = Kit a ((z - 200) / 2) := up2_ne (by simp only [ip] at h; omega)
    rw [if_pos h3, if_pos h3, e]; rfl
  · rw [if_neg h3, if_neg h3]; rfl
theorem cel_kch {G : GT} {ad : Nat → Nat} {a : KS} {b : MS} {i j : Nat} {v : Option Nat} {z : Nat} (h : z ≠ cp i) : cel G ad a b z = cel G ad (sKch a i j v) b z := by
  unfold cel
  by_cases h1 : z < 100
  · rw [if_pos h1, if_pos h1]; rfl
  rw [if_neg h1, if_neg h1]
  by_cases h2 : z < 200
  · rw [if_pos h2, if_pos h2]
  rw [if_neg h2, if_neg h2]
  by_cases h3 : z % 2 = 0
  · rw [if_pos h3, if_pos h3]; rfl
  · have e : Kch (sKch a i j v) ((z - 201) / 2) = Kch a ((z - 201) / 2) := up2_ne (by simp only [cp] at h; omega)
    rw [if_neg h3, if_neg h3, e]
/-! ===== the launch's strings and the throwables' statics, that no walk writes ===== -/
def scrI : List Nat := [28, 41, 99, 101, 103, 112]
def scrT : List String := ["EDIT ", "CODE ", "MENU ", "NUMBER ", "CHOICE ", "BACK"]
def scrN : List Nat := [5, 5, 5, 7, 7, 4]
def scrB : List (List Int32) := [[69, 68, 73, 84, 32], [67, 79, 68, 69, 32], [77, 69, 78, 85, 32], [78, 85, 77, 66, 69, 82, 32], [67, 72, 79, 73, 67, 69, 32], [66, 65, 67, 75]]
def EVs (G : GT) (A : Nat → Prop) (U : State) (H : Heap) : Prop := ∀ i, i < 6 → va_O "java/lang/String" (G.2.2.1 i) A U H ∧ va_OF "java/lang/String" "coder" "B" (.int 0) (G.2.2.1 i) A U H ∧ va_OF "java/lang/String" "value" "[B" (.ref (G.2.2.2 i)) (G.2.2.1 i) A U H ∧ va_T .byte (G.2.2.2 i) (scrN.getD i 0) (fun j => .int ((scrB.getD i []).getD j 0)) A U H
def EVr (G : GT) (U : State) : Prop := ∀ i, i < 6 → vk_R RX6 (scrI.getD i 0) (scrT.getD i "") (G.2.2.1 i) U
def nestW : List Cond := [.methodLinkNest "KnobMenu" 18 ⟨"KnobMenu$EditLog", "<init>", "()V"⟩ "KnobMenu", .methodLinkNest "KnobMenu" 25 ⟨"KnobMenu$Preset", "<init>", "()V"⟩ "KnobMenu", .methodLinkNest "KnobMenu" 44 ⟨"KnobMenu$Screen", "<init>", "()V"⟩ "KnobMenu", .methodLinkNest "KnobMenu" 51 ⟨"KnobMenu$ActionText", "<init>", "()V"⟩ "KnobMenu", .methodLinkNest "KnobMenu$ActionText" 17 ⟨"KnobMenu$ActionReader", "<init>", "()V"⟩ "KnobMenu"]
/-- what the constructors need besides: rows of items, private constructors of nest mates -/
def EVl (U : State) : Prop := va_AO RX4 U ∧ ∀ w ∈ nestW, va_Nw w U
theorem EVl.warm {s U : State} (hW : s.WarmedH U.vm) (h : EVl s) : EVl U := by
  refine ⟨h.1.moved hW.alike, fun w hw => ?_⟩
  have h1 := h.2 w hw
  simp only [nestW, List.mem_cons, List.mem_nil_iff, or_false] at hw
  rcases hw with rfl | rfl | rfl | rfl | rfl <;> exact va_Nw.warmM hW h1
def EV (G : GT) (A : Nat → Prop) (U : State) (H : Heap) : Prop := EVs G A U H ∧ EVr G U ∧ True ∧ True ∧ True ∧ va_Z "java/lang/String" "COMPACT_STRINGS" "Z" (.int 1) A U H ∧ va_Zq "jdk/internal/util/Preconditions" "SIOOBE_FORMATTER" "Ljava/util/function/BiFunction;" A U H ∧ True ∧ EVl U
theorem EV.mv {G : GT} {A : Nat → Prop} {u U : State} {H : Heap} (hvm : u.vm.Alike U.vm) (hR : ∀ own k tx a, vk_R own k tx a u → vk_R own k tx a U) (hL : EVl u → EVl U) (h : EV G A u H) : EV G A U H := by
  obtain ⟨h1, h2, -, -, -, z1, z2, -, w2⟩ := h
  refine ⟨fun i hi => ?_, fun i hi => hR _ _ _ _ (h2 i hi), trivial, trivial, trivial, z1.moved hvm, z2.moved hvm, trivial, hL w2⟩
  obtain ⟨a1, a2, a3, a4⟩ := h1 i hi
  exact ⟨a1.moved hvm, a2.moved hvm, a3.moved hvm, a4.moved hvm⟩
theorem EV.kn {G : GT} {A B : Nat → Prop} {U : State} {H H1 : Heap} (hq : ∀ a : Nat, a < H.size → ¬ A a → H1[a]? = H[a]?) (hAB : ∀ q, B q → A q) (h : EV G A U H) : EV G B U H1 := by
  obtain ⟨h1, h2, -, -, -, z1, z2, -, w2⟩ := h
  refine ⟨fun i hi => ?_, h2, trivial, trivial, trivial, (z1.kept hq).narrow hAB, (z2.kept hq).narrow hAB, trivial, w2⟩
  obtain ⟨a1, a2, a3, a4⟩ := h1 i hi
  exact ⟨(a1.kept hq).narrow hAB, (a2.kept hq).narrow hAB, (a3.kept hq).narrow hAB, (a4.kept hq).narrow hAB⟩
/-! ===== contracts over the world ===== -/
def PreW (G : GT) (ad : Nat → Nat) (a : KS) (b : MS) (sz : Nat) (U : State) : Prop := U.heap.size = sz ∧ va_P G.1 vwCl (wd G ad a b) U.heap ∧ va_K G.1 vwCl (tyG G) U ∧ va_D (fun _ => True) (wd G ad a b) ∧ EV G (FP ad (Kn a) sz) U U.heap
def PosW (G : GT) (ad : Nat → Nat) (a : KS) (b : MS) (A : Nat → Prop) (t : State) : Prop := va_P G.1 vwCl (wd G ad a b) t.heap ∧ va_D A (wd G ad a b)
def QV (v : Option Value) (B : State → Prop) (A : Nat → Prop) : Array Value → State → Outcome → State → Prop := fun _ st oc t => oc = .returned v ∧ B t ∧ va_F A st t
theorem pre_blind {G : GT} {ad : Nat → Nat} {a : KS} {b : MS} {sz : Nat} {av : List Value} : FrameBlind (va_Pc av (PreW G ad a b sz)) := by
  intro x U g mk q
  obtain ⟨q0, q1, qP, qK, qD, qE⟩ := q
  exact ⟨q0, q1, qP, va_K.moved (u := U) (U := U.calling g mk x) (Vm.Alike.refl U.vm) qK, qD, qE.mv (U := U.calling g mk x) (Vm.Alike.refl U.vm) (fun own k tx a h => vk_R.same (U := U.calling g mk x) rfl h) (fun h => ⟨h.1.moved (U := U.calling g mk x) (Vm.Alike.refl U.vm), fun w hw => va_tabs (by simp only [nestW, List.mem_cons, List.mem_nil_iff, or_false] at hw; rcases hw with rfl | rfl | rfl | rfl | rfl <;> rfl) (rfl : U.vm = (U.calling g mk x).vm) (h.2 w hw)⟩)⟩
/-- the contract of a method that returns: called with av over the state (a, b), it answers v and leaves (a', b') -/
def MT (l : Launch) (G : GT) (y : MethodName) (cc : ByteArray) (nL : Nat) (ret : Option FieldType) (rm : Room) (av : List Value) (ad : Nat → Nat) (a : KS) (b : MS) (v : Option Value) (a' : KS) (b' : MS) : Prop :=
  ∀ sz : Nat, Met l y (Cond.code y cc nL ret :: BIG) rm (va_Pc av (PreW G ad a b sz)) (QV v (PosW G ad a' b' (FP ad (Kn a) sz)) (FP ad (Kn a) sz)) rm.cells rm.slots (FP ad (Kn a) sz)
/-- what a walk may use of its method -/
def CX (G : GT) (A : Nat → Prop) (own : String) (cc : ByteArray) (nL : Nat) (p : Program) (s : State) (m : MethodId) (args : Array Value) (c : Code) : Prop :=
  p.tables.exec = Jvm.exec ∧ c.code = cc ∧ c.maxLocals = nL ∧ s.vm.findClass own = some m.cls ∧ (∀ w ∈ BIG, w.before args s = true) ∧ va_K G.1 vwCl (tyG G) s ∧ (∀ q, s.heap.size ≤ q → A q) ∧ EV G A s s.heap
/-- the walk's judgement: from this place of the code, with these locals, this stack and this state of the world, the machine comes to Q -/
def J (p : Program) (l : Launch) (e : Env) (R : Room) (s : State) (m : MethodId) (args : Array Value) (below : List Frame) (meth : Method) (c : Code) (G : GT) (A : Nat → Prop) (nL : Nat) (Q : State → Prop) (k n : Nat) (ad : Nat → Nat) (a : KS) (b : MS) (pc : Nat) (lv : List (Nat × Value)) (st : List Value) : Prop :=
  ∀ (H : Heap) (locs : List Loc) (ls : Array Slot), va_P G.1 vwCl (wd G ad a b) H → va_D A (wd G ad a b) → va_S A s.heap H locs → lv_has ls nL lv → W p l e R s m args below meth c H locs k n Q (F0 m pc ls st)
set_option maxHeartbeats 4000000 in
theorem MT_of {l : Launch} {G : GT} {y : MethodName} {cc : ByteArray} {nL : Nat} {ret : Option FieldType} {rm : Room} {av : List Value} {ad : Nat → Nat} {a a' : KS} {b b' : MS} {v : Option Value} (hy : plainName y.cls = true) (hlen : (lg_sl av).length ≤ nL)
    (body : ∀ (p : Program) (e : Env) (s : State) (m : MethodId) (args : Array Value) (below : List Frame) (meth : Method) (c : Code) (A : Nat → Prop), CX G A y.cls cc nL p s m args c → meth.sig.returnType = ret → meth.locks = false →
      J p l e rm s m args below meth c G A nL (MQ below (QV v (PosW G ad a' b' A) A) args s rm.cells rm.slots A) 0 0 ad a b 0 (lv_args 0 av) []) : MT l G y cc nL ret rm av ad a b v a' b' := by
  intro sz
  refine Met.ofW (cc := cc) (maxL := nL) (ret := ret) hy rfl ?_
  intro p e s m args below meth c s₁ B hml hv
  obtain ⟨rfl, rfl, hP, hK, hD, hE⟩ := hv
  have hts : ∀ w ∈ (Cond.code y cc nL ret :: BIG), w.before _ s = true := atoms_spec (ws := Cond.code y cc nL ret :: BIG) B.pre
  have hown : s.vm.findClass y.cls = some m.cls := findClass_of_methodNamed B.named
  have hl := lv_entry av (n := nL) hlen
  rw [lg_entry_eq]
  exact body p e s m _ below meth c _ ⟨B.exec, B.bytes, hml, hown, fun w h => hts w (List.mem_cons_of_mem _ h), hK, fun q h => Or.inr h, hE⟩ B.returns B.notSynchronized s.heap [] _ hP (wd_DF hD _) va_S.rf hl
theorem itv_cat {ad : Nat → Nat} (o : Option Nat) : (itv ad o).category = 1 := by cases o <;> rfl
set_option maxHeartbeats 4000000 in
theorem MT_of2 {l : Launch} {G : GT} {y : MethodName} {cc : ByteArray} {nL : Nat} {ret : Option FieldType} {rm : Room} {av : List Value} {ad : Nat → Nat} {a a' : KS} {b b' : MS} {v : Option Value} {lv : List (Nat × Value)} (hy : plainName y.cls = true) (hlen : (lg_sl av).length ≤ nL) (hlv : lv_args 0 av = lv)
    (body : ∀ (p : Program) (e : Env) (s : State) (m : MethodId) (args : Array Value) (below : List Frame) (meth : Method) (c : Code) (A : Nat → Prop), CX G A y.cls cc nL p s m args c → meth.sig.returnType = ret → meth.locks = false →
      J p l e rm s m args below meth c G A nL (MQ below (QV v (PosW G ad a' b' A) A) args s rm.cells rm.slots A) 0 0 ad a b 0 lv []) : MT l G y cc nL ret rm av ad a b v a' b' := by
  subst hlv
  exact MT_of hy hlen body
theorem met_ofWF {l : Launch} {y : MethodName} {ws ws' : List Cond} {rm : Room} {Pc : Array Value → State → Prop} {Qc : Array Value → State → Outcome → State → Prop} {mc ms : Nat} {free : Addr → Prop} {cc : ByteArray} {maxL : Nat} {ret : Option FieldType}
    (hy : plainFor y = true) (hw : ws = Cond.code y cc maxL ret :: ws')
    (body : ∀ p e s m args below meth c s₁, BodyLoose p l y (headSpec ws rm) cc maxL ret e s m args below meth c s₁ → c.maxLocals = maxL → Pc args s →
      W p l e (headSpec ws rm).room s m args below meth c s.heap [] 0 0 (MQ below Qc args s mc ms free) (entryFrame m args maxL)) : Met l y ws rm Pc Qc mc ms free := by
  refine MetFree.of_bodySF (code := cc) (maxLocals := maxL) (ret := ret) hy ?_ ?_
  · intro args s m h hn
    obtain ⟨meth, c, h1, h2, h3, h4, h5, h6, -, -⟩ := Cond.code_spec hn (atoms_spec (ws := ws) h _ (by rw [hw]; exact List.mem_cons_self))
    exact ⟨meth, c, h1, h2, h3, h4, h5, h6⟩
  · intro p e s m args below meth c s₁ B hml hP _
    have hh0 : s₁.heap = s.heap := by rw [B.state]; rfl
    obtain ⟨t, a1, o, b1, b2, b3⟩ := body p e s m args below meth c s₁ B hml hP s₁ hh0 (Stand.of_body B)
    exact ⟨t, o, a1, b1, b2, ⟨b3.1, b3.2⟩⟩
set_option maxHeartbeats 4000000 in
theorem MT_ofF {l : Launch} {G : GT} {y : MethodName} {cc : ByteArray} {nL : Nat} {ret : Option FieldType} {rm : Room} {av : List Value} {ad : Nat → Nat} {a a' : KS} {b b' : MS} {v : Option Value} (hy : plainFor y = true) (hlen : (lg_sl av).length ≤ nL)
    (body : ∀ (p : Program) (e : Env) (s : State) (m : MethodId) (args : Array Value) (below : List Frame) (meth : Method) (c : Code) (A : Nat → Prop), CX G A y.cls cc nL p s m args c → meth.sig.returnType = ret → meth.locks = false →
      J p l e rm s m args below meth c G A nL (MQ below (QV v (PosW G ad a' b' A) A) args s rm.cells rm.slots A) 0 0 ad a b 0 (lv_args 0 av) []) : MT l G y cc nL ret rm av ad a b v a' b' := by
  intro sz
  refine met_ofWF (cc := cc) (maxL := nL) (ret := ret) hy rfl ?_
  intro p e s m args below meth c s₁ B hml hv
  obtain ⟨rfl, rfl, hP, hK, hD, hE⟩ := hv
  have hts : ∀ w ∈ (Cond.code y cc nL ret :: BIG), w.before _ s = true := atoms_spec (ws := Cond.code y cc nL ret :: BIG) B.pre
  have hown : s.vm.findClass y.cls = some m.cls := findClass_of_methodNamed B.named
  have hl := lv_entry av (n := nL) hlen
  rw [lg_entry_eq]
  exact body p e s m _ below meth c _ ⟨B.exec, B.bytes, hml, hown, fun w h => hts w (List.mem_cons_of_mem _ h), hK, fun q h => Or.inr h, hE⟩ B.returns B.notSynchronized s.heap [] _ hP (wd_DF hD _) va_S.rf hl
