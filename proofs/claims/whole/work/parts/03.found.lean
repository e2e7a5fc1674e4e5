/-! my own layer over the kit: memories of ints over a fixed graph of objects -/
abbrev M2 : Type := Nat → Nat → Int32
def up (σ : M2) (o k : Nat) (x : Int32) : M2 := fun a => if a = o then upd (σ o) k x else σ a
theorem up_same (σ : M2) (o k : Nat) (x : Int32) : up σ o k x o = upd (σ o) k x := if_pos rfl
theorem up_other {σ : M2} {o a k : Nat} {x : Int32} (h : a ≠ o) : up σ o k x a = σ a := if_neg h
def cshL : List (Nat × Nat) := [(12, 17), (3, 4), (0, 8), (0, 8), (0, 8), (6, 5), (0, 6), (0, 6), (0, 6), (0, 6), (11, 3), (1, 6), (10, 5), (0, 160), (0, 3), (0, 32), (10, 5), (0, 160), (0, 3), (0, 32), (10, 5), (0, 160), (0, 3), (0, 32), (10, 5), (0, 160), (0, 3), (0, 32), (10, 5), (0, 160), (0, 3), (0, 32), (10, 5), (0, 160), (0, 3), (0, 32), (9, 5), (0, 160), (0, 160), (0, 160), (7, 5), (4, 12), (0, 8), (0, 8), (0, 6), (0, 8), (0, 6), (2, 3), (5, 5), (0, 6), (1, 6), (0, 8), (0, 8), (0, 8), (0, 8), (0, 8), (0, 8), (0, 6), (1, 4), (8, 3), (0, 40), (8, 3), (0, 40), (8, 3), (0, 40), (8, 3), (0, 40), (0, 8), (3, 4), (0, 8), (0, 8), (0, 8), (6, 5), (0, 6), (0, 6), (0, 6), (0, 6)]
def crfL : List (List Nat) := [[1, 5, 10, 36, 40, 41, 47, 48, 58, 67, 68, 72, 0, 0, 0, 0, 0], [2, 3, 4, 0], [], [], [], [6, 7, 8, 9, 0], [], [], [], [], [11, 0, 0], [12, 16, 20, 24, 28, 32], [13, 14, 15, 0, 0], [], [], [], [17, 18, 19, 0, 0], [], [], [], [21, 22, 23, 0, 0], [], [], [], [25, 26, 27, 0, 0], [], [], [], [29, 30, 31, 0, 0], [], [], [], [33, 34, 35, 0, 0], [], [], [], [37, 38, 39, 0, 0], [], [], [], [36, 0, 0, 0, 0], [1, 5, 10, 42, 43, 44, 45, 46, 0, 0, 0, 0], [], [], [], [], [], [0, 0, 0], [5, 41, 49, 50, 57], [], [51, 52, 53, 54, 55, 56], [], [], [], [], [], [], [], [59, 61, 63, 65], [60, 0, 0], [], [62, 0, 0], [], [64, 0, 0], [], [66, 0, 0], [], [], [69, 70, 71, 0], [], [], [], [73, 74, 75, 76, 0], [], [], [], []]
def csh (o : Nat) : Nat × Nat := cshL.getD o (99, 0)
def crf (o j : Nat) : Nat := (crfL.getD o []).getD j 0

def mshL : List (Nat × Nat) := [(13, 45), (0, 24), (0, 6), (0, 6), (0, 12), (0, 160), (0, 1200), (0, 24), (0, 36), (0, 3), (0, 4), (0, 4), (0, 160), (0, 43), (0, 96), (0, 200), (0, 200), (0, 6), (0, 8), (0, 8), (0, 8), (0, 6), (0, 6), (0, 8)]
def mrfL : List (List Nat) := [[0, 1, 0, 2, 3, 4, 5, 0, 6, 7, 0, 0, 0, 8, 9, 10, 11, 12, 13, 0, 0, 0, 0, 14, 15, 0, 0, 0, 16, 17, 18, 19, 20, 0, 0, 0, 0, 21, 22, 0, 0, 0, 0, 0, 23], [], [], [], [], [], [], [], [], [], [], [], [], [], [], [], [], [], [], [], [], [], [], []]
def msh (o : Nat) : Nat × Nat := mshL.getD o (99, 0)
def mrf (o j : Nat) : Nat := (mrfL.getD o []).getD j 0

def fkL : List (List Bool) := [[false, false, false], [true, true, true, false], [true, true, true, true, true, true, true, true, false, false, false, false], [true, true, true, true, true], [true, true, true, true, false], [true, false, false, false, false], [true, false, false], [true, true, true, false, false], [true, true, true, false, false], [true, false, false], [true, true, true, true, true, true, true, true, true, true, true, true, false, false, false, false, false], [false, true, false, true, true, true, true, false, true, true, false, false, false, true, true, true, true, true, true, false, false, false, false, true, true, false, false, false, true, true, true, true, true, false, false, false, false, true, true, false, false, false, false, false, true]]
def fk (c j : Nat) : Bool := (fkL.getD c []).getD j false


/-- shape: how many cells, what each is, what its references are -/
abbrev SH : Type := Nat × (Nat → Nat × Nat) × (Nat → Nat → Nat)
def SC : SH := (77, csh, crf)
def SM : SH := (24, msh, mrf)
/-- a world: shape, addresses, class ids, array classes, their types, strings -/
abbrev WT : Type := SH × (Nat → Nat) × va_G × ClassId × (Nat → ClassId) × List (ClassId × FieldType) × (Nat → Nat) × (Nat → Nat) × Nat
abbrev wN (ω : WT) : Nat := ω.1.1
abbrev wsh (ω : WT) : Nat → Nat × Nat := ω.1.2.1
abbrev wrf (ω : WT) : Nat → Nat → Nat := ω.1.2.2
abbrev wad (ω : WT) : Nat → Nat := ω.2.1
abbrev wD (ω : WT) : va_G := ω.2.2.1
abbrev wcI (ω : WT) : ClassId := ω.2.2.2.1
abbrev wcR (ω : WT) : Nat → ClassId := ω.2.2.2.2.1
abbrev wty (ω : WT) : List (ClassId × FieldType) := ω.2.2.2.2.2.1
abbrev wK (ω : WT) : Nat → Nat := ω.2.2.2.2.2.2.1
abbrev wV (ω : WT) : Nat → Nat := ω.2.2.2.2.2.2.2.1
abbrev wT (ω : WT) : Nat := ω.2.2.2.2.2.2.2.2
def cellf (ω : WT) (σ : M2) (i j : Nat) : Value := if fk ((wsh ω i).1 - 2) j = true then .ref (wad ω (wrf ω i j)) else .int (σ i j)
def celle (ω : WT) (σ : M2) (i : Nat) : va_E :=
  if (wsh ω i).1 = 0 then .inl (wcI ω, (wsh ω i).2, .inl (σ i))
  else if (wsh ω i).1 = 1 then .inl (wcR ω i, (wsh ω i).2, .inr (.inr (.inr (.inr (fun k => some (wad ω (wrf ω i k)))))))
  else .inr ((wsh ω i).1 - 2, (List.range (wsh ω i).2).map (cellf ω σ i))
def wld (ω : WT) (σ : M2) : va_W := (List.range (wN ω)).map (fun i => (wad ω i, celle ω σ i))
theorem wld_at (ω : WT) (σ : M2) {i : Nat} (h : i < wN ω) : (wld ω σ)[i]? = some (wad ω i, celle ω σ i) := by
  simp [wld, List.getElem?_map, List.getElem?_range h]
theorem wld_inv (ω : WT) (σ : M2) {i : Nat} {q : Nat × va_E} (h : (wld ω σ)[i]? = some q) : i < wN ω ∧ q = (wad ω i, celle ω σ i) := by
  have hl : i < wN ω := by
    have := (List.getElem?_eq_some_iff.mp h).1
    simpa [wld] using this
  rw [wld_at ω σ hl] at h
  exact ⟨hl, (Option.some.inj h).symm⟩
theorem celle_i {ω : WT} {σ : M2} {i n : Nat} (h : wsh ω i = (0, n)) : celle ω σ i = .inl (wcI ω, n, .inl (σ i)) := by simp [celle, h]
theorem celle_r {ω : WT} {σ : M2} {i n : Nat} (h : wsh ω i = (1, n)) : celle ω σ i = .inl (wcR ω i, n, .inr (.inr (.inr (.inr (fun k => some (wad ω (wrf ω i k))))))) := by simp [celle, h]
theorem celle_o {ω : WT} {σ : M2} {i c n : Nat} (h : wsh ω i = (c + 2, n)) : celle ω σ i = .inr (c, (List.range n).map (cellf ω σ i)) := by simp [celle, h]
theorem celle_ne {ω : WT} {σ : M2} {o i k : Nat} {x : Int32} (h : i ≠ o) : celle ω (up σ o k x) i = celle ω σ i := by
  have e : up σ o k x i = σ i := up_other h
  have e2 : cellf ω (up σ o k x) i = cellf ω σ i := by funext j; simp only [cellf, e]
  simp only [celle, e, e2]
theorem wld_set {ω : WT} {σ : M2} {o k : Nat} {x : Int32} {e : va_E} (ho : o < wN ω) (he : celle ω (up σ o k x) o = e) : (wld ω σ).set o (wad ω o, e) = wld ω (up σ o k x) := by
  apply List.ext_getElem?
  intro i
  by_cases hi : i < wN ω
  · rw [wld_at ω _ hi]
    by_cases hio : i = o
    · subst hio
      rw [List.getElem?_set_self (by simpa [wld] using hi), he]
    · rw [List.getElem?_set_ne (Ne.symm hio), wld_at ω σ hi, celle_ne hio]
  · rw [List.getElem?_eq_none (by simpa [wld] using hi), List.getElem?_eq_none (by simpa [wld] using hi)]
/-- the addresses are apart; nothing lies beyond; the arrays' classes are among the types -/
def Inj (ω : WT) : Prop := (∀ i j, i < wN ω → j < wN ω → wad ω i = wad ω j → i = j) ∧ (∀ o, wN ω ≤ o → (wsh ω o).1 = 99) ∧ (∃ t : Nat, (wty ω)[t]? = some (wcI ω, FieldType.int)) ∧ ∀ o n, wsh ω o = (1, n) → ∃ (t : Nat) (ty : FieldType), (wty ω)[t]? = some (wcR ω o, ty) ∧ ty.isReference = true
def wA (ω : WT) : Nat → Prop := fun q => ∃ i, i < wN ω ∧ q = wad ω i
theorem Inj.D {ω : WT} (h : Inj ω) (σ : M2) : va_D (wA ω) (wld ω σ) := by
  refine ⟨fun i j p q hi hj hpq => ?_, fun k q hk => ?_⟩
  · obtain ⟨h1, rfl⟩ := wld_inv ω σ hi
    obtain ⟨h2, rfl⟩ := wld_inv ω σ hj
    exact h.1 i j h1 h2 hpq
  · obtain ⟨h1, rfl⟩ := wld_inv ω σ hk
    exact ⟨k, h1, rfl⟩
theorem Inj.lt {ω : WT} (h : Inj ω) {o t n : Nat} (hs : wsh ω o = (t, n)) (ht : t ≠ 99) : o < wN ω := by
  rcases Nat.lt_or_ge o (wN ω) with q | q
  · exact q
  · exact absurd ((by rw [hs] : (wsh ω o).1 = t).symm.trans (h.2.1 o q)) ht
