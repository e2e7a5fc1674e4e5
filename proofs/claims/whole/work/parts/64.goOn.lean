section
/-! the class's next order: what it does hangs on its row and on how many races there are alone -/
def LA (σ σ2 : M2) : Prop := (∀ k, k < 6 → σ 49 k = σ2 49 k) ∧ σ 5 4 = σ2 5 4
def LQ {α : Type} (σ : M2) (x y : Option (α × M2)) : Prop := ∀ v s2, y = some (v, s2) → ∃ s, x = some (v, s) ∧ LA s s2 ∧ Fr (fun o _ => o = 49) σ s
theorem LQ.ret {α : Type} {σ σ2 : M2} {v : α} (h : LA σ σ2) : LQ σ (some (v, σ)) (some (v, σ2)) := fun v' s2 e => by
  obtain ⟨rfl, rfl⟩ := s2_inj e
  exact ⟨_, rfl, h, Fr.rf⟩
theorem LQ.bnd {α β : Type} {σ : M2} {x y : Option (α × M2)} {f g : α → M2 → Option (β × M2)} (h : LQ σ x y) (k : ∀ v s s2, LA s s2 → LQ s (f v s) (g v s2)) : LQ σ (bnd x f) (bnd y g) := fun v s2 e => by
  cases y with
  | none => cases e
  | some p =>
    obtain ⟨u, t2⟩ := p
    obtain ⟨t, h1, h2, h3⟩ := h u t2 rfl
    rw [bnd_s] at e
    obtain ⟨s, k1, k2, k3⟩ := k u t t2 h2 v s2 e
    rw [h1, bnd_s]
    exact ⟨s, k1, k2, h3.tr k3⟩
theorem at_L {σ σ2 : M2} {i : Int32} (h : LA σ σ2) : LQ σ (F11_at 49 i σ) (F11_at 49 i σ2) := by
  unfold F11_at
  by_cases c0 : i < 0
  · rw [if_pos c0, if_pos c0]; exact LQ.ret h
  rw [if_neg c0, if_neg c0, gd_t (isA_t (N := 6) (by decide)), gd_t (isA_t (N := 6) (by decide))]
  obtain ⟨j, hj, rfl⟩ := nI_of c0
  show LQ σ (if nI 6 ≤ nI j then _ else _) (if nI 6 ≤ nI j then _ else _)
  by_cases c1 : 6 ≤ j
  · rw [if_pos (nI_le c1 hj), if_pos (nI_le c1 hj)]; exact LQ.ret h
  · rw [if_neg (nI_ge (by omega) (by omega)), if_neg (nI_ge (by omega) (by omega))]
    have e : csh 49 = (0, 6) := by decide
    rw [e, gd_t (inb_t (N := 6) (by omega) (by omega)), gd_t (inb_t (N := 6) (by omega) (by omega)), nI_c (by omega), h.1 j (by omega)]
    exact LQ.ret h
theorem set_L {σ σ2 : M2} {i x : Int32} (h : LA σ σ2) : LQ σ (F11_set 49 i x σ) (F11_set 49 i x σ2) := by
  unfold F11_set
  by_cases c0 : i < 0
  · rw [if_pos c0, if_pos c0]; exact LQ.ret h
  rw [if_neg c0, if_neg c0, gd_t (isA_t (N := 6) (by decide)), gd_t (isA_t (N := 6) (by decide))]
  obtain ⟨j, hj, rfl⟩ := nI_of c0
  show LQ σ (if nI 6 ≤ nI j then _ else _) (if nI 6 ≤ nI j then _ else _)
  by_cases c1 : 6 ≤ j
  · rw [if_pos (nI_le c1 hj), if_pos (nI_le c1 hj)]; exact LQ.ret h
  · rw [if_neg (nI_ge (by omega) (by omega)), if_neg (nI_ge (by omega) (by omega))]
    have e : csh 49 = (0, 6) := by decide
    rw [e, gd_t (inb_t (N := 6) (by omega) (by omega)), gd_t (inb_t (N := 6) (by omega) (by omega)), nI_c (by omega)]
    intro v s2 e2
    obtain ⟨rfl, rfl⟩ := s2_inj e2
    refine ⟨_, rfl, ⟨fun k hk => ?_, ?_⟩, Fr.rf.up rfl⟩
    · by_cases hkj : k = j
      · rw [hkj, up_eq, up_eq]
      · rw [up_ne (by omega), up_ne (by omega)]; exact h.1 k hk
    · rw [up_ne (by omega), up_ne (by omega)]; exact h.2
theorem swap_L {σ σ2 : M2} {i k : Int32} (h : LA σ σ2) : LQ σ (F4_swap i k σ) (F4_swap i k σ2) := by
  unfold F4_swap F11_replaced
  refine (at_L h).bnd (fun v s s2 h => ?_)
  refine LQ.bnd ((at_L h).bnd (fun v s s2 h => ?_)) (fun v s s2 h => ?_)
  · exact (set_L h).bnd (fun _ s s2 h => LQ.ret h)
  · exact (set_L h).bnd (fun _ s s2 h => LQ.ret h)
theorem wl2_L {b b2 : (Int32 → Int32 → M2 → Option (Int32 × M2)) → Int32 → Int32 → M2 → Option (Int32 × M2)} (hb : ∀ k k2, (∀ x y s s2, LA s s2 → LQ s (k x y s) (k2 x y s2)) → ∀ x y s s2, LA s s2 → LQ s (b k x y s) (b2 k2 x y s2)) : ∀ fu2 fu, fu2 ≤ fu → ∀ x y s s2, LA s s2 → LQ s (wl2 b fu x y s) (wl2 b2 fu2 x y s2) := by
  intro fu2
  induction fu2 with
  | zero => intro fu _ x y s s2 _ v t e; cases e
  | succ n ih =>
    intro fu hf x y s s2 h
    obtain ⟨m, rfl⟩ : ∃ m, fu = m + 1 := ⟨fu - 1, by omega⟩
    exact hb (wl2 b m) (wl2 b2 n) (fun x y s s2 h => ih m (by omega) x y s s2 h) x y s s2 h
theorem goOn125_L {fu fu2 : Nat} (hf : fu2 ≤ fu) {x1 x3 x4 : Int32} {σ σ2 : M2} (h : LA σ σ2) : LQ σ (F4_goOn_125 fu x1 x3 x4 σ) (F4_goOn_125 fu2 x1 x3 x4 σ2) := by
  unfold F4_goOn_125
  refine wl2_L (fun k k2 hk x y s s2 h => ?_) fu2 fu hf x3 x4 σ σ2 h
  by_cases c : y ≤ x
  · rw [if_pos c, if_pos c]; exact LQ.ret h
  · rw [if_neg c, if_neg c]
    exact (swap_L h).bnd (fun _ s s2 h => hk _ _ s s2 h)
theorem goOn104_L {fu fu2 : Nat} (hf : fu2 ≤ fu) {x1 x2 : Int32} {σ σ2 : M2} (h : LA σ σ2) : LQ σ (F4_goOn_104 fu x1 x2 σ) (F4_goOn_104 fu2 x1 x2 σ2) := by
  unfold F4_goOn_104
  refine (swap_L h).bnd (fun _ s s2 h => ?_)
  rw [h.2]
  exact goOn125_L hf h
theorem goOn70_L {fu fu2 : Nat} (hf : fu2 ≤ fu) {x1 x2 x3 : Int32} {σ σ2 : M2} (h : LA σ σ2) : LQ σ (F4_goOn_70 fu x1 x2 x3 σ) (F4_goOn_70 fu2 x1 x2 x3 σ2) := by
  unfold F4_goOn_70
  refine wl2_L (fun k k2 hk x y s s2 h => ?_) fu2 fu hf x2 x3 σ σ2 h
  by_cases c : (6 : Int32) ≤ y
  · rw [if_pos c, if_pos c]; exact goOn104_L hf h
  · rw [if_neg c, if_neg c]
    refine (at_L h).bnd (fun v s s2 h => (at_L h).bnd (fun u s s2 h => ?_))
    by_cases c2 : u ≤ v
    · rw [if_pos c2, if_pos c2]; exact goOn104_L hf h
    · rw [if_neg c2, if_neg c2]; exact hk _ _ s s2 h
theorem goOn52_L {fu fu2 : Nat} (hf : fu2 ≤ fu) {x1 : Int32} {σ σ2 : M2} (h : LA σ σ2) : LQ σ (F4_goOn_52 fu x1 σ) (F4_goOn_52 fu2 x1 σ2) := by
  unfold F4_goOn_52
  by_cases c : 0 ≤ x1
  · rw [if_pos c, if_pos c, h.2]; exact goOn70_L hf h
  · rw [if_neg c, if_neg c]; exact LQ.ret h
theorem goOn_L {fu fu2 : Nat} (hf : fu2 ≤ fu) {σ σ2 : M2} (h : LA σ σ2) : LQ σ (F4_goOn fu σ) (F4_goOn fu2 σ2) := by
  unfold F4_goOn F4_goOn_12
  rw [h.2]
  refine wl2_L (fun k k2 hk x y s s2 h => ?_) fu2 fu hf _ _ σ σ2 h
  by_cases c : (6 : Int32) ≤ y
  · rw [if_pos c, if_pos c]; exact goOn52_L hf h
  rw [if_neg c, if_neg c]
  by_cases c1 : x < 0
  · rw [if_pos c1, if_pos c1]; exact goOn52_L hf h
  rw [if_neg c1, if_neg c1]
  refine (at_L h).bnd (fun v s s2 h => (at_L h).bnd (fun u s s2 h => ?_))
  by_cases c2 : v ≤ u
  · rw [if_pos c2, if_pos c2]; exact goOn52_L hf h
  · rw [if_neg c2, if_neg c2]; exact hk _ _ s s2 h
/-- the row of an order in the class's memory -/
def ordC (r N : Nat) (σ : M2) : Prop := ∀ k, k < 6 → σ 49 k = cmem r N 49 k
theorem cmem_in {r N k : Nat} (h : k < r) : cmem r N 49 k = nI (dg r N k) := by
  show (if k < r then _ else _) = _
  rw [if_pos h]
theorem goOn_next {r N : Nat} {σ : M2} {fu : Nat} (h6 : r ≤ 6) (hN : N < r ^ r) (hp : isP r N = true) (ho : ordC r N σ) (h5 : σ 5 4 = nI r) (hc : chk r N = true) (hfu : 20 ≤ fu) :
    rk r N < 720 ∧ ∃ v σ', F4_goOn fu σ = some (v, σ') ∧ Fr (fun o _ => o = 49) σ σ' ∧ ((r ^ r = nx r N ∧ v = -1) ∨ (nx r N < r ^ r ∧ isP r (nx r N) = true ∧ ∃ pl, v = nI pl ∧ pl < r ∧ rk r (nx r N) = rk r N + 1 ∧ ordC r (nx r N) σ' ∧ ∀ k, k < pl → dg r (nx r N) k = dg r N k)) := by
  obtain ⟨h1, v, s2, h2, h3⟩ := chk_1 hc
  obtain ⟨n1, n2, n3⟩ := nx_le hN
  obtain ⟨σ', g1, g2, g3⟩ := goOn_L hfu (σ2 := cmem r N) ⟨ho, by rw [h5]; rfl⟩ v s2 h2
  refine ⟨h1, v, σ', g1, g3, ?_⟩
  rcases h3 with ⟨h4, h5⟩ | ⟨h4, pl, h5, h7, h8, h9, h10⟩
  · exact Or.inl ⟨by omega, h5⟩
  · exact Or.inr ⟨h4, n3 h4, pl, h5, h7, h8, fun k hk => by rw [g2.1 k hk]; exact h9 k hk, fun k hk => h10 k hk (by omega)⟩
end
