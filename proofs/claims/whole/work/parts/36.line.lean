/-! who comes in: the line on both sides -/
theorem el0 { R : Type} {b : (M2 → Option R) → M2 → Option R} (I : Nat → M2 → Prop) (Q : Option R → Prop) (h : ∀ (k : M2 → Option R) n  σ, I n  σ → Q (b k  σ) ∨ (∃ m  s, m < n ∧ I m  s ∧ b k  σ = k  s)) : ∀ n fu  σ, n < fu → I n  σ → Q (wl0 b fu  σ) := by
  intro n
  induction n using Nat.strongRecOn with
  | ind n ih =>
    intro fu  σ hf hI
    obtain ⟨fu, rfl⟩ : ∃ q, fu = q + 1 := ⟨fu - 1, by omega⟩
    rcases h (wl0 b fu) n  σ hI with hr | ⟨m, s, hm, hI', he⟩
    · exact hr
    · show Q (b (wl0 b fu)  σ)
      rw [he]
      exact ih m hm fu  s (by omega) hI'
theorem el1 {A0 R : Type} {b : (A0 → M2 → Option R) → A0 → M2 → Option R} (I : Nat → A0 → M2 → Prop) (Q : Option R → Prop) (h : ∀ (k : A0 → M2 → Option R) n a0 σ, I n a0 σ → Q (b k a0 σ) ∨ (∃ m x0 s, m < n ∧ I m x0 s ∧ b k a0 σ = k x0 s)) : ∀ n fu a0 σ, n < fu → I n a0 σ → Q (wl1 b fu a0 σ) := by
  intro n
  induction n using Nat.strongRecOn with
  | ind n ih =>
    intro fu a0 σ hf hI
    obtain ⟨fu, rfl⟩ : ∃ q, fu = q + 1 := ⟨fu - 1, by omega⟩
    rcases h (wl1 b fu) n a0 σ hI with hr | ⟨m, x0, s, hm, hI', he⟩
    · exact hr
    · show Q (b (wl1 b fu) a0 σ)
      rw [he]
      exact ih m hm fu x0 s (by omega) hI'
theorem el2 {A0 A1 R : Type} {b : (A0 → A1 → M2 → Option R) → A0 → A1 → M2 → Option R} (I : Nat → A0 → A1 → M2 → Prop) (Q : Option R → Prop) (h : ∀ (k : A0 → A1 → M2 → Option R) n a0 a1 σ, I n a0 a1 σ → Q (b k a0 a1 σ) ∨ (∃ m x0 x1 s, m < n ∧ I m x0 x1 s ∧ b k a0 a1 σ = k x0 x1 s)) : ∀ n fu a0 a1 σ, n < fu → I n a0 a1 σ → Q (wl2 b fu a0 a1 σ) := by
  intro n
  induction n using Nat.strongRecOn with
  | ind n ih =>
    intro fu a0 a1 σ hf hI
    obtain ⟨fu, rfl⟩ : ∃ q, fu = q + 1 := ⟨fu - 1, by omega⟩
    rcases h (wl2 b fu) n a0 a1 σ hI with hr | ⟨m, x0, x1, s, hm, hI', he⟩
    · exact hr
    · show Q (b (wl2 b fu) a0 a1 σ)
      rw [he]
      exact ih m hm fu x0 x1 s (by omega) hI'
theorem el3 {A0 A1 A2 R : Type} {b : (A0 → A1 → A2 → M2 → Option R) → A0 → A1 → A2 → M2 → Option R} (I : Nat → A0 → A1 → A2 → M2 → Prop) (Q : Option R → Prop) (h : ∀ (k : A0 → A1 → A2 → M2 → Option R) n a0 a1 a2 σ, I n a0 a1 a2 σ → Q (b k a0 a1 a2 σ) ∨ (∃ m x0 x1 x2 s, m < n ∧ I m x0 x1 x2 s ∧ b k a0 a1 a2 σ = k x0 x1 x2 s)) : ∀ n fu a0 a1 a2 σ, n < fu → I n a0 a1 a2 σ → Q (wl3 b fu a0 a1 a2 σ) := by
  intro n
  induction n using Nat.strongRecOn with
  | ind n ih =>
    intro fu a0 a1 a2 σ hf hI
    obtain ⟨fu, rfl⟩ : ∃ q, fu = q + 1 := ⟨fu - 1, by omega⟩
    rcases h (wl3 b fu) n a0 a1 a2 σ hI with hr | ⟨m, x0, x1, x2, s, hm, hI', he⟩
    · exact hr
    · show Q (b (wl3 b fu) a0 a1 a2 σ)
      rw [he]
      exact ih m hm fu x0 x1 x2 s (by omega) hI'
/-- the place behind all that are no worse -/
def pos (g : Nat → Int32) (s : Int32) : Nat → Nat
  | 0 => 0
  | m + 1 => if s ≤ g m then m + 1 else pos g s m
theorem pos_le (g : Nat → Int32) (s : Int32) : ∀ m, pos g s m ≤ m
  | 0 => Nat.le_refl _
  | m + 1 => by
    unfold pos
    by_cases h : s ≤ g m
    · rw [if_pos h]; exact Nat.le_refl _
    · rw [if_neg h]; exact Nat.le_succ_of_le (pos_le g s m)
theorem pos_ext {g g' : Nat → Int32} {s : Int32} : ∀ m, (∀ j, j < m → g j = g' j) → pos g s m = pos g' s m
  | 0, _ => rfl
  | m + 1, h => by
    unfold pos
    rw [h m (by omega), pos_ext m (fun j hj => h j (by omega))]
/-- x put in at p among m: those behind it one on -/
def insAt (f : Nat → Int32) (p m : Nat) (x : Int32) (j : Nat) : Int32 := if j < p then f j else if j = p then x else if j ≤ m then f (j - 1) else f j
/-- a state of the class's shifting -/
theorem behind_eq {m c : Nat} {s : Int32} {σ0 : M2} {fu : Nat} (hm : m < 8) (hfu : 9 < fu) :
    ∃ σ', F2_comesBehind fu (nI m) (nI c) s σ0 = some ((), σ') ∧ (∀ j, σ' 43 j = insAt (σ0 43) (pos (σ0 45) s m) m (nI c) j) ∧ (∀ j, σ' 45 j = insAt (σ0 45) (pos (σ0 45) s m) m s j) ∧ Fr (fun o _ => o = 43 ∨ o = 45) σ0 σ' := by
  unfold F2_comesBehind F2_comesBehind_6
  have key := sl2 (R := Unit × M2) (A0 := Int32) (A1 := Int32) (b := fun (k6 : Int32 → Int32 → M2 → Option (Unit × M2)) (x4 : Int32) (x5 : Int32) (σ : M2) => if x5 ≤ 0 then F2_comesBehind_78 fu (nI c) s x4 σ else bnd (F11_at 45 (x5 - (1 : Int32)) σ) (fun r2 s3 => if s ≤ r2 then F2_comesBehind_78 fu (nI c) s x4 s3 else bnd (F11_at 45 (x5 - (1 : Int32)) s3) (fun r6 s7 => bnd (F11_set 45 x5 r6 s7) (fun r9 s10 => bnd (F11_at 43 (x5 - (1 : Int32)) s10) (fun r12 s13 => bnd (F11_set 43 x5 r12 s13) (fun r15 s16 => k6 (x5 - (1 : Int32)) (x5 + (-1)) s16))))))
    (fun i x4 x5 σ => x4 = nI i ∧ x5 = nI i ∧ i ≤ m ∧ pos (σ0 45) s i = pos (σ0 45) s m ∧ (∀ j, σ 43 j = if j ≤ i then σ0 43 j else if j ≤ m then σ0 43 (j - 1) else σ0 43 j) ∧ (∀ j, σ 45 j = if j ≤ i then σ0 45 j else if j ≤ m then σ0 45 (j - 1) else σ0 45 j) ∧ Fr (fun o _ => o = 43 ∨ o = 45) σ0 σ)
    (fun r => (∀ j, r.2 43 j = insAt (σ0 43) (pos (σ0 45) s m) m (nI c) j) ∧ (∀ j, r.2 45 j = insAt (σ0 45) (pos (σ0 45) s m) m s j) ∧ Fr (fun o _ => o = 43 ∨ o = 45) σ0 r.2) ?_ m fu (nI m) (nI m) σ0 (by omega) ⟨rfl, rfl, Nat.le_refl _, rfl, fun j => ?_, fun j => ?_, Fr.rf⟩
  · obtain ⟨⟨⟨⟩, σ'⟩, h1, h2⟩ := key
    exact ⟨σ', h1, h2⟩
  · intro k i x4 x5 σ hI
    obtain ⟨rfl, rfl, him, hpos, h43, h45, hf⟩ := hI
    have fin : i = pos (σ0 45) s m → ∃ r, F2_comesBehind_78 fu (nI c) s (nI i) σ = some r ∧ (∀ j, r.2 43 j = insAt (σ0 43) (pos (σ0 45) s m) m (nI c) j) ∧ (∀ j, r.2 45 j = insAt (σ0 45) (pos (σ0 45) s m) m s j) ∧ Fr (fun o _ => o = 43 ∨ o = 45) σ0 r.2 := by
      intro hip
      refine ⟨((), up (up σ 45 i s) 43 i (nI c)), ?_, fun j => ?_, fun j => ?_, (hf.up (Or.inr rfl)).up (Or.inl rfl)⟩
      · unfold F2_comesBehind_78
        rw [fset (N := 8) (by decide) (by omega) (by omega), bnd_s, fset (N := 8) (by decide) (by omega) (by omega), bnd_s]
      · rw [← hip]
        show up (up σ 45 i s) 43 i (nI c) 43 j = _
        unfold insAt
        rw [up_at]
        by_cases h1 : j = i
        · rw [if_pos ⟨rfl, h1⟩, if_neg (by omega), if_pos h1]
        · rw [if_neg (fun e => h1 e.2), up_ne (by omega), h43]
          by_cases h2 : j < i
          · rw [if_pos (by omega), if_pos h2]
          · rw [if_neg (by omega), if_neg h2, if_neg h1]
      · rw [← hip]
        show up (up σ 45 i s) 43 i (nI c) 45 j = _
        unfold insAt
        rw [up_ne (by omega), up_at]
        by_cases h1 : j = i
        · rw [if_pos ⟨rfl, h1⟩, if_neg (by omega), if_pos h1]
        · rw [if_neg (fun e => h1 e.2), h45]
          by_cases h2 : j < i
          · rw [if_pos (by omega), if_pos h2]
          · rw [if_neg (by omega), if_neg h2, if_neg h1]
    by_cases hi0 : i = 0
    · left
      subst hi0
      rw [if_pos (by decide)]
      exact fin (by rw [← hpos]; rfl)
    · obtain ⟨q, rfl⟩ : ∃ q, i = q + 1 := ⟨i - 1, by omega⟩
      rw [if_neg (nI_nle (by omega) (by omega)), nI_pred, fat (N := 8) (by decide) (by omega) (by omega), bnd_s]
      have e45 : σ 45 q = σ0 45 q := by rw [h45, if_pos (by omega)]
      have e43 : σ 43 q = σ0 43 q := by rw [h43, if_pos (by omega)]
      by_cases hs : s ≤ σ 45 q
      · left
        rw [if_pos hs]
        refine fin ?_
        rw [← hpos]
        unfold pos
        rw [if_pos (by rw [← e45]; exact hs)]
      · right
        rw [if_neg hs, fat (N := 8) (by decide) (by omega) (by omega), bnd_s, fset (N := 8) (by decide) (by omega) (by omega), bnd_s, fat (N := 8) (by decide) (by omega) (by omega), bnd_s, fset (N := 8) (by decide) (by omega) (by omega), bnd_s, show nI (q + 1) + (-1 : Int32) = nI q from pk_m1 q]
        refine ⟨q, nI q, nI q, _, by omega, ⟨rfl, rfl, by omega, ?_, fun j => ?_, fun j => ?_, (hf.up (Or.inr rfl)).up (Or.inl rfl)⟩, rfl⟩
        · rw [← hpos]
          conv => rhs; unfold pos
          rw [if_neg (by rw [← e45]; exact hs)]
        · rw [up_at]
          by_cases h1 : j = q + 1
          · rw [if_pos ⟨rfl, h1⟩, if_neg (by omega), if_pos (by omega), up_ne (by omega), e43, h1]
            rfl
          · rw [if_neg (fun e => h1 e.2), up_ne (by omega), h43]
            by_cases h2 : j ≤ q
            · rw [if_pos (by omega), if_pos h2]
            · rw [if_neg (by omega), if_neg h2]
        · rw [up_ne (by omega), up_at]
          by_cases h1 : j = q + 1
          · rw [if_pos ⟨rfl, h1⟩, if_neg (by omega), if_pos (by omega), e45, h1]
            rfl
          · rw [if_neg (fun e => h1 e.2), h45]
            by_cases h2 : j ≤ q
            · rw [if_pos (by omega), if_pos h2]
            · rw [if_neg (by omega), if_neg h2]
  · by_cases h : j ≤ m
    · rw [if_pos h]
    · rw [if_neg h, if_neg h]
  · by_cases h : j ≤ m
    · rw [if_pos h]
    · rw [if_neg h, if_neg h]
