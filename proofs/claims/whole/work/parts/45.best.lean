/-! what would be best -/
theorem ep00 {  R R' : Type} {b : (M2 → Option R) → M2 → Option R} {b' : (M2 → Option R') → M2 → Option R'} (I : Nat → M2 → M2 → Prop) (Q : Option R → Option R' → Prop) (h : ∀ (k : M2 → Option R) (k' : M2 → Option R') n  σ  τ, I n  σ  τ → Q (b k  σ) (b' k'  τ) ∨ (∃ m  s  t, m < n ∧ I m  s  t ∧ b k  σ = k  s ∧ b' k'  τ = k'  t)) : ∀ n fu fu'  σ  τ, n < fu → n < fu' → I n  σ  τ → Q (wl0 b fu  σ) (wl0 b' fu'  τ) := by
  intro n
  induction n using Nat.strongRecOn with
  | ind n ih =>
    intro fu fu'  σ  τ hf hf' hI
    obtain ⟨fu, rfl⟩ : ∃ q, fu = q + 1 := ⟨fu - 1, by omega⟩
    obtain ⟨fu', rfl⟩ : ∃ q, fu' = q + 1 := ⟨fu' - 1, by omega⟩
    rcases h (wl0 b fu) (wl0 b' fu') n  σ  τ hI with hr | ⟨m, s, t, hm, hI', he, he'⟩
    · exact hr
    · show Q (b (wl0 b fu)  σ) (b' (wl0 b' fu')  τ)
      rw [he, he']
      exact ih m hm fu fu'  s  t (by omega) (by omega) hI'
theorem ep01 { B0 R R' : Type} {b : (M2 → Option R) → M2 → Option R} {b' : (B0 → M2 → Option R') → B0 → M2 → Option R'} (I : Nat → M2 → B0 → M2 → Prop) (Q : Option R → Option R' → Prop) (h : ∀ (k : M2 → Option R) (k' : B0 → M2 → Option R') n  σ c0 τ, I n  σ c0 τ → Q (b k  σ) (b' k' c0 τ) ∨ (∃ m  s y0 t, m < n ∧ I m  s y0 t ∧ b k  σ = k  s ∧ b' k' c0 τ = k' y0 t)) : ∀ n fu fu'  σ c0 τ, n < fu → n < fu' → I n  σ c0 τ → Q (wl0 b fu  σ) (wl1 b' fu' c0 τ) := by
  intro n
  induction n using Nat.strongRecOn with
  | ind n ih =>
    intro fu fu'  σ c0 τ hf hf' hI
    obtain ⟨fu, rfl⟩ : ∃ q, fu = q + 1 := ⟨fu - 1, by omega⟩
    obtain ⟨fu', rfl⟩ : ∃ q, fu' = q + 1 := ⟨fu' - 1, by omega⟩
    rcases h (wl0 b fu) (wl1 b' fu') n  σ c0 τ hI with hr | ⟨m, s, y0, t, hm, hI', he, he'⟩
    · exact hr
    · show Q (b (wl0 b fu)  σ) (b' (wl1 b' fu') c0 τ)
      rw [he, he']
      exact ih m hm fu fu'  s y0 t (by omega) (by omega) hI'
theorem ep02 { B0 B1 R R' : Type} {b : (M2 → Option R) → M2 → Option R} {b' : (B0 → B1 → M2 → Option R') → B0 → B1 → M2 → Option R'} (I : Nat → M2 → B0 → B1 → M2 → Prop) (Q : Option R → Option R' → Prop) (h : ∀ (k : M2 → Option R) (k' : B0 → B1 → M2 → Option R') n  σ c0 c1 τ, I n  σ c0 c1 τ → Q (b k  σ) (b' k' c0 c1 τ) ∨ (∃ m  s y0 y1 t, m < n ∧ I m  s y0 y1 t ∧ b k  σ = k  s ∧ b' k' c0 c1 τ = k' y0 y1 t)) : ∀ n fu fu'  σ c0 c1 τ, n < fu → n < fu' → I n  σ c0 c1 τ → Q (wl0 b fu  σ) (wl2 b' fu' c0 c1 τ) := by
  intro n
  induction n using Nat.strongRecOn with
  | ind n ih =>
    intro fu fu'  σ c0 c1 τ hf hf' hI
    obtain ⟨fu, rfl⟩ : ∃ q, fu = q + 1 := ⟨fu - 1, by omega⟩
    obtain ⟨fu', rfl⟩ : ∃ q, fu' = q + 1 := ⟨fu' - 1, by omega⟩
    rcases h (wl0 b fu) (wl2 b' fu') n  σ c0 c1 τ hI with hr | ⟨m, s, y0, y1, t, hm, hI', he, he'⟩
    · exact hr
    · show Q (b (wl0 b fu)  σ) (b' (wl2 b' fu') c0 c1 τ)
      rw [he, he']
      exact ih m hm fu fu'  s y0 y1 t (by omega) (by omega) hI'
theorem ep03 { B0 B1 B2 R R' : Type} {b : (M2 → Option R) → M2 → Option R} {b' : (B0 → B1 → B2 → M2 → Option R') → B0 → B1 → B2 → M2 → Option R'} (I : Nat → M2 → B0 → B1 → B2 → M2 → Prop) (Q : Option R → Option R' → Prop) (h : ∀ (k : M2 → Option R) (k' : B0 → B1 → B2 → M2 → Option R') n  σ c0 c1 c2 τ, I n  σ c0 c1 c2 τ → Q (b k  σ) (b' k' c0 c1 c2 τ) ∨ (∃ m  s y0 y1 y2 t, m < n ∧ I m  s y0 y1 y2 t ∧ b k  σ = k  s ∧ b' k' c0 c1 c2 τ = k' y0 y1 y2 t)) : ∀ n fu fu'  σ c0 c1 c2 τ, n < fu → n < fu' → I n  σ c0 c1 c2 τ → Q (wl0 b fu  σ) (wl3 b' fu' c0 c1 c2 τ) := by
  intro n
  induction n using Nat.strongRecOn with
  | ind n ih =>
    intro fu fu'  σ c0 c1 c2 τ hf hf' hI
    obtain ⟨fu, rfl⟩ : ∃ q, fu = q + 1 := ⟨fu - 1, by omega⟩
    obtain ⟨fu', rfl⟩ : ∃ q, fu' = q + 1 := ⟨fu' - 1, by omega⟩
    rcases h (wl0 b fu) (wl3 b' fu') n  σ c0 c1 c2 τ hI with hr | ⟨m, s, y0, y1, y2, t, hm, hI', he, he'⟩
    · exact hr
    · show Q (b (wl0 b fu)  σ) (b' (wl3 b' fu') c0 c1 c2 τ)
      rw [he, he']
      exact ih m hm fu fu'  s y0 y1 y2 t (by omega) (by omega) hI'
theorem ep10 {A0  R R' : Type} {b : (A0 → M2 → Option R) → A0 → M2 → Option R} {b' : (M2 → Option R') → M2 → Option R'} (I : Nat → A0 → M2 → M2 → Prop) (Q : Option R → Option R' → Prop) (h : ∀ (k : A0 → M2 → Option R) (k' : M2 → Option R') n a0 σ  τ, I n a0 σ  τ → Q (b k a0 σ) (b' k'  τ) ∨ (∃ m x0 s  t, m < n ∧ I m x0 s  t ∧ b k a0 σ = k x0 s ∧ b' k'  τ = k'  t)) : ∀ n fu fu' a0 σ  τ, n < fu → n < fu' → I n a0 σ  τ → Q (wl1 b fu a0 σ) (wl0 b' fu'  τ) := by
  intro n
  induction n using Nat.strongRecOn with
  | ind n ih =>
    intro fu fu' a0 σ  τ hf hf' hI
    obtain ⟨fu, rfl⟩ : ∃ q, fu = q + 1 := ⟨fu - 1, by omega⟩
    obtain ⟨fu', rfl⟩ : ∃ q, fu' = q + 1 := ⟨fu' - 1, by omega⟩
    rcases h (wl1 b fu) (wl0 b' fu') n a0 σ  τ hI with hr | ⟨m, x0, s, t, hm, hI', he, he'⟩
    · exact hr
    · show Q (b (wl1 b fu) a0 σ) (b' (wl0 b' fu')  τ)
      rw [he, he']
      exact ih m hm fu fu' x0 s  t (by omega) (by omega) hI'
theorem ep11 {A0 B0 R R' : Type} {b : (A0 → M2 → Option R) → A0 → M2 → Option R} {b' : (B0 → M2 → Option R') → B0 → M2 → Option R'} (I : Nat → A0 → M2 → B0 → M2 → Prop) (Q : Option R → Option R' → Prop) (h : ∀ (k : A0 → M2 → Option R) (k' : B0 → M2 → Option R') n a0 σ c0 τ, I n a0 σ c0 τ → Q (b k a0 σ) (b' k' c0 τ) ∨ (∃ m x0 s y0 t, m < n ∧ I m x0 s y0 t ∧ b k a0 σ = k x0 s ∧ b' k' c0 τ = k' y0 t)) : ∀ n fu fu' a0 σ c0 τ, n < fu → n < fu' → I n a0 σ c0 τ → Q (wl1 b fu a0 σ) (wl1 b' fu' c0 τ) := by
  intro n
  induction n using Nat.strongRecOn with
  | ind n ih =>
    intro fu fu' a0 σ c0 τ hf hf' hI
    obtain ⟨fu, rfl⟩ : ∃ q, fu = q + 1 := ⟨fu - 1, by omega⟩
    obtain ⟨fu', rfl⟩ : ∃ q, fu' = q + 1 := ⟨fu' - 1, by omega⟩
    rcases h (wl1 b fu) (wl1 b' fu') n a0 σ c0 τ hI with hr | ⟨m, x0, s, y0, t, hm, hI', he, he'⟩
    · exact hr
    · show Q (b (wl1 b fu) a0 σ) (b' (wl1 b' fu') c0 τ)
      rw [he, he']
      exact ih m hm fu fu' x0 s y0 t (by omega) (by omega) hI'
theorem ep12 {A0 B0 B1 R R' : Type} {b : (A0 → M2 → Option R) → A0 → M2 → Option R} {b' : (B0 → B1 → M2 → Option R') → B0 → B1 → M2 → Option R'} (I : Nat → A0 → M2 → B0 → B1 → M2 → Prop) (Q : Option R → Option R' → Prop) (h : ∀ (k : A0 → M2 → Option R) (k' : B0 → B1 → M2 → Option R') n a0 σ c0 c1 τ, I n a0 σ c0 c1 τ → Q (b k a0 σ) (b' k' c0 c1 τ) ∨ (∃ m x0 s y0 y1 t, m < n ∧ I m x0 s y0 y1 t ∧ b k a0 σ = k x0 s ∧ b' k' c0 c1 τ = k' y0 y1 t)) : ∀ n fu fu' a0 σ c0 c1 τ, n < fu → n < fu' → I n a0 σ c0 c1 τ → Q (wl1 b fu a0 σ) (wl2 b' fu' c0 c1 τ) := by
  intro n
  induction n using Nat.strongRecOn with
  | ind n ih =>
    intro fu fu' a0 σ c0 c1 τ hf hf' hI
    obtain ⟨fu, rfl⟩ : ∃ q, fu = q + 1 := ⟨fu - 1, by omega⟩
    obtain ⟨fu', rfl⟩ : ∃ q, fu' = q + 1 := ⟨fu' - 1, by omega⟩
    rcases h (wl1 b fu) (wl2 b' fu') n a0 σ c0 c1 τ hI with hr | ⟨m, x0, s, y0, y1, t, hm, hI', he, he'⟩
    · exact hr
    · show Q (b (wl1 b fu) a0 σ) (b' (wl2 b' fu') c0 c1 τ)
      rw [he, he']
      exact ih m hm fu fu' x0 s y0 y1 t (by omega) (by omega) hI'
theorem ep13 {A0 B0 B1 B2 R R' : Type} {b : (A0 → M2 → Option R) → A0 → M2 → Option R} {b' : (B0 → B1 → B2 → M2 → Option R') → B0 → B1 → B2 → M2 → Option R'} (I : Nat → A0 → M2 → B0 → B1 → B2 → M2 → Prop) (Q : Option R → Option R' → Prop) (h : ∀ (k : A0 → M2 → Option R) (k' : B0 → B1 → B2 → M2 → Option R') n a0 σ c0 c1 c2 τ, I n a0 σ c0 c1 c2 τ → Q (b k a0 σ) (b' k' c0 c1 c2 τ) ∨ (∃ m x0 s y0 y1 y2 t, m < n ∧ I m x0 s y0 y1 y2 t ∧ b k a0 σ = k x0 s ∧ b' k' c0 c1 c2 τ = k' y0 y1 y2 t)) : ∀ n fu fu' a0 σ c0 c1 c2 τ, n < fu → n < fu' → I n a0 σ c0 c1 c2 τ → Q (wl1 b fu a0 σ) (wl3 b' fu' c0 c1 c2 τ) := by
  intro n
  induction n using Nat.strongRecOn with
  | ind n ih =>
    intro fu fu' a0 σ c0 c1 c2 τ hf hf' hI
    obtain ⟨fu, rfl⟩ : ∃ q, fu = q + 1 := ⟨fu - 1, by omega⟩
    obtain ⟨fu', rfl⟩ : ∃ q, fu' = q + 1 := ⟨fu' - 1, by omega⟩
    rcases h (wl1 b fu) (wl3 b' fu') n a0 σ c0 c1 c2 τ hI with hr | ⟨m, x0, s, y0, y1, y2, t, hm, hI', he, he'⟩
    · exact hr
    · show Q (b (wl1 b fu) a0 σ) (b' (wl3 b' fu') c0 c1 c2 τ)
      rw [he, he']
      exact ih m hm fu fu' x0 s y0 y1 y2 t (by omega) (by omega) hI'
theorem ep20 {A0 A1  R R' : Type} {b : (A0 → A1 → M2 → Option R) → A0 → A1 → M2 → Option R} {b' : (M2 → Option R') → M2 → Option R'} (I : Nat → A0 → A1 → M2 → M2 → Prop) (Q : Option R → Option R' → Prop) (h : ∀ (k : A0 → A1 → M2 → Option R) (k' : M2 → Option R') n a0 a1 σ  τ, I n a0 a1 σ  τ → Q (b k a0 a1 σ) (b' k'  τ) ∨ (∃ m x0 x1 s  t, m < n ∧ I m x0 x1 s  t ∧ b k a0 a1 σ = k x0 x1 s ∧ b' k'  τ = k'  t)) : ∀ n fu fu' a0 a1 σ  τ, n < fu → n < fu' → I n a0 a1 σ  τ → Q (wl2 b fu a0 a1 σ) (wl0 b' fu'  τ) := by
  intro n
  induction n using Nat.strongRecOn with
  | ind n ih =>
    intro fu fu' a0 a1 σ  τ hf hf' hI
    obtain ⟨fu, rfl⟩ : ∃ q, fu = q + 1 := ⟨fu - 1, by omega⟩
    obtain ⟨fu', rfl⟩ : ∃ q, fu' = q + 1 := ⟨fu' - 1, by omega⟩
    rcases h (wl2 b fu) (wl0 b' fu') n a0 a1 σ  τ hI with hr | ⟨m, x0, x1, s, t, hm, hI', he, he'⟩
    · exact hr
    · show Q (b (wl2 b fu) a0 a1 σ) (b' (wl0 b' fu')  τ)
      rw [he, he']
      exact ih m hm fu fu' x0 x1 s  t (by omega) (by omega) hI'
theorem ep21 {A0 A1 B0 R R' : Type} {b : (A0 → A1 → M2 → Option R) → A0 → A1 → M2 → Option R} {b' : (B0 → M2 → Option R') → B0 → M2 → Option R'} (I : Nat → A0 → A1 → M2 → B0 → M2 → Prop) (Q : Option R → Option R' → Prop) (h : ∀ (k : A0 → A1 → M2 → Option R) (k' : B0 → M2 → Option R') n a0 a1 σ c0 τ, I n a0 a1 σ c0 τ → Q (b k a0 a1 σ) (b' k' c0 τ) ∨ (∃ m x0 x1 s y0 t, m < n ∧ I m x0 x1 s y0 t ∧ b k a0 a1 σ = k x0 x1 s ∧ b' k' c0 τ = k' y0 t)) : ∀ n fu fu' a0 a1 σ c0 τ, n < fu → n < fu' → I n a0 a1 σ c0 τ → Q (wl2 b fu a0 a1 σ) (wl1 b' fu' c0 τ) := by
  intro n
  induction n using Nat.strongRecOn with
  | ind n ih =>
    intro fu fu' a0 a1 σ c0 τ hf hf' hI
    obtain ⟨fu, rfl⟩ : ∃ q, fu = q + 1 := ⟨fu - 1, by omega⟩
    obtain ⟨fu', rfl⟩ : ∃ q, fu' = q + 1 := ⟨fu' - 1, by omega⟩
    rcases h (wl2 b fu) (wl1 b' fu') n a0 a1 σ c0 τ hI with hr | ⟨m, x0, x1, s, y0, t, hm, hI', he, he'⟩
    · exact hr
    · show Q (b (wl2 b fu) a0 a1 σ) (b' (wl1 b' fu') c0 τ)
      rw [he, he']
      exact ih m hm fu fu' x0 x1 s y0 t (by omega) (by omega) hI'
theorem ep22 {A0 A1 B0 B1 R R' : Type} {b : (A0 → A1 → M2 → Option R) → A0 → A1 → M2 → Option R} {b' : (B0 → B1 → M2 → Option R') → B0 → B1 → M2 → Option R'} (I : Nat → A0 → A1 → M2 → B0 → B1 → M2 → Prop) (Q : Option R → Option R' → Prop) (h : ∀ (k : A0 → A1 → M2 → Option R) (k' : B0 → B1 → M2 → Option R') n a0 a1 σ c0 c1 τ, I n a0 a1 σ c0 c1 τ → Q (b k a0 a1 σ) (b' k' c0 c1 τ) ∨ (∃ m x0 x1 s y0 y1 t, m < n ∧ I m x0 x1 s y0 y1 t ∧ b k a0 a1 σ = k x0 x1 s ∧ b' k' c0 c1 τ = k' y0 y1 t)) : ∀ n fu fu' a0 a1 σ c0 c1 τ, n < fu → n < fu' → I n a0 a1 σ c0 c1 τ → Q (wl2 b fu a0 a1 σ) (wl2 b' fu' c0 c1 τ) := by
  intro n
  induction n using Nat.strongRecOn with
  | ind n ih =>
    intro fu fu' a0 a1 σ c0 c1 τ hf hf' hI
    obtain ⟨fu, rfl⟩ : ∃ q, fu = q + 1 := ⟨fu - 1, by omega⟩
    obtain ⟨fu', rfl⟩ : ∃ q, fu' = q + 1 := ⟨fu' - 1, by omega⟩
    rcases h (wl2 b fu) (wl2 b' fu') n a0 a1 σ c0 c1 τ hI with hr | ⟨m, x0, x1, s, y0, y1, t, hm, hI', he, he'⟩
    · exact hr
    · show Q (b (wl2 b fu) a0 a1 σ) (b' (wl2 b' fu') c0 c1 τ)
      rw [he, he']
      exact ih m hm fu fu' x0 x1 s y0 y1 t (by omega) (by omega) hI'
theorem ep23 {A0 A1 B0 B1 B2 R R' : Type} {b : (A0 → A1 → M2 → Option R) → A0 → A1 → M2 → Option R} {b' : (B0 → B1 → B2 → M2 → Option R') → B0 → B1 → B2 → M2 → Option R'} (I : Nat → A0 → A1 → M2 → B0 → B1 → B2 → M2 → Prop) (Q : Option R → Option R' → Prop) (h : ∀ (k : A0 → A1 → M2 → Option R) (k' : B0 → B1 → B2 → M2 → Option R') n a0 a1 σ c0 c1 c2 τ, I n a0 a1 σ c0 c1 c2 τ → Q (b k a0 a1 σ) (b' k' c0 c1 c2 τ) ∨ (∃ m x0 x1 s y0 y1 y2 t, m < n ∧ I m x0 x1 s y0 y1 y2 t ∧ b k a0 a1 σ = k x0 x1 s ∧ b' k' c0 c1 c2 τ = k' y0 y1 y2 t)) : ∀ n fu fu' a0 a1 σ c0 c1 c2 τ, n < fu → n < fu' → I n a0 a1 σ c0 c1 c2 τ → Q (wl2 b fu a0 a1 σ) (wl3 b' fu' c0 c1 c2 τ) := by
  intro n
  induction n using Nat.strongRecOn with
  | ind n ih =>
    intro fu fu' a0 a1 σ c0 c1 c2 τ hf hf' hI
    obtain ⟨fu, rfl⟩ : ∃ q, fu = q + 1 := ⟨fu - 1, by omega⟩
    obtain ⟨fu', rfl⟩ : ∃ q, fu' = q + 1 := ⟨fu' - 1, by omega⟩
    rcases h (wl2 b fu) (wl3 b' fu') n a0 a1 σ c0 c1 c2 τ hI with hr | ⟨m, x0, x1, s, y0, y1, y2, t, hm, hI', he, he'⟩
    · exact hr
    · show Q (b (wl2 b fu) a0 a1 σ) (b' (wl3 b' fu') c0 c1 c2 τ)
      rw [he, he']
      exact ih m hm fu fu' x0 x1 s y0 y1 y2 t (by omega) (by omega) hI'
theorem ep30 {A0 A1 A2  R R' : Type} {b : (A0 → A1 → A2 → M2 → Option R) → A0 → A1 → A2 → M2 → Option R} {b' : (M2 → Option R') → M2 → Option R'} (I : Nat → A0 → A1 → A2 → M2 → M2 → Prop) (Q : Option R → Option R' → Prop) (h : ∀ (k : A0 → A1 → A2 → M2 → Option R) (k' : M2 → Option R') n a0 a1 a2 σ  τ, I n a0 a1 a2 σ  τ → Q (b k a0 a1 a2 σ) (b' k'  τ) ∨ (∃ m x0 x1 x2 s  t, m < n ∧ I m x0 x1 x2 s  t ∧ b k a0 a1 a2 σ = k x0 x1 x2 s ∧ b' k'  τ = k'  t)) : ∀ n fu fu' a0 a1 a2 σ  τ, n < fu → n < fu' → I n a0 a1 a2 σ  τ → Q (wl3 b fu a0 a1 a2 σ) (wl0 b' fu'  τ) := by
  intro n
  induction n using Nat.strongRecOn with
  | ind n ih =>
    intro fu fu' a0 a1 a2 σ  τ hf hf' hI
    obtain ⟨fu, rfl⟩ : ∃ q, fu = q + 1 := ⟨fu - 1, by omega⟩
    obtain ⟨fu', rfl⟩ : ∃ q, fu' = q + 1 := ⟨fu' - 1, by omega⟩
    rcases h (wl3 b fu) (wl0 b' fu') n a0 a1 a2 σ  τ hI with hr | ⟨m, x0, x1, x2, s, t, hm, hI', he, he'⟩
    · exact hr
    · show Q (b (wl3 b fu) a0 a1 a2 σ) (b' (wl0 b' fu')  τ)
      rw [he, he']
      exact ih m hm fu fu' x0 x1 x2 s  t (by omega) (by omega) hI'
theorem ep31 {A0 A1 A2 B0 R R' : Type} {b : (A0 → A1 → A2 → M2 → Option R) → A0 → A1 → A2 → M2 → Option R} {b' : (B0 → M2 → Option R') → B0 → M2 → Option R'} (I : Nat → A0 → A1 → A2 → M2 → B0 → M2 → Prop) (Q : Option R → Option R' → Prop) (h : ∀ (k : A0 → A1 → A2 → M2 → Option R) (k' : B0 → M2 → Option R') n a0 a1 a2 σ c0 τ, I n a0 a1 a2 σ c0 τ → Q (b k a0 a1 a2 σ) (b' k' c0 τ) ∨ (∃ m x0 x1 x2 s y0 t, m < n ∧ I m x0 x1 x2 s y0 t ∧ b k a0 a1 a2 σ = k x0 x1 x2 s ∧ b' k' c0 τ = k' y0 t)) : ∀ n fu fu' a0 a1 a2 σ c0 τ, n < fu → n < fu' → I n a0 a1 a2 σ c0 τ → Q (wl3 b fu a0 a1 a2 σ) (wl1 b' fu' c0 τ) := by
  intro n
  induction n using Nat.strongRecOn with
  | ind n ih =>
    intro fu fu' a0 a1 a2 σ c0 τ hf hf' hI
    obtain ⟨fu, rfl⟩ : ∃ q, fu = q + 1 := ⟨fu - 1, by omega⟩
    obtain ⟨fu', rfl⟩ : ∃ q, fu' = q + 1 := ⟨fu' - 1, by omega⟩
    rcases h (wl3 b fu) (wl1 b' fu') n a0 a1 a2 σ c0 τ hI with hr | ⟨m, x0, x1, x2, s, y0, t, hm, hI', he, he'⟩
    · exact hr
    · show Q (b (wl3 b fu) a0 a1 a2 σ) (b' (wl1 b' fu') c0 τ)
      rw [he, he']
      exact ih m hm fu fu' x0 x1 x2 s y0 t (by omega) (by omega) hI'
theorem ep32 {A0 A1 A2 B0 B1 R R' : Type} {b : (A0 → A1 → A2 → M2 → Option R) → A0 → A1 → A2 → M2 → Option R} {b' : (B0 → B1 → M2 → Option R') → B0 → B1 → M2 → Option R'} (I : Nat → A0 → A1 → A2 → M2 → B0 → B1 → M2 → Prop) (Q : Option R → Option R' → Prop) (h : ∀ (k : A0 → A1 → A2 → M2 → Option R) (k' : B0 → B1 → M2 → Option R') n a0 a1 a2 σ c0 c1 τ, I n a0 a1 a2 σ c0 c1 τ → Q (b k a0 a1 a2 σ) (b' k' c0 c1 τ) ∨ (∃ m x0 x1 x2 s y0 y1 t, m < n ∧ I m x0 x1 x2 s y0 y1 t ∧ b k a0 a1 a2 σ = k x0 x1 x2 s ∧ b' k' c0 c1 τ = k' y0 y1 t)) : ∀ n fu fu' a0 a1 a2 σ c0 c1 τ, n < fu → n < fu' → I n a0 a1 a2 σ c0 c1 τ → Q (wl3 b fu a0 a1 a2 σ) (wl2 b' fu' c0 c1 τ) := by
  intro n
  induction n using Nat.strongRecOn with
  | ind n ih =>
    intro fu fu' a0 a1 a2 σ c0 c1 τ hf hf' hI
    obtain ⟨fu, rfl⟩ : ∃ q, fu = q + 1 := ⟨fu - 1, by omega⟩
    obtain ⟨fu', rfl⟩ : ∃ q, fu' = q + 1 := ⟨fu' - 1, by omega⟩
    rcases h (wl3 b fu) (wl2 b' fu') n a0 a1 a2 σ c0 c1 τ hI with hr | ⟨m, x0, x1, x2, s, y0, y1, t, hm, hI', he, he'⟩
    · exact hr
    · show Q (b (wl3 b fu) a0 a1 a2 σ) (b' (wl2 b' fu') c0 c1 τ)
      rw [he, he']
      exact ih m hm fu fu' x0 x1 x2 s y0 y1 t (by omega) (by omega) hI'
theorem ep33 {A0 A1 A2 B0 B1 B2 R R' : Type} {b : (A0 → A1 → A2 → M2 → Option R) → A0 → A1 → A2 → M2 → Option R} {b' : (B0 → B1 → B2 → M2 → Option R') → B0 → B1 → B2 → M2 → Option R'} (I : Nat → A0 → A1 → A2 → M2 → B0 → B1 → B2 → M2 → Prop) (Q : Option R → Option R' → Prop) (h : ∀ (k : A0 → A1 → A2 → M2 → Option R) (k' : B0 → B1 → B2 → M2 → Option R') n a0 a1 a2 σ c0 c1 c2 τ, I n a0 a1 a2 σ c0 c1 c2 τ → Q (b k a0 a1 a2 σ) (b' k' c0 c1 c2 τ) ∨ (∃ m x0 x1 x2 s y0 y1 y2 t, m < n ∧ I m x0 x1 x2 s y0 y1 y2 t ∧ b k a0 a1 a2 σ = k x0 x1 x2 s ∧ b' k' c0 c1 c2 τ = k' y0 y1 y2 t)) : ∀ n fu fu' a0 a1 a2 σ c0 c1 c2 τ, n < fu → n < fu' → I n a0 a1 a2 σ c0 c1 c2 τ → Q (wl3 b fu a0 a1 a2 σ) (wl3 b' fu' c0 c1 c2 τ) := by
  intro n
  induction n using Nat.strongRecOn with
  | ind n ih =>
    intro fu fu' a0 a1 a2 σ c0 c1 c2 τ hf hf' hI
    obtain ⟨fu, rfl⟩ : ∃ q, fu = q + 1 := ⟨fu - 1, by omega⟩
    obtain ⟨fu', rfl⟩ : ∃ q, fu' = q + 1 := ⟨fu' - 1, by omega⟩
    rcases h (wl3 b fu) (wl3 b' fu') n a0 a1 a2 σ c0 c1 c2 τ hI with hr | ⟨m, x0, x1, x2, s, y0, y1, y2, t, hm, hI', he, he'⟩
    · exact hr
    · show Q (b (wl3 b fu) a0 a1 a2 σ) (b' (wl3 b' fu') c0 c1 c2 τ)
      rw [he, he']
      exact ih m hm fu fu' x0 x1 x2 s y0 y1 y2 t (by omega) (by omega) hI'
def BR (σ τ : M2) : Prop := σ 47 0 = τ 0 40 ∧ σ 47 1 = τ 0 41 ∧ σ 47 2 = τ 0 42
def yC (o k : Nat) : Prop := dC o k ∨ o = 47
def yM (o k : Nat) : Prop := dM o k ∨ (o = 0 ∧ 40 ≤ k ∧ k ≤ 42)
theorem yC_xC {o k : Nat} (h : yC o k) : xC o k := by
  rcases h with h | h
  · exact Or.inl h
  · exact Or.inr (by omega)
theorem yM_xM {o k : Nat} (h : yM o k) : xM o k := by
  rcases h with h | h
  · exact Or.inl h
  · exact Or.inr (by omega)
theorem yC_no {o k : Nat} (h : o < 12 ∨ 48 ≤ o) : ¬ yC o k := fun q => xC_no (by
  rcases q with q | q
  · exact absurd q (dC_no (by omega))
  · omega) (yC_xC q)
theorem yM_no {o k : Nat} (h : (0 < o ∧ o < 16) ∨ 22 ≤ o ∨ (o = 0 ∧ (k < 33 ∨ (36 < k ∧ k < 40) ∨ 42 < k))) : ¬ yM o k := fun q => by
  rcases q with q | q
  · exact dM_no (by omega) q
  · omega
theorem take_eq {x : Int32} {σ : M2} : ∃ σ', F0_take x σ = some ((), σ') ∧ σ' 47 0 = x ∧ σ' 47 1 = σ 41 10 ∧ σ' 47 2 = σ 41 8 ∧ Fr (fun o _ => o = 47) σ σ' := by
  refine ⟨_, rfl, ?_, ?_, ?_, fun o k h => ?_⟩
  · simp [up_at]
  · simp [up_at]
  · simp [up_at]
  · have h : ¬ o = 47 := h
    rw [up_ne (fun e => h e.1), up_ne (fun e => h e.1), up_ne (fun e => h e.1)]
theorem weigh_rel {x : Int32} {σ τ : M2} {fu' : Nat} {τ0 : M2} (hg : F12_goes fu' τ0 = some ((), τ)) (hc : σ 41 10 = τ 0 35) (hj : σ 41 8 = τ 0 34) (hB : BR σ τ) :
    ∃ σ' τ', F0_weigh x σ = some ((), σ') ∧ F12_tried fu' x τ0 = some ((), τ') ∧ BR σ' τ' ∧ Fr (fun o _ => o = 47) σ σ' ∧ Fr (fun o k => o = 0 ∧ 40 ≤ k ∧ k ≤ 42) τ τ' := by
  obtain ⟨b1, b2, b3⟩ := hB
  obtain ⟨σ', t1, t2, t3, t4, t5⟩ := take_eq (x := x) (σ := σ)
  have hM : ∃ τ', F12_tried_37 fu' x τ = some ((), τ') ∧ τ' 0 40 = x ∧ τ' 0 41 = τ 0 35 ∧ τ' 0 42 = τ 0 34 ∧ Fr (fun o k => o = 0 ∧ 40 ≤ k ∧ k ≤ 42) τ τ' := by
    refine ⟨_, rfl, ?_, ?_, ?_, fun o k h => ?_⟩
    · simp [up_at]
    · simp [up_at]
    · simp [up_at]
    · have h : ¬ (o = 0 ∧ 40 ≤ k ∧ k ≤ 42) := h
      rw [up_ne (by omega), up_ne (by omega), up_ne (by omega)]
  obtain ⟨τ', m1, m2, m3, m4, m5⟩ := hM
  unfold F0_weigh F12_tried F0_weigh_33
  rw [hg, bnd_s, t1, bnd_s, b2, b3, hc, hj]
  by_cases c0 : τ 0 35 < τ 0 41
  · rw [if_pos c0, if_pos c0]
    exact ⟨_, _, rfl, m1, ⟨by rw [t2, m2], by rw [t3, m3, hc], by rw [t4, m4, hj]⟩, t5, m5⟩
  rw [if_neg c0, if_neg c0]
  by_cases c1 : τ 0 35 = τ 0 41
  · rw [if_pos c1, if_pos c1]
    by_cases c2 : τ 0 34 ≤ τ 0 42
    · rw [if_pos c2, if_pos c2]
      exact ⟨_, _, rfl, rfl, ⟨b1, b2, b3⟩, Fr.rf, Fr.rf⟩
    · rw [if_neg c2, if_neg c2]
      exact ⟨_, _, rfl, m1, ⟨by rw [t2, m2], by rw [t3, m3, hc], by rw [t4, m4, hj]⟩, t5, m5⟩
  · rw [if_neg c1, if_neg c1]
    exact ⟨_, _, rfl, rfl, ⟨b1, b2, b3⟩, Fr.rf, Fr.rf⟩
theorem try_rel {n r w : Nat} {left x : Int32} {σ τ : M2} {fu fu' : Nat} (h : RD n r w σ τ) (hturn : ∀ k, k < 6 → τ 22 k = nI k) (hdrop : τ 0 39 = left) (hB : BR σ τ) (hfu : 161 < fu) (hfu' : 161 < fu') :
    ∃ σ1 σ' τ', F2_runWithout fu left σ = some ((), σ1) ∧ F0_weigh x σ1 = some ((), σ') ∧ F12_tried fu' x τ = some ((), τ') ∧ BR σ' τ' ∧ RD n r w σ' τ' ∧ Fr yC σ σ' ∧ Fr yM τ τ' := by
  obtain ⟨σ1, τ1, a1, a2, ⟨⟨d1, d2, d3⟩, d4, d5, d6⟩, a4, a5⟩ := run_rel (fu := fu) (fu' := fu') h hturn hdrop hfu hfu'
  have hB1 : BR σ1 τ1 := by
    obtain ⟨b1, b2, b3⟩ := hB
    refine ⟨?_, ?_, ?_⟩
    · rw [a4 47 0 (dC_no (by omega)), a5 0 40 (dM_no (by omega))]; exact b1
    · rw [a4 47 1 (dC_no (by omega)), a5 0 41 (dM_no (by omega))]; exact b2
    · rw [a4 47 2 (dC_no (by omega)), a5 0 42 (dM_no (by omega))]; exact b3
  obtain ⟨σ', τ', w1, w2, w3, w4, w5⟩ := weigh_rel (x := x) a2 d4 d2 hB1
  have f1 : Fr yC σ σ' := (a4.mono fun o k q => Or.inl q).tr (w4.mono fun o k q => Or.inr q)
  have f2 : Fr yM τ τ' := (a5.mono fun o k q => Or.inl q).tr (w5.mono fun o k q => Or.inr q)
  exact ⟨σ1, σ', τ', a1, w1, w2, w3, h.fr2 (f1.mono fun _ _ => yC_xC) (f2.mono fun _ _ => yM_xM), f1, f2⟩
theorem start_rel {n r w : Nat} {σ τ : M2} {fu fu' : Nat} (h : RD n r w σ τ) (hturn : ∀ k, k < 6 → τ 22 k = nI k) (hdrop : τ 0 39 = -1) (hfu : 161 < fu) (hfu' : 161 < fu') :
    ∃ σ1 σ' τ', F2_run fu σ = some ((), σ1) ∧ F0_startFrom σ1 = some ((), σ') ∧ F12_asItIs fu' τ = some ((), τ') ∧ BR σ' τ' ∧ RD n r w σ' τ' ∧ Fr yC σ σ' ∧ Fr yM τ τ' := by
  obtain ⟨σ1, τ1, a1, a2, ⟨⟨d1, d2, d3⟩, d4, d5, d6⟩, a4, a5⟩ := run_rel (fu := fu) (fu' := fu') h hturn hdrop hfu hfu'
  obtain ⟨σ', t1, t2, t3, t4, t5⟩ := take_eq (x := -1) (σ := σ1)
  have hM : ∃ τ', F12_asItIs fu' τ = some ((), τ') ∧ τ' 0 40 = -1 ∧ τ' 0 41 = τ1 0 35 ∧ τ' 0 42 = τ1 0 34 ∧ Fr (fun o k => o = 0 ∧ 40 ≤ k ∧ k ≤ 42) τ1 τ' := by
    unfold F12_asItIs
    rw [a2, bnd_s]
    refine ⟨_, rfl, ?_, ?_, ?_, fun o k h => ?_⟩
    · simp [up_at]
    · simp [up_at]
    · simp [up_at]
    · have h : ¬ (o = 0 ∧ 40 ≤ k ∧ k ≤ 42) := h
      rw [up_ne (by omega), up_ne (by omega), up_ne (by omega)]
  obtain ⟨τ', m1, m2, m3, m4, m5⟩ := hM
  have f1 : Fr yC σ σ' := (a4.mono fun o k q => Or.inl q).tr (t5.mono fun o k q => Or.inr q)
  have f2 : Fr yM τ τ' := (a5.mono fun o k q => Or.inl q).tr (m5.mono fun o k q => Or.inr q)
  refine ⟨σ1, σ', τ', by rw [run_eq, a1, bnd_s], by unfold F0_startFrom; rw [t1, bnd_s], m1, ⟨by rw [t2, m2], by rw [t3, m3, d4], by rw [t4, m4, d2]⟩, h.fr2 (f1.mono fun _ _ => yC_xC) (f2.mono fun _ _ => yM_xM), f1, f2⟩
theorem tells_rel {what : Int32} {σ τ : M2} (hB : BR σ τ) : ∃ v, F0_tells what σ = some (v, σ) ∧ F12_toldBest what τ = some (v, τ) := by
  obtain ⟨b1, b2, b3⟩ := hB
  unfold F0_tells F12_toldBest
  rw [b1, b2, b3]
  by_cases c0 : what = 0
  · rw [if_pos c0, if_pos c0]; exact ⟨_, rfl, rfl⟩
  rw [if_neg c0, if_neg c0]
  by_cases c1 : what = 1
  · rw [if_pos c1, if_pos c1]; exact ⟨_, rfl, rfl⟩
  rw [if_neg c1, if_neg c1]; exact ⟨_, rfl, rfl⟩
theorem m_drop {fu fu' : Nat} (hfu : 161 < fu) (hfu' : 161 < fu') (what : Int32) : Both (F11_drop fu what) (F12_drop fu' what) := by
  intro σ0 τ0 hR
  obtain ⟨n, r, t, w, hA⟩ := id hR
  obtain ⟨h, hrest⟩ := id hA
  have hmis := hA.2.2.2.2.2.2
  unfold F11_drop F12_drop
  rw [fwi, gwi, bnd_s, bnd_s]
  by_cases c0 : wi what 0 2 = 0
  · rw [if_pos c0, if_pos c0]; exact ⟨_, _, _, rfl, rfl, hR⟩
  rw [if_neg c0, if_neg c0]
  obtain ⟨σ1, σ2, τ2, s1, s2, s3, s4, s5, s6, s7⟩ := start_rel (fu := fu) (fu' := fu') h hmis.1 hmis.2.1 hfu hfu'
  rw [s1, bnd_s, s2, bnd_s, s3, bnd_s]
  have hr6 : r ≤ 6 := h.2.1
  unfold F11_drop_33 F12_drop_19
  have key := pl11 (R := Int32 × M2) (R' := Int32 × M2) (fun q x2 σ x τ => ∃ k, q = r - k ∧ k ≤ r ∧ x2 = nI k ∧ x = nI k ∧ BR σ τ ∧ RD n r w σ τ ∧ Fr yC σ0 σ ∧ Fr (fun o k => yM o k ∨ (o = 0 ∧ k = 39)) τ0 τ)
    (fun p p' => p.1 = p'.1 ∧ R p.2 p'.2) (b := fun (k33 : Int32 → M2 → Option (Int32 × M2)) (x2 : Int32) (σ : M2) => if (σ 5 4) ≤ x2 then bnd (F0_tells what σ) (fun r2 s3 => some (r2, s3)) else bnd (F2_runWithout fu x2 σ) (fun r5 s6 => bnd (F0_weigh x2 s6) (fun r8 s9 => k33 (x2 + 1) s9)))
    (b' := fun (k19 : Int32 → M2 → Option (Int32 × M2)) (x2 : Int32) (σ : M2) => if (σ 0 2) ≤ x2 then bnd (F12_toldBest what (up σ 0 39 (-1 : Int32))) (fun r2 s3 => some (r2, s3)) else bnd (F12_tried fu' x2 (up σ 0 39 x2)) (fun r5 s6 => k19 (x2 + 1) s6)) ?_ r fu fu' 0 σ2 0 τ2 (by omega) (by omega) ⟨0, rfl, by omega, rfl, rfl, s4, s5, s6, s7.mono fun o k q => Or.inl q⟩
  · obtain ⟨⟨v, σ'⟩, ⟨v', τ'⟩, a1, a2, a3, a4⟩ := key
    have a3 : v = v' := a3
    subst a3
    exact ⟨v, σ', τ', a1, a2, a4⟩
  · intro k33 k19 q x2 σ x τ hI
    obtain ⟨k, rfl, hk, rfl, rfl, hB, hd, hf, hg⟩ := hI
    rw [hd.2.2.2.2.2.1, hd.2.2.2.2.2.2.1]
    by_cases hkr : r ≤ k
    · left
      obtain rfl : k = r := by omega
      rw [if_pos (nI_le (Nat.le_refl _) (by omega)), if_pos (nI_le (Nat.le_refl _) (by omega))]
      have hB' : BR σ (up τ 0 39 (-1 : Int32)) := by
        obtain ⟨b1, b2, b3⟩ := hB
        exact ⟨by rw [up_ne (by omega)]; exact b1, by rw [up_ne (by omega)]; exact b2, by rw [up_ne (by omega)]; exact b3⟩
      obtain ⟨v, v1, v2⟩ := tells_rel (what := what) hB'
      rw [v1, bnd_s, v2, bnd_s]
      refine ⟨_, _, rfl, rfl, rfl, n, k, t, w, hA.fr (hf.mono fun _ _ => yC_xC) (fun o q hq => ?_)⟩
      by_cases e : o = 0 ∧ q = 39
      · obtain ⟨rfl, rfl⟩ := e
        show up τ 0 39 (-1 : Int32) 0 39 = _
        rw [up_eq]
        exact hmis.2.1.symm
      · show up τ 0 39 (-1 : Int32) o q = _
        rw [up_ne e]
        exact hg o q (fun z => z.elim (fun z => hq (yM_xM z)) e)
    · right
      rw [if_neg (nI_ge (by omega) (by omega)), if_neg (nI_ge (by omega) (by omega))]
      have hd' : RD n r w σ (up τ 0 39 (nI k)) := by
        obtain ⟨a1, a2, a3, a4, a5, a6, a7, a8, a9, a10, a11, a12⟩ := hd
        refine ⟨a1, a2, a3, a4, by rw [up_ne (by omega)]; exact a5, a6, by rw [up_ne (by omega)]; exact a7, fun q hq => ?_, fun q hq => ?_, a10, by rw [up_ne (by omega)]; exact a11, a12.frx rfl rfl (fun q _ => up_ne (by omega)) (fun q _ => up_ne (by omega))⟩
        · have := a8 q hq
          unfold Kid at this ⊢
          rw [up_ne (by omega), up_ne (by omega), up_ne (by omega)]
          exact this
        · have := a9 q hq
          unfold Rac at this ⊢
          rw [up_ne (by omega), up_ne (by omega), up_ne (by omega), up_ne (by omega)]
          exact this
      have hB' : BR σ (up τ 0 39 (nI k)) := by
        obtain ⟨b1, b2, b3⟩ := hB
        exact ⟨by rw [up_ne (by omega)]; exact b1, by rw [up_ne (by omega)]; exact b2, by rw [up_ne (by omega)]; exact b3⟩
      obtain ⟨σ3, σ4, τ4, u1, u2, u3, u4, u5, u6, u7⟩ := try_rel (x := nI k) (fu := fu) (fu' := fu') hd' (fun q hq => by
        rw [up_ne (by omega), hg 22 q (by rintro (z | z); exact yM_no (by omega) z; omega)]; exact hmis.1 q hq) up_eq hB' hfu hfu'
      rw [u1, bnd_s, u2, bnd_s, u3, bnd_s]
      refine ⟨r - (k + 1), _, _, _, _, by omega, ⟨k + 1, rfl, by omega, by rw [nI_1], by rw [nI_1], u4, u5, hf.tr u6, (hg.up (Or.inr ⟨rfl, rfl⟩)).tr (u7.mono fun o k q => Or.inl q)⟩, rfl, rfl⟩
