/-! base of the reckoning over the programs -/
theorem inb_t {j N : Nat} (h : j < N) (hN : N < 2 ^ 31) : inb (nI j) N = true := by
  unfold inb
  exact decide_eq_true (by rw [nI_toInt (by omega)]; omega)
theorem gd_t {α : Type} {b : Bool} {x : Option α} (h : b = true) : gd b x = x := if_pos h
theorem bnd_s {α β : Type} {a : α} {s : M2} {f : α → M2 → Option β} : bnd (some (a, s)) f = f a s := rfl
theorem nI_c {j : Nat} (h : j < 2 ^ 31) : (nI j).toNatClampNeg = j := nI_clamp h
theorem isA_t {sh : Nat → Nat × Nat} {o N : Nat} (h : sh o = (0, N)) : isA sh o = true := decide_eq_true (by rw [h])
theorem isO_t {sh : Nat → Nat × Nat} {o c k : Nat} (h : sh o = (c + 2, k)) : isO sh o c k = true := decide_eq_true h
theorem nI_lt_i {a b : Nat} (h : a < b) (hb : b < 2 ^ 31) : nI a < nI b := nI_lt h hb
theorem nn_nI {j : Nat} (h : j < 2 ^ 31) : ¬ nI j < 0 := nI_pos h
/-- an element of a row, read and written by the class's helpers -/
theorem fat {o N j : Nat} {σ : M2} (ho : csh o = (0, N)) (hj : j < N) (hN : N < 2 ^ 31) : F11_at o (nI j) σ = some (σ o j, σ) := by
  unfold F11_at
  rw [if_neg (nn_nI (by omega)), gd_t (isA_t ho), ho]
  show (if nI N ≤ nI j then _ else _) = _
  rw [if_neg (nI_ge hj hN), gd_t (inb_t hj hN), nI_c (by omega)]
theorem fset {o N j : Nat} {x : Int32} {σ : M2} (ho : csh o = (0, N)) (hj : j < N) (hN : N < 2 ^ 31) : F11_set o (nI j) x σ = some ((), up σ o j x) := by
  unfold F11_set
  rw [if_neg (nn_nI (by omega)), gd_t (isA_t ho), ho]
  show (if nI N ≤ nI j then _ else _) = _
  rw [if_neg (nI_ge hj hN), gd_t (inb_t hj hN), nI_c (by omega)]
theorem frep {o N j : Nat} {x : Int32} {σ : M2} (ho : csh o = (0, N)) (hj : j < N) (hN : N < 2 ^ 31) : F11_replaced o (nI j) x σ = some (σ o j, up σ o j x) := by
  unfold F11_replaced
  rw [fat ho hj hN, bnd_s, fset ho hj hN, bnd_s]
/-- whether a number lies between two -/
def wi (v a b : Int32) : Int32 := if v < a then 0 else if b < v then 0 else 1
theorem isZ_wi (v a b : Int32) : isZ (wi v a b) = true := by
  unfold isZ wi
  apply decide_eq_true
  by_cases h : v < a
  · simp [h]
  · by_cases h2 : b < v <;> simp [h, h2]
theorem fwi {v a b : Int32} {σ : M2} : F11_within v a b σ = some (wi v a b, σ) := by
  unfold F11_within wi
  by_cases h : v < a
  · simp [h]
  · by_cases h2 : b < v <;> simp [h, h2]
theorem gwi {v a b : Int32} {σ : M2} : F12_in v a b σ = some (wi v a b, σ) := by
  unfold F12_in wi
  by_cases h : v < a
  · simp [h]
  · by_cases h2 : b < v <;> simp [h, h2]
theorem wi_1 {v a b : Int32} (h : ¬ wi v a b = 0) : ¬ v < a ∧ ¬ b < v := by
  unfold wi at h
  by_cases h1 : v < a
  · simp [h1] at h
  · by_cases h2 : b < v
    · simp [h1, h2] at h
    · exact ⟨h1, h2⟩
theorem wi_0 {v a b : Int32} (h : wi v a b = 0) : v < a ∨ b < v := by
  unfold wi at h
  by_cases h1 : v < a
  · exact Or.inl h1
  · by_cases h2 : b < v
    · exact Or.inr h2
    · simp [h1, h2] at h
/-- a number from 0 to one less than n -/
theorem wi_n {v : Int32} {n : Nat} (hn : n < 2 ^ 31) (h : ¬ wi v 0 (nI n - 1) = 0) : ∃ j, j < n ∧ v = nI j := by
  obtain ⟨h1, h2⟩ := wi_1 h
  obtain ⟨j, hj, rfl⟩ := nI_of h1
  refine ⟨j, ?_, rfl⟩
  rcases Nat.lt_or_ge j n with q | q
  · exact q
  · exfalso
    apply h2
    rcases Nat.eq_zero_or_pos n with rfl | hp
    · rw [Int32.lt_iff_toInt_lt, nI_toInt hj]
      show (-1 : Int) < _
      omega
    · obtain ⟨m, rfl⟩ : ∃ m, n = m + 1 := ⟨n - 1, by omega⟩
      rw [nI_pred]
      exact nI_lt (by omega) hj
theorem wi_in {j n : Nat} (hn : n < 2 ^ 31) (h : j < n) : wi (nI j) 0 (nI n - 1) = 1 := by
  obtain ⟨m, rfl⟩ : ∃ m, n = m + 1 := ⟨n - 1, by omega⟩
  unfold wi
  rw [if_neg (nn_nI (by omega)), nI_pred, if_neg (nI_nlt (by omega) (by omega))]
theorem wi_m {v : Int32} {n : Nat} (hn : n < 2 ^ 31) (h : ¬ wi v 0 (nI n) = 0) : ∃ j, j ≤ n ∧ v = nI j := by
  obtain ⟨h1, h2⟩ := wi_1 h
  obtain ⟨j, hj, rfl⟩ := nI_of h1
  refine ⟨j, ?_, rfl⟩
  rcases Nat.lt_or_ge n j with q | q
  · exact absurd (nI_lt q hj) h2
  · exact q
/-- frames: what isn't in P stays -/
def Fr (P : Nat → Nat → Prop) (σ σ' : M2) : Prop := ∀ o k, ¬ P o k → σ' o k = σ o k
theorem Fr.rf {P : Nat → Nat → Prop} {σ : M2} : Fr P σ σ := fun _ _ _ => rfl
theorem Fr.tr {P : Nat → Nat → Prop} {a b c : M2} (h1 : Fr P a b) (h2 : Fr P b c) : Fr P a c := fun o k h => (h2 o k h).trans (h1 o k h)
theorem Fr.mono {P Q : Nat → Nat → Prop} {a b : M2} (h : Fr P a b) (hPQ : ∀ o k, P o k → Q o k) : Fr Q a b := fun o k hq => h o k (fun hp => hq (hPQ o k hp))
theorem up_at {σ : M2} {o k a j : Nat} {x : Int32} : up σ o k x a j = if a = o ∧ j = k then x else σ a j := by
  unfold up upd
  by_cases h : a = o
  · subst h
    by_cases h2 : j = k <;> simp [h2]
  · simp [h]
theorem up_eq {σ : M2} {o k : Nat} {x : Int32} : up σ o k x o k = x := by rw [up_at, if_pos ⟨rfl, rfl⟩]
theorem up_ne {σ : M2} {o k a j : Nat} {x : Int32} (h : ¬ (a = o ∧ j = k)) : up σ o k x a j = σ a j := by rw [up_at, if_neg h]
theorem Fr.up {P : Nat → Nat → Prop} {a b : M2} {o k : Nat} {x : Int32} (h : Fr P a b) (hp : P o k) : Fr P a (up b o k x) := fun o' k' hq => by
  rw [up_ne (fun e => hq (by rw [e.1, e.2]; exact hp))]
  exact h o' k' hq
theorem up_up_ne {σ : M2} {o k o' k' : Nat} {x y : Int32} (h : ¬ (o = o' ∧ k = k')) : up (up σ o k x) o' k' y = up (up σ o' k' y) o k x := by
  funext a j
  rw [up_at, up_at, up_at, up_at]
  by_cases h1 : a = o' ∧ j = k'
  · rw [if_pos h1]
    by_cases h2 : a = o ∧ j = k
    · exact absurd ⟨h2.1.symm.trans h1.1, h2.2.symm.trans h1.2⟩ h
    · rw [if_neg h2, if_pos h1]
  · simp only [if_neg h1]
theorem up_up {σ : M2} {o k : Nat} {x y : Int32} : up (up σ o k x) o k y = up σ o k y := by
  funext a j
  simp only [up_at]
  by_cases h1 : a = o ∧ j = k <;> simp [h1]
theorem up_id {σ : M2} {o k : Nat} : up σ o k (σ o k) = σ := by
  funext a j
  simp only [up_at]
  by_cases h1 : a = o ∧ j = k
  · rw [if_pos h1, h1.1, h1.2]
  · rw [if_neg h1]
theorem sl0 { R : Type} {b : (M2 → Option R) → M2 → Option R} (I : Nat → M2 → Prop) (Q : R → Prop) (h : ∀ (k : M2 → Option R) n  σ, I n  σ → (∃ r, b k  σ = some r ∧ Q r) ∨ (∃ m  s, m < n ∧ I m  s ∧ b k  σ = k  s)) : ∀ n fu  σ, n < fu → I n  σ → ∃ r, wl0 b fu  σ = some r ∧ Q r := by
  intro n
  induction n using Nat.strongRecOn with
  | ind n ih =>
    intro fu  σ hf hI
    obtain ⟨fu, rfl⟩ : ∃ q, fu = q + 1 := ⟨fu - 1, by omega⟩
    rcases h (wl0 b fu) n  σ hI with hr | ⟨m, s, hm, hI', he⟩
    · exact hr
    · show ∃ r, b (wl0 b fu)  σ = some r ∧ Q r
      rw [he]
      exact ih m hm fu  s (by omega) hI'
theorem sl1 {A0 R : Type} {b : (A0 → M2 → Option R) → A0 → M2 → Option R} (I : Nat → A0 → M2 → Prop) (Q : R → Prop) (h : ∀ (k : A0 → M2 → Option R) n a0 σ, I n a0 σ → (∃ r, b k a0 σ = some r ∧ Q r) ∨ (∃ m x0 s, m < n ∧ I m x0 s ∧ b k a0 σ = k x0 s)) : ∀ n fu a0 σ, n < fu → I n a0 σ → ∃ r, wl1 b fu a0 σ = some r ∧ Q r := by
  intro n
  induction n using Nat.strongRecOn with
  | ind n ih =>
    intro fu a0 σ hf hI
    obtain ⟨fu, rfl⟩ : ∃ q, fu = q + 1 := ⟨fu - 1, by omega⟩
    rcases h (wl1 b fu) n a0 σ hI with hr | ⟨m, x0, s, hm, hI', he⟩
    · exact hr
    · show ∃ r, b (wl1 b fu) a0 σ = some r ∧ Q r
      rw [he]
      exact ih m hm fu x0 s (by omega) hI'
theorem sl2 {A0 A1 R : Type} {b : (A0 → A1 → M2 → Option R) → A0 → A1 → M2 → Option R} (I : Nat → A0 → A1 → M2 → Prop) (Q : R → Prop) (h : ∀ (k : A0 → A1 → M2 → Option R) n a0 a1 σ, I n a0 a1 σ → (∃ r, b k a0 a1 σ = some r ∧ Q r) ∨ (∃ m x0 x1 s, m < n ∧ I m x0 x1 s ∧ b k a0 a1 σ = k x0 x1 s)) : ∀ n fu a0 a1 σ, n < fu → I n a0 a1 σ → ∃ r, wl2 b fu a0 a1 σ = some r ∧ Q r := by
  intro n
  induction n using Nat.strongRecOn with
  | ind n ih =>
    intro fu a0 a1 σ hf hI
    obtain ⟨fu, rfl⟩ : ∃ q, fu = q + 1 := ⟨fu - 1, by omega⟩
    rcases h (wl2 b fu) n a0 a1 σ hI with hr | ⟨m, x0, x1, s, hm, hI', he⟩
    · exact hr
    · show ∃ r, b (wl2 b fu) a0 a1 σ = some r ∧ Q r
      rw [he]
      exact ih m hm fu x0 x1 s (by omega) hI'
theorem sl3 {A0 A1 A2 R : Type} {b : (A0 → A1 → A2 → M2 → Option R) → A0 → A1 → A2 → M2 → Option R} (I : Nat → A0 → A1 → A2 → M2 → Prop) (Q : R → Prop) (h : ∀ (k : A0 → A1 → A2 → M2 → Option R) n a0 a1 a2 σ, I n a0 a1 a2 σ → (∃ r, b k a0 a1 a2 σ = some r ∧ Q r) ∨ (∃ m x0 x1 x2 s, m < n ∧ I m x0 x1 x2 s ∧ b k a0 a1 a2 σ = k x0 x1 x2 s)) : ∀ n fu a0 a1 a2 σ, n < fu → I n a0 a1 a2 σ → ∃ r, wl3 b fu a0 a1 a2 σ = some r ∧ Q r := by
  intro n
  induction n using Nat.strongRecOn with
  | ind n ih =>
    intro fu a0 a1 a2 σ hf hI
    obtain ⟨fu, rfl⟩ : ∃ q, fu = q + 1 := ⟨fu - 1, by omega⟩
    rcases h (wl3 b fu) n a0 a1 a2 σ hI with hr | ⟨m, x0, x1, x2, s, hm, hI', he⟩
    · exact hr
    · show ∃ r, b (wl3 b fu) a0 a1 a2 σ = some r ∧ Q r
      rw [he]
      exact ih m hm fu x0 x1 x2 s (by omega) hI'
theorem sl4 {A0 A1 A2 A3 R : Type} {b : (A0 → A1 → A2 → A3 → M2 → Option R) → A0 → A1 → A2 → A3 → M2 → Option R} (I : Nat → A0 → A1 → A2 → A3 → M2 → Prop) (Q : R → Prop) (h : ∀ (k : A0 → A1 → A2 → A3 → M2 → Option R) n a0 a1 a2 a3 σ, I n a0 a1 a2 a3 σ → (∃ r, b k a0 a1 a2 a3 σ = some r ∧ Q r) ∨ (∃ m x0 x1 x2 x3 s, m < n ∧ I m x0 x1 x2 x3 s ∧ b k a0 a1 a2 a3 σ = k x0 x1 x2 x3 s)) : ∀ n fu a0 a1 a2 a3 σ, n < fu → I n a0 a1 a2 a3 σ → ∃ r, wl4 b fu a0 a1 a2 a3 σ = some r ∧ Q r := by
  intro n
  induction n using Nat.strongRecOn with
  | ind n ih =>
    intro fu a0 a1 a2 a3 σ hf hI
    obtain ⟨fu, rfl⟩ : ∃ q, fu = q + 1 := ⟨fu - 1, by omega⟩
    rcases h (wl4 b fu) n a0 a1 a2 a3 σ hI with hr | ⟨m, x0, x1, x2, x3, s, hm, hI', he⟩
    · exact hr
    · show ∃ r, b (wl4 b fu) a0 a1 a2 a3 σ = some r ∧ Q r
      rw [he]
      exact ih m hm fu x0 x1 x2 x3 s (by omega) hI'
theorem sl5 {A0 A1 A2 A3 A4 R : Type} {b : (A0 → A1 → A2 → A3 → A4 → M2 → Option R) → A0 → A1 → A2 → A3 → A4 → M2 → Option R} (I : Nat → A0 → A1 → A2 → A3 → A4 → M2 → Prop) (Q : R → Prop) (h : ∀ (k : A0 → A1 → A2 → A3 → A4 → M2 → Option R) n a0 a1 a2 a3 a4 σ, I n a0 a1 a2 a3 a4 σ → (∃ r, b k a0 a1 a2 a3 a4 σ = some r ∧ Q r) ∨ (∃ m x0 x1 x2 x3 x4 s, m < n ∧ I m x0 x1 x2 x3 x4 s ∧ b k a0 a1 a2 a3 a4 σ = k x0 x1 x2 x3 x4 s)) : ∀ n fu a0 a1 a2 a3 a4 σ, n < fu → I n a0 a1 a2 a3 a4 σ → ∃ r, wl5 b fu a0 a1 a2 a3 a4 σ = some r ∧ Q r := by
  intro n
  induction n using Nat.strongRecOn with
  | ind n ih =>
    intro fu a0 a1 a2 a3 a4 σ hf hI
    obtain ⟨fu, rfl⟩ : ∃ q, fu = q + 1 := ⟨fu - 1, by omega⟩
    rcases h (wl5 b fu) n a0 a1 a2 a3 a4 σ hI with hr | ⟨m, x0, x1, x2, x3, x4, s, hm, hI', he⟩
    · exact hr
    · show ∃ r, b (wl5 b fu) a0 a1 a2 a3 a4 σ = some r ∧ Q r
      rw [he]
      exact ih m hm fu x0 x1 x2 x3 x4 s (by omega) hI'
theorem pl00 {  R R' : Type} {b : (M2 → Option R) → M2 → Option R} {b' : (M2 → Option R') → M2 → Option R'} (I : Nat → M2 → M2 → Prop) (Q : R → R' → Prop) (h : ∀ (k : M2 → Option R) (k' : M2 → Option R') n  σ  τ, I n  σ  τ → (∃ r r', b k  σ = some r ∧ b' k'  τ = some r' ∧ Q r r') ∨ (∃ m  s  t, m < n ∧ I m  s  t ∧ b k  σ = k  s ∧ b' k'  τ = k'  t)) : ∀ n fu fu'  σ  τ, n < fu → n < fu' → I n  σ  τ → ∃ r r', wl0 b fu  σ = some r ∧ wl0 b' fu'  τ = some r' ∧ Q r r' := by
  intro n
  induction n using Nat.strongRecOn with
  | ind n ih =>
    intro fu fu'  σ  τ hf hf' hI
    obtain ⟨fu, rfl⟩ : ∃ q, fu = q + 1 := ⟨fu - 1, by omega⟩
    obtain ⟨fu', rfl⟩ : ∃ q, fu' = q + 1 := ⟨fu' - 1, by omega⟩
    rcases h (wl0 b fu) (wl0 b' fu') n  σ  τ hI with hr | ⟨m, s, t, hm, hI', he, he'⟩
    · exact hr
    · show ∃ r r', b (wl0 b fu)  σ = some r ∧ b' (wl0 b' fu')  τ = some r' ∧ Q r r'
      rw [he, he']
      exact ih m hm fu fu'  s  t (by omega) (by omega) hI'
theorem pl01 { B0 R R' : Type} {b : (M2 → Option R) → M2 → Option R} {b' : (B0 → M2 → Option R') → B0 → M2 → Option R'} (I : Nat → M2 → B0 → M2 → Prop) (Q : R → R' → Prop) (h : ∀ (k : M2 → Option R) (k' : B0 → M2 → Option R') n  σ c0 τ, I n  σ c0 τ → (∃ r r', b k  σ = some r ∧ b' k' c0 τ = some r' ∧ Q r r') ∨ (∃ m  s y0 t, m < n ∧ I m  s y0 t ∧ b k  σ = k  s ∧ b' k' c0 τ = k' y0 t)) : ∀ n fu fu'  σ c0 τ, n < fu → n < fu' → I n  σ c0 τ → ∃ r r', wl0 b fu  σ = some r ∧ wl1 b' fu' c0 τ = some r' ∧ Q r r' := by
  intro n
  induction n using Nat.strongRecOn with
  | ind n ih =>
    intro fu fu'  σ c0 τ hf hf' hI
    obtain ⟨fu, rfl⟩ : ∃ q, fu = q + 1 := ⟨fu - 1, by omega⟩
    obtain ⟨fu', rfl⟩ : ∃ q, fu' = q + 1 := ⟨fu' - 1, by omega⟩
    rcases h (wl0 b fu) (wl1 b' fu') n  σ c0 τ hI with hr | ⟨m, s, y0, t, hm, hI', he, he'⟩
    · exact hr
    · show ∃ r r', b (wl0 b fu)  σ = some r ∧ b' (wl1 b' fu') c0 τ = some r' ∧ Q r r'
      rw [he, he']
      exact ih m hm fu fu'  s y0 t (by omega) (by omega) hI'
theorem pl02 { B0 B1 R R' : Type} {b : (M2 → Option R) → M2 → Option R} {b' : (B0 → B1 → M2 → Option R') → B0 → B1 → M2 → Option R'} (I : Nat → M2 → B0 → B1 → M2 → Prop) (Q : R → R' → Prop) (h : ∀ (k : M2 → Option R) (k' : B0 → B1 → M2 → Option R') n  σ c0 c1 τ, I n  σ c0 c1 τ → (∃ r r', b k  σ = some r ∧ b' k' c0 c1 τ = some r' ∧ Q r r') ∨ (∃ m  s y0 y1 t, m < n ∧ I m  s y0 y1 t ∧ b k  σ = k  s ∧ b' k' c0 c1 τ = k' y0 y1 t)) : ∀ n fu fu'  σ c0 c1 τ, n < fu → n < fu' → I n  σ c0 c1 τ → ∃ r r', wl0 b fu  σ = some r ∧ wl2 b' fu' c0 c1 τ = some r' ∧ Q r r' := by
  intro n
  induction n using Nat.strongRecOn with
  | ind n ih =>
    intro fu fu'  σ c0 c1 τ hf hf' hI
    obtain ⟨fu, rfl⟩ : ∃ q, fu = q + 1 := ⟨fu - 1, by omega⟩
    obtain ⟨fu', rfl⟩ : ∃ q, fu' = q + 1 := ⟨fu' - 1, by omega⟩
    rcases h (wl0 b fu) (wl2 b' fu') n  σ c0 c1 τ hI with hr | ⟨m, s, y0, y1, t, hm, hI', he, he'⟩
    · exact hr
    · show ∃ r r', b (wl0 b fu)  σ = some r ∧ b' (wl2 b' fu') c0 c1 τ = some r' ∧ Q r r'
      rw [he, he']
      exact ih m hm fu fu'  s y0 y1 t (by omega) (by omega) hI'
theorem pl03 { B0 B1 B2 R R' : Type} {b : (M2 → Option R) → M2 → Option R} {b' : (B0 → B1 → B2 → M2 → Option R') → B0 → B1 → B2 → M2 → Option R'} (I : Nat → M2 → B0 → B1 → B2 → M2 → Prop) (Q : R → R' → Prop) (h : ∀ (k : M2 → Option R) (k' : B0 → B1 → B2 → M2 → Option R') n  σ c0 c1 c2 τ, I n  σ c0 c1 c2 τ → (∃ r r', b k  σ = some r ∧ b' k' c0 c1 c2 τ = some r' ∧ Q r r') ∨ (∃ m  s y0 y1 y2 t, m < n ∧ I m  s y0 y1 y2 t ∧ b k  σ = k  s ∧ b' k' c0 c1 c2 τ = k' y0 y1 y2 t)) : ∀ n fu fu'  σ c0 c1 c2 τ, n < fu → n < fu' → I n  σ c0 c1 c2 τ → ∃ r r', wl0 b fu  σ = some r ∧ wl3 b' fu' c0 c1 c2 τ = some r' ∧ Q r r' := by
  intro n
  induction n using Nat.strongRecOn with
  | ind n ih =>
    intro fu fu'  σ c0 c1 c2 τ hf hf' hI
    obtain ⟨fu, rfl⟩ : ∃ q, fu = q + 1 := ⟨fu - 1, by omega⟩
    obtain ⟨fu', rfl⟩ : ∃ q, fu' = q + 1 := ⟨fu' - 1, by omega⟩
    rcases h (wl0 b fu) (wl3 b' fu') n  σ c0 c1 c2 τ hI with hr | ⟨m, s, y0, y1, y2, t, hm, hI', he, he'⟩
    · exact hr
    · show ∃ r r', b (wl0 b fu)  σ = some r ∧ b' (wl3 b' fu') c0 c1 c2 τ = some r' ∧ Q r r'
      rw [he, he']
      exact ih m hm fu fu'  s y0 y1 y2 t (by omega) (by omega) hI'
theorem pl10 {A0  R R' : Type} {b : (A0 → M2 → Option R) → A0 → M2 → Option R} {b' : (M2 → Option R') → M2 → Option R'} (I : Nat → A0 → M2 → M2 → Prop) (Q : R → R' → Prop) (h : ∀ (k : A0 → M2 → Option R) (k' : M2 → Option R') n a0 σ  τ, I n a0 σ  τ → (∃ r r', b k a0 σ = some r ∧ b' k'  τ = some r' ∧ Q r r') ∨ (∃ m x0 s  t, m < n ∧ I m x0 s  t ∧ b k a0 σ = k x0 s ∧ b' k'  τ = k'  t)) : ∀ n fu fu' a0 σ  τ, n < fu → n < fu' → I n a0 σ  τ → ∃ r r', wl1 b fu a0 σ = some r ∧ wl0 b' fu'  τ = some r' ∧ Q r r' := by
  intro n
  induction n using Nat.strongRecOn with
  | ind n ih =>
    intro fu fu' a0 σ  τ hf hf' hI
    obtain ⟨fu, rfl⟩ : ∃ q, fu = q + 1 := ⟨fu - 1, by omega⟩
    obtain ⟨fu', rfl⟩ : ∃ q, fu' = q + 1 := ⟨fu' - 1, by omega⟩
    rcases h (wl1 b fu) (wl0 b' fu') n a0 σ  τ hI with hr | ⟨m, x0, s, t, hm, hI', he, he'⟩
    · exact hr
    · show ∃ r r', b (wl1 b fu) a0 σ = some r ∧ b' (wl0 b' fu')  τ = some r' ∧ Q r r'
      rw [he, he']
      exact ih m hm fu fu' x0 s  t (by omega) (by omega) hI'
theorem pl11 {A0 B0 R R' : Type} {b : (A0 → M2 → Option R) → A0 → M2 → Option R} {b' : (B0 → M2 → Option R') → B0 → M2 → Option R'} (I : Nat → A0 → M2 → B0 → M2 → Prop) (Q : R → R' → Prop) (h : ∀ (k : A0 → M2 → Option R) (k' : B0 → M2 → Option R') n a0 σ c0 τ, I n a0 σ c0 τ → (∃ r r', b k a0 σ = some r ∧ b' k' c0 τ = some r' ∧ Q r r') ∨ (∃ m x0 s y0 t, m < n ∧ I m x0 s y0 t ∧ b k a0 σ = k x0 s ∧ b' k' c0 τ = k' y0 t)) : ∀ n fu fu' a0 σ c0 τ, n < fu → n < fu' → I n a0 σ c0 τ → ∃ r r', wl1 b fu a0 σ = some r ∧ wl1 b' fu' c0 τ = some r' ∧ Q r r' := by
  intro n
  induction n using Nat.strongRecOn with
  | ind n ih =>
    intro fu fu' a0 σ c0 τ hf hf' hI
    obtain ⟨fu, rfl⟩ : ∃ q, fu = q + 1 := ⟨fu - 1, by omega⟩
    obtain ⟨fu', rfl⟩ : ∃ q, fu' = q + 1 := ⟨fu' - 1, by omega⟩
    rcases h (wl1 b fu) (wl1 b' fu') n a0 σ c0 τ hI with hr | ⟨m, x0, s, y0, t, hm, hI', he, he'⟩
    · exact hr
    · show ∃ r r', b (wl1 b fu) a0 σ = some r ∧ b' (wl1 b' fu') c0 τ = some r' ∧ Q r r'
      rw [he, he']
      exact ih m hm fu fu' x0 s y0 t (by omega) (by omega) hI'
theorem pl12 {A0 B0 B1 R R' : Type} {b : (A0 → M2 → Option R) → A0 → M2 → Option R} {b' : (B0 → B1 → M2 → Option R') → B0 → B1 → M2 → Option R'} (I : Nat → A0 → M2 → B0 → B1 → M2 → Prop) (Q : R → R' → Prop) (h : ∀ (k : A0 → M2 → Option R) (k' : B0 → B1 → M2 → Option R') n a0 σ c0 c1 τ, I n a0 σ c0 c1 τ → (∃ r r', b k a0 σ = some r ∧ b' k' c0 c1 τ = some r' ∧ Q r r') ∨ (∃ m x0 s y0 y1 t, m < n ∧ I m x0 s y0 y1 t ∧ b k a0 σ = k x0 s ∧ b' k' c0 c1 τ = k' y0 y1 t)) : ∀ n fu fu' a0 σ c0 c1 τ, n < fu → n < fu' → I n a0 σ c0 c1 τ → ∃ r r', wl1 b fu a0 σ = some r ∧ wl2 b' fu' c0 c1 τ = some r' ∧ Q r r' := by
  intro n
  induction n using Nat.strongRecOn with
  | ind n ih =>
    intro fu fu' a0 σ c0 c1 τ hf hf' hI
    obtain ⟨fu, rfl⟩ : ∃ q, fu = q + 1 := ⟨fu - 1, by omega⟩
    obtain ⟨fu', rfl⟩ : ∃ q, fu' = q + 1 := ⟨fu' - 1, by omega⟩
    rcases h (wl1 b fu) (wl2 b' fu') n a0 σ c0 c1 τ hI with hr | ⟨m, x0, s, y0, y1, t, hm, hI', he, he'⟩
    · exact hr
    · show ∃ r r', b (wl1 b fu) a0 σ = some r ∧ b' (wl2 b' fu') c0 c1 τ = some r' ∧ Q r r'
      rw [he, he']
      exact ih m hm fu fu' x0 s y0 y1 t (by omega) (by omega) hI'
theorem pl13 {A0 B0 B1 B2 R R' : Type} {b : (A0 → M2 → Option R) → A0 → M2 → Option R} {b' : (B0 → B1 → B2 → M2 → Option R') → B0 → B1 → B2 → M2 → Option R'} (I : Nat → A0 → M2 → B0 → B1 → B2 → M2 → Prop) (Q : R → R' → Prop) (h : ∀ (k : A0 → M2 → Option R) (k' : B0 → B1 → B2 → M2 → Option R') n a0 σ c0 c1 c2 τ, I n a0 σ c0 c1 c2 τ → (∃ r r', b k a0 σ = some r ∧ b' k' c0 c1 c2 τ = some r' ∧ Q r r') ∨ (∃ m x0 s y0 y1 y2 t, m < n ∧ I m x0 s y0 y1 y2 t ∧ b k a0 σ = k x0 s ∧ b' k' c0 c1 c2 τ = k' y0 y1 y2 t)) : ∀ n fu fu' a0 σ c0 c1 c2 τ, n < fu → n < fu' → I n a0 σ c0 c1 c2 τ → ∃ r r', wl1 b fu a0 σ = some r ∧ wl3 b' fu' c0 c1 c2 τ = some r' ∧ Q r r' := by
  intro n
  induction n using Nat.strongRecOn with
  | ind n ih =>
    intro fu fu' a0 σ c0 c1 c2 τ hf hf' hI
    obtain ⟨fu, rfl⟩ : ∃ q, fu = q + 1 := ⟨fu - 1, by omega⟩
    obtain ⟨fu', rfl⟩ : ∃ q, fu' = q + 1 := ⟨fu' - 1, by omega⟩
    rcases h (wl1 b fu) (wl3 b' fu') n a0 σ c0 c1 c2 τ hI with hr | ⟨m, x0, s, y0, y1, y2, t, hm, hI', he, he'⟩
    · exact hr
    · show ∃ r r', b (wl1 b fu) a0 σ = some r ∧ b' (wl3 b' fu') c0 c1 c2 τ = some r' ∧ Q r r'
      rw [he, he']
      exact ih m hm fu fu' x0 s y0 y1 y2 t (by omega) (by omega) hI'
theorem pl20 {A0 A1  R R' : Type} {b : (A0 → A1 → M2 → Option R) → A0 → A1 → M2 → Option R} {b' : (M2 → Option R') → M2 → Option R'} (I : Nat → A0 → A1 → M2 → M2 → Prop) (Q : R → R' → Prop) (h : ∀ (k : A0 → A1 → M2 → Option R) (k' : M2 → Option R') n a0 a1 σ  τ, I n a0 a1 σ  τ → (∃ r r', b k a0 a1 σ = some r ∧ b' k'  τ = some r' ∧ Q r r') ∨ (∃ m x0 x1 s  t, m < n ∧ I m x0 x1 s  t ∧ b k a0 a1 σ = k x0 x1 s ∧ b' k'  τ = k'  t)) : ∀ n fu fu' a0 a1 σ  τ, n < fu → n < fu' → I n a0 a1 σ  τ → ∃ r r', wl2 b fu a0 a1 σ = some r ∧ wl0 b' fu'  τ = some r' ∧ Q r r' := by
  intro n
  induction n using Nat.strongRecOn with
  | ind n ih =>
    intro fu fu' a0 a1 σ  τ hf hf' hI
    obtain ⟨fu, rfl⟩ : ∃ q, fu = q + 1 := ⟨fu - 1, by omega⟩
    obtain ⟨fu', rfl⟩ : ∃ q, fu' = q + 1 := ⟨fu' - 1, by omega⟩
    rcases h (wl2 b fu) (wl0 b' fu') n a0 a1 σ  τ hI with hr | ⟨m, x0, x1, s, t, hm, hI', he, he'⟩
    · exact hr
    · show ∃ r r', b (wl2 b fu) a0 a1 σ = some r ∧ b' (wl0 b' fu')  τ = some r' ∧ Q r r'
      rw [he, he']
      exact ih m hm fu fu' x0 x1 s  t (by omega) (by omega) hI'
theorem pl21 {A0 A1 B0 R R' : Type} {b : (A0 → A1 → M2 → Option R) → A0 → A1 → M2 → Option R} {b' : (B0 → M2 → Option R') → B0 → M2 → Option R'} (I : Nat → A0 → A1 → M2 → B0 → M2 → Prop) (Q : R → R' → Prop) (h : ∀ (k : A0 → A1 → M2 → Option R) (k' : B0 → M2 → Option R') n a0 a1 σ c0 τ, I n a0 a1 σ c0 τ → (∃ r r', b k a0 a1 σ = some r ∧ b' k' c0 τ = some r' ∧ Q r r') ∨ (∃ m x0 x1 s y0 t, m < n ∧ I m x0 x1 s y0 t ∧ b k a0 a1 σ = k x0 x1 s ∧ b' k' c0 τ = k' y0 t)) : ∀ n fu fu' a0 a1 σ c0 τ, n < fu → n < fu' → I n a0 a1 σ c0 τ → ∃ r r', wl2 b fu a0 a1 σ = some r ∧ wl1 b' fu' c0 τ = some r' ∧ Q r r' := by
  intro n
  induction n using Nat.strongRecOn with
  | ind n ih =>
    intro fu fu' a0 a1 σ c0 τ hf hf' hI
    obtain ⟨fu, rfl⟩ : ∃ q, fu = q + 1 := ⟨fu - 1, by omega⟩
    obtain ⟨fu', rfl⟩ : ∃ q, fu' = q + 1 := ⟨fu' - 1, by omega⟩
    rcases h (wl2 b fu) (wl1 b' fu') n a0 a1 σ c0 τ hI with hr | ⟨m, x0, x1, s, y0, t, hm, hI', he, he'⟩
    · exact hr
    · show ∃ r r', b (wl2 b fu) a0 a1 σ = some r ∧ b' (wl1 b' fu') c0 τ = some r' ∧ Q r r'
      rw [he, he']
      exact ih m hm fu fu' x0 x1 s y0 t (by omega) (by omega) hI'
theorem pl22 {A0 A1 B0 B1 R R' : Type} {b : (A0 → A1 → M2 → Option R) → A0 → A1 → M2 → Option R} {b' : (B0 → B1 → M2 → Option R') → B0 → B1 → M2 → Option R'} (I : Nat → A0 → A1 → M2 → B0 → B1 → M2 → Prop) (Q : R → R' → Prop) (h : ∀ (k : A0 → A1 → M2 → Option R) (k' : B0 → B1 → M2 → Option R') n a0 a1 σ c0 c1 τ, I n a0 a1 σ c0 c1 τ → (∃ r r', b k a0 a1 σ = some r ∧ b' k' c0 c1 τ = some r' ∧ Q r r') ∨ (∃ m x0 x1 s y0 y1 t, m < n ∧ I m x0 x1 s y0 y1 t ∧ b k a0 a1 σ = k x0 x1 s ∧ b' k' c0 c1 τ = k' y0 y1 t)) : ∀ n fu fu' a0 a1 σ c0 c1 τ, n < fu → n < fu' → I n a0 a1 σ c0 c1 τ → ∃ r r', wl2 b fu a0 a1 σ = some r ∧ wl2 b' fu' c0 c1 τ = some r' ∧ Q r r' := by
  intro n
  induction n using Nat.strongRecOn with
  | ind n ih =>
    intro fu fu' a0 a1 σ c0 c1 τ hf hf' hI
    obtain ⟨fu, rfl⟩ : ∃ q, fu = q + 1 := ⟨fu - 1, by omega⟩
    obtain ⟨fu', rfl⟩ : ∃ q, fu' = q + 1 := ⟨fu' - 1, by omega⟩
    rcases h (wl2 b fu) (wl2 b' fu') n a0 a1 σ c0 c1 τ hI with hr | ⟨m, x0, x1, s, y0, y1, t, hm, hI', he, he'⟩
    · exact hr
    · show ∃ r r', b (wl2 b fu) a0 a1 σ = some r ∧ b' (wl2 b' fu') c0 c1 τ = some r' ∧ Q r r'
      rw [he, he']
      exact ih m hm fu fu' x0 x1 s y0 y1 t (by omega) (by omega) hI'
theorem pl23 {A0 A1 B0 B1 B2 R R' : Type} {b : (A0 → A1 → M2 → Option R) → A0 → A1 → M2 → Option R} {b' : (B0 → B1 → B2 → M2 → Option R') → B0 → B1 → B2 → M2 → Option R'} (I : Nat → A0 → A1 → M2 → B0 → B1 → B2 → M2 → Prop) (Q : R → R' → Prop) (h : ∀ (k : A0 → A1 → M2 → Option R) (k' : B0 → B1 → B2 → M2 → Option R') n a0 a1 σ c0 c1 c2 τ, I n a0 a1 σ c0 c1 c2 τ → (∃ r r', b k a0 a1 σ = some r ∧ b' k' c0 c1 c2 τ = some r' ∧ Q r r') ∨ (∃ m x0 x1 s y0 y1 y2 t, m < n ∧ I m x0 x1 s y0 y1 y2 t ∧ b k a0 a1 σ = k x0 x1 s ∧ b' k' c0 c1 c2 τ = k' y0 y1 y2 t)) : ∀ n fu fu' a0 a1 σ c0 c1 c2 τ, n < fu → n < fu' → I n a0 a1 σ c0 c1 c2 τ → ∃ r r', wl2 b fu a0 a1 σ = some r ∧ wl3 b' fu' c0 c1 c2 τ = some r' ∧ Q r r' := by
  intro n
  induction n using Nat.strongRecOn with
  | ind n ih =>
    intro fu fu' a0 a1 σ c0 c1 c2 τ hf hf' hI
    obtain ⟨fu, rfl⟩ : ∃ q, fu = q + 1 := ⟨fu - 1, by omega⟩
    obtain ⟨fu', rfl⟩ : ∃ q, fu' = q + 1 := ⟨fu' - 1, by omega⟩
    rcases h (wl2 b fu) (wl3 b' fu') n a0 a1 σ c0 c1 c2 τ hI with hr | ⟨m, x0, x1, s, y0, y1, y2, t, hm, hI', he, he'⟩
    · exact hr
    · show ∃ r r', b (wl2 b fu) a0 a1 σ = some r ∧ b' (wl3 b' fu') c0 c1 c2 τ = some r' ∧ Q r r'
      rw [he, he']
      exact ih m hm fu fu' x0 x1 s y0 y1 y2 t (by omega) (by omega) hI'
theorem pl30 {A0 A1 A2  R R' : Type} {b : (A0 → A1 → A2 → M2 → Option R) → A0 → A1 → A2 → M2 → Option R} {b' : (M2 → Option R') → M2 → Option R'} (I : Nat → A0 → A1 → A2 → M2 → M2 → Prop) (Q : R → R' → Prop) (h : ∀ (k : A0 → A1 → A2 → M2 → Option R) (k' : M2 → Option R') n a0 a1 a2 σ  τ, I n a0 a1 a2 σ  τ → (∃ r r', b k a0 a1 a2 σ = some r ∧ b' k'  τ = some r' ∧ Q r r') ∨ (∃ m x0 x1 x2 s  t, m < n ∧ I m x0 x1 x2 s  t ∧ b k a0 a1 a2 σ = k x0 x1 x2 s ∧ b' k'  τ = k'  t)) : ∀ n fu fu' a0 a1 a2 σ  τ, n < fu → n < fu' → I n a0 a1 a2 σ  τ → ∃ r r', wl3 b fu a0 a1 a2 σ = some r ∧ wl0 b' fu'  τ = some r' ∧ Q r r' := by
  intro n
  induction n using Nat.strongRecOn with
  | ind n ih =>
    intro fu fu' a0 a1 a2 σ  τ hf hf' hI
    obtain ⟨fu, rfl⟩ : ∃ q, fu = q + 1 := ⟨fu - 1, by omega⟩
    obtain ⟨fu', rfl⟩ : ∃ q, fu' = q + 1 := ⟨fu' - 1, by omega⟩
    rcases h (wl3 b fu) (wl0 b' fu') n a0 a1 a2 σ  τ hI with hr | ⟨m, x0, x1, x2, s, t, hm, hI', he, he'⟩
    · exact hr
    · show ∃ r r', b (wl3 b fu) a0 a1 a2 σ = some r ∧ b' (wl0 b' fu')  τ = some r' ∧ Q r r'
      rw [he, he']
      exact ih m hm fu fu' x0 x1 x2 s  t (by omega) (by omega) hI'
theorem pl31 {A0 A1 A2 B0 R R' : Type} {b : (A0 → A1 → A2 → M2 → Option R) → A0 → A1 → A2 → M2 → Option R} {b' : (B0 → M2 → Option R') → B0 → M2 → Option R'} (I : Nat → A0 → A1 → A2 → M2 → B0 → M2 → Prop) (Q : R → R' → Prop) (h : ∀ (k : A0 → A1 → A2 → M2 → Option R) (k' : B0 → M2 → Option R') n a0 a1 a2 σ c0 τ, I n a0 a1 a2 σ c0 τ → (∃ r r', b k a0 a1 a2 σ = some r ∧ b' k' c0 τ = some r' ∧ Q r r') ∨ (∃ m x0 x1 x2 s y0 t, m < n ∧ I m x0 x1 x2 s y0 t ∧ b k a0 a1 a2 σ = k x0 x1 x2 s ∧ b' k' c0 τ = k' y0 t)) : ∀ n fu fu' a0 a1 a2 σ c0 τ, n < fu → n < fu' → I n a0 a1 a2 σ c0 τ → ∃ r r', wl3 b fu a0 a1 a2 σ = some r ∧ wl1 b' fu' c0 τ = some r' ∧ Q r r' := by
  intro n
  induction n using Nat.strongRecOn with
  | ind n ih =>
    intro fu fu' a0 a1 a2 σ c0 τ hf hf' hI
    obtain ⟨fu, rfl⟩ : ∃ q, fu = q + 1 := ⟨fu - 1, by omega⟩
    obtain ⟨fu', rfl⟩ : ∃ q, fu' = q + 1 := ⟨fu' - 1, by omega⟩
    rcases h (wl3 b fu) (wl1 b' fu') n a0 a1 a2 σ c0 τ hI with hr | ⟨m, x0, x1, x2, s, y0, t, hm, hI', he, he'⟩
    · exact hr
    · show ∃ r r', b (wl3 b fu) a0 a1 a2 σ = some r ∧ b' (wl1 b' fu') c0 τ = some r' ∧ Q r r'
      rw [he, he']
      exact ih m hm fu fu' x0 x1 x2 s y0 t (by omega) (by omega) hI'
theorem pl32 {A0 A1 A2 B0 B1 R R' : Type} {b : (A0 → A1 → A2 → M2 → Option R) → A0 → A1 → A2 → M2 → Option R} {b' : (B0 → B1 → M2 → Option R') → B0 → B1 → M2 → Option R'} (I : Nat → A0 → A1 → A2 → M2 → B0 → B1 → M2 → Prop) (Q : R → R' → Prop) (h : ∀ (k : A0 → A1 → A2 → M2 → Option R) (k' : B0 → B1 → M2 → Option R') n a0 a1 a2 σ c0 c1 τ, I n a0 a1 a2 σ c0 c1 τ → (∃ r r', b k a0 a1 a2 σ = some r ∧ b' k' c0 c1 τ = some r' ∧ Q r r') ∨ (∃ m x0 x1 x2 s y0 y1 t, m < n ∧ I m x0 x1 x2 s y0 y1 t ∧ b k a0 a1 a2 σ = k x0 x1 x2 s ∧ b' k' c0 c1 τ = k' y0 y1 t)) : ∀ n fu fu' a0 a1 a2 σ c0 c1 τ, n < fu → n < fu' → I n a0 a1 a2 σ c0 c1 τ → ∃ r r', wl3 b fu a0 a1 a2 σ = some r ∧ wl2 b' fu' c0 c1 τ = some r' ∧ Q r r' := by
  intro n
  induction n using Nat.strongRecOn with
  | ind n ih =>
    intro fu fu' a0 a1 a2 σ c0 c1 τ hf hf' hI
    obtain ⟨fu, rfl⟩ : ∃ q, fu = q + 1 := ⟨fu - 1, by omega⟩
    obtain ⟨fu', rfl⟩ : ∃ q, fu' = q + 1 := ⟨fu' - 1, by omega⟩
    rcases h (wl3 b fu) (wl2 b' fu') n a0 a1 a2 σ c0 c1 τ hI with hr | ⟨m, x0, x1, x2, s, y0, y1, t, hm, hI', he, he'⟩
    · exact hr
    · show ∃ r r', b (wl3 b fu) a0 a1 a2 σ = some r ∧ b' (wl2 b' fu') c0 c1 τ = some r' ∧ Q r r'
      rw [he, he']
      exact ih m hm fu fu' x0 x1 x2 s y0 y1 t (by omega) (by omega) hI'
theorem pl33 {A0 A1 A2 B0 B1 B2 R R' : Type} {b : (A0 → A1 → A2 → M2 → Option R) → A0 → A1 → A2 → M2 → Option R} {b' : (B0 → B1 → B2 → M2 → Option R') → B0 → B1 → B2 → M2 → Option R'} (I : Nat → A0 → A1 → A2 → M2 → B0 → B1 → B2 → M2 → Prop) (Q : R → R' → Prop) (h : ∀ (k : A0 → A1 → A2 → M2 → Option R) (k' : B0 → B1 → B2 → M2 → Option R') n a0 a1 a2 σ c0 c1 c2 τ, I n a0 a1 a2 σ c0 c1 c2 τ → (∃ r r', b k a0 a1 a2 σ = some r ∧ b' k' c0 c1 c2 τ = some r' ∧ Q r r') ∨ (∃ m x0 x1 x2 s y0 y1 y2 t, m < n ∧ I m x0 x1 x2 s y0 y1 y2 t ∧ b k a0 a1 a2 σ = k x0 x1 x2 s ∧ b' k' c0 c1 c2 τ = k' y0 y1 y2 t)) : ∀ n fu fu' a0 a1 a2 σ c0 c1 c2 τ, n < fu → n < fu' → I n a0 a1 a2 σ c0 c1 c2 τ → ∃ r r', wl3 b fu a0 a1 a2 σ = some r ∧ wl3 b' fu' c0 c1 c2 τ = some r' ∧ Q r r' := by
  intro n
  induction n using Nat.strongRecOn with
  | ind n ih =>
    intro fu fu' a0 a1 a2 σ c0 c1 c2 τ hf hf' hI
    obtain ⟨fu, rfl⟩ : ∃ q, fu = q + 1 := ⟨fu - 1, by omega⟩
    obtain ⟨fu', rfl⟩ : ∃ q, fu' = q + 1 := ⟨fu' - 1, by omega⟩
    rcases h (wl3 b fu) (wl3 b' fu') n a0 a1 a2 σ c0 c1 c2 τ hI with hr | ⟨m, x0, x1, x2, s, y0, y1, y2, t, hm, hI', he, he'⟩
    · exact hr
    · show ∃ r r', b (wl3 b fu) a0 a1 a2 σ = some r ∧ b' (wl3 b' fu') c0 c1 c2 τ = some r' ∧ Q r r'
      rw [he, he']
      exact ih m hm fu fu' x0 x1 x2 s y0 y1 y2 t (by omega) (by omega) hI'
