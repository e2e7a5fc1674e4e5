section
/-! the stream of tokens; the class's cut -/
def rn (f : Nat → Int32) (a b : Int32) : Nat → Nat → Nat
  | 0, i => i
  | m + 1, i => if wi (f i) a b = 0 then i else rn f a b m (i + 1)
theorem rn_le {f : Nat → Int32} {a b : Int32} : ∀ m i, i ≤ rn f a b m i ∧ rn f a b m i ≤ i + m
  | 0, i => ⟨Nat.le_refl _, Nat.le_refl _⟩
  | m + 1, i => by
    unfold rn
    by_cases h : wi (f i) a b = 0
    · rw [if_pos h]; omega
    · rw [if_neg h]
      have := rn_le (f := f) (a := a) (b := b) m (i + 1)
      omega
theorem rn_in {f : Nat → Int32} {a b : Int32} : ∀ m i k, i ≤ k → k < rn f a b m i → ¬ wi (f k) a b = 0
  | 0, i, k, h1, h2 => by unfold rn at h2; omega
  | m + 1, i, k, h1, h2 => by
    unfold rn at h2
    by_cases h : wi (f i) a b = 0
    · rw [if_pos h] at h2; omega
    · rw [if_neg h] at h2
      by_cases hk : k = i
      · rw [hk]; exact h
      · exact rn_in m (i + 1) k (by omega) h2
def sk (f : Nat → Int32) : Nat → Nat → Nat
  | 0, i => i
  | m + 1, i => if f i = 32 then sk f m (i + 1) else if f i = 10 then sk f m (i + 1) else i
def blk (x : Int32) : Prop := x = 32 ∨ x = 10
theorem sk_s {f : Nat → Int32} {m i : Nat} : sk f (m + 1) i = if f i = 32 then sk f m (i + 1) else if f i = 10 then sk f m (i + 1) else i := rfl
theorem sk_b {f : Nat → Int32} {m i : Nat} (h : blk (f i)) : sk f (m + 1) i = sk f m (i + 1) := by
  rw [sk_s]
  rcases h with h | h
  · rw [if_pos h]
  · rw [if_neg (by rw [h]; decide), if_pos h]
theorem sk_n {f : Nat → Int32} {m i : Nat} (h : ¬ blk (f i)) : sk f (m + 1) i = i := by
  rw [sk_s]
  rw [if_neg (fun e => h (Or.inl e)), if_neg (fun e => h (Or.inr e))]
theorem sk_le {f : Nat → Int32} : ∀ m i, i ≤ sk f m i ∧ sk f m i ≤ i + m
  | 0, i => ⟨Nat.le_refl _, Nat.le_refl _⟩
  | m + 1, i => by
    by_cases h : blk (f i)
    · rw [sk_b h]
      have := sk_le (f := f) m (i + 1)
      omega
    · rw [sk_n h]; omega
theorem sk_in {f : Nat → Int32} : ∀ m i k, i ≤ k → k < sk f m i → blk (f k)
  | 0, i, k, h1, h2 => by unfold sk at h2; omega
  | m + 1, i, k, h1, h2 => by
    by_cases h : blk (f i)
    · rw [sk_b h] at h2
      by_cases hk : k = i
      · rw [hk]; exact h
      · exact sk_in m (i + 1) k (by omega) h2
    · rw [sk_n h] at h2; omega
theorem sk_out {f : Nat → Int32} : ∀ m i, sk f m i < i + m → ¬ blk (f (sk f m i))
  | 0, i, h => by unfold sk at h; omega
  | m + 1, i, h => by
    by_cases hb : blk (f i)
    · rw [sk_b hb] at h ⊢
      exact sk_out m (i + 1) (by omega)
    · rw [sk_n hb]; exact hb
/-- the end of the token that begins at i -/
def eT (f : Nat → Int32) (s i : Nat) : Nat := if ¬ wi (f i) 97 122 = 0 then rn f 97 122 (s - (i + 1)) (i + 1) else if ¬ wi (f i) 48 57 = 0 then rn f 48 57 (s - (i + 1)) (i + 1) else i + 1
theorem eT_le {f : Nat → Int32} {s i : Nat} (h : i < s) : i < eT f s i ∧ eT f s i ≤ s := by
  unfold eT
  have h1 := rn_le (f := f) (a := 97) (b := 122) (s - (i + 1)) (i + 1)
  have h2 := rn_le (f := f) (a := 48) (b := 57) (s - (i + 1)) (i + 1)
  by_cases c : ¬ wi (f i) 97 122 = 0
  · rw [if_pos c]; omega
  · rw [if_neg c]
    by_cases c2 : ¬ wi (f i) 48 57 = 0
    · rw [if_pos c2]; omega
    · rw [if_neg c2]; omega
/-! words -/
def wlenL : List Nat := [5, 5, 4, 5, 4, 3, 4, 7, 4, 2, 3, 3]
def wlen (k : Nat) : Nat := wlenL.getD k 0
def wch (k c : Nat) : Int32 := wordsL.getD (8 * k + c) 0
def mwB (f : Nat → Int32) (i e k : Nat) : Bool := Nat.beq (e - i) (wlen k) && (List.range (wlen k)).all (fun c => decide (f (i + c) = wch k c))
theorem mwB_1 {f : Nat → Int32} {i e k : Nat} (h : mwB f i e k = true) : e - i = wlen k ∧ ∀ c, c < wlen k → f (i + c) = wch k c := by
  unfold mwB at h
  rw [Bool.and_eq_true] at h
  exact ⟨Nat.eq_of_beq_eq_true h.1, fun c hc => of_decide_eq_true (List.all_eq_true.mp h.2 c (List.mem_range.mpr hc))⟩
theorem mwB_2 {f : Nat → Int32} {i e k : Nat} (h1 : e - i = wlen k) (h2 : ∀ c, c < wlen k → f (i + c) = wch k c) : mwB f i e k = true := by
  unfold mwB
  rw [Bool.and_eq_true]
  exact ⟨by rw [h1]; exact Nat.beq_refl _, List.all_eq_true.mpr (fun c hc => decide_eq_true (h2 c (List.mem_range.mp hc)))⟩
theorem words_apart : ∀ k, k < 12 → ∀ k', k' < 12 → k ≠ k' → wlen k ≠ wlen k' ∨ ∃ c, c < wlen k ∧ wch k c ≠ wch k' c := by decide +kernel
def fwk (g : Nat → Bool) : Nat → Nat → Nat
  | 0, k => k
  | m + 1, k => match g k with
    | true => k
    | false => fwk g m (k + 1)
def wk (f : Nat → Int32) (i e : Nat) : Nat := fwk (mwB f i e) 12 0
theorem fwk_le {g : Nat → Bool} : ∀ m k, k ≤ fwk g m k ∧ fwk g m k ≤ k + m
  | 0, k => ⟨Nat.le_refl _, Nat.le_refl _⟩
  | m + 1, k => by
    unfold fwk
    cases g k with
    | true => exact ⟨Nat.le_refl _, by show k ≤ _; omega⟩
    | false =>
      have := fwk_le (g := g) m (k + 1)
      exact ⟨by show k ≤ fwk g m (k + 1); omega, by show fwk g m (k + 1) ≤ _; omega⟩
theorem fwk_lt {g : Nat → Bool} : ∀ m k q, k ≤ q → q < fwk g m k → g q = false
  | 0, k, q, h1, h2 => by unfold fwk at h2; omega
  | m + 1, k, q, h1, h2 => by
    unfold fwk at h2
    cases e : g k with
    | true => rw [e] at h2; dsimp only at h2; omega
    | false =>
      rw [e] at h2
      by_cases hq : q = k
      · rw [hq]; exact e
      · exact fwk_lt m (k + 1) q (by omega) h2
theorem fwk_at {g : Nat → Bool} : ∀ m k, fwk g m k < k + m → g (fwk g m k) = true
  | 0, k, h => by unfold fwk at h; omega
  | m + 1, k, h => by
    unfold fwk at h ⊢
    cases e : g k with
    | true => exact e
    | false =>
      rw [e] at h
      have h : fwk g m (k + 1) < k + (m + 1) := h
      exact fwk_at m (k + 1) (by omega)
theorem wk_le {f : Nat → Int32} {i e : Nat} : wk f i e ≤ 12 := (fwk_le 12 0).2
theorem mwB_wk {f : Nat → Int32} {i e k : Nat} (hk : k < 12) : mwB f i e k = Nat.beq k (wk f i e) := by
  by_cases h : k = wk f i e
  · rw [← h, Nat.beq_refl]
    rw [h]
    exact fwk_at 12 0 (by show wk f i e < _; omega)
  · have h0 : Nat.beq k (wk f i e) = false := by
      cases z : Nat.beq k (wk f i e) with
      | true => exact absurd (Nat.eq_of_beq_eq_true z) h
      | false => rfl
    rw [h0]
    rcases Nat.lt_or_ge k (wk f i e) with q | q
    · exact fwk_lt 12 0 k (by omega) q
    · have hw : mwB f i e (wk f i e) = true := fwk_at 12 0 (by show wk f i e < _; omega)
      cases z : mwB f i e k with
      | false => rfl
      | true =>
        exfalso
        obtain ⟨a1, a2⟩ := mwB_1 hw
        obtain ⟨b1, b2⟩ := mwB_1 z
        rcases words_apart k hk (wk f i e) (by omega) h with h3 | ⟨c, hc, h3⟩
        · exact h3 (by omega)
        · exact h3 (by rw [← b2 c hc, ← a2 c (by omega)])
/-- the class's word by the reference's -/
def caL : List Nat := [1, 2, 3, 7, 8, 9, 10, 11, 12, 4, 5, 6]
theorem ca_str : ∀ k, k < 12 → caL.getD k 0 < 13 ∧ strLen.getD (caL.getD k 0) 0 = wlen k ∧ wlen k ≤ 7 ∧ 0 < wlen k ∧ ∀ c, c < wlen k → (strByt.getD (caL.getD k 0) []).getD c 0 = wch k c := by decide +kernel
def b01 (b : Bool) : Int32 := match b with
  | true => 1
  | false => 0
theorem isWordC {i e k : Nat} {σ : M2} {fu : Nat} (hk : k < 12) (hi : i ≤ e) (he : e ≤ 160) (hfu : 161 < fu) : F8_isWord fu (caL.getD k 0) (nI i) (nI e) σ = some (b01 (mwB (σ 37) i e k), σ) := by
  obtain ⟨h1, h2, h3, h4, h5⟩ := ca_str k hk
  have key : ∃ p, F8_isWord fu (caL.getD k 0) (nI i) (nI e) σ = some p ∧ p = (b01 (mwB (σ 37) i e k), σ) := by
    unfold F8_isWord
    rw [gd_t (decide_eq_true h1), h2, pk_sub hi]
    by_cases hl : e - i = wlen k
    · rw [if_pos (show Int32.ofNat (wlen k) = nI (e - i) by rw [hl]; rfl)]
      unfold F8_isWord_15
      refine sl1 (R := Int32 × M2) (fun q x4 s => ∃ c, q = wlen k - c ∧ c ≤ wlen k ∧ x4 = nI c ∧ s = σ ∧ ∀ j, j < c → σ 37 (i + j) = wch k j) (fun p => p = (b01 (mwB (σ 37) i e k), σ)) ?_ (wlen k) fu 0 σ (by omega) ⟨0, rfl, by omega, rfl, rfl, fun j hj => by omega⟩
      intro k15 q x4 s hI
      obtain ⟨c, rfl, hc, rfl, rfl, hj⟩ := hI
      rw [gd_t (decide_eq_true h1), h2]
      show (∃ r, (if nI (wlen k) ≤ nI c then _ else _) = some r ∧ _) ∨ (∃ m x0 s', _ ∧ _ ∧ (if nI (wlen k) ≤ nI c then _ else _) = _)
      by_cases hcl : wlen k ≤ c
      · left
        obtain rfl : c = wlen k := by omega
        rw [if_pos (nI_le (Nat.le_refl _) (by omega)), mwB_2 hl hj]
        exact ⟨_, rfl, rfl⟩
      · rw [if_neg (nI_ge (by omega) (by omega)), gd_t (inb_t (by omega) (by omega)), nI_add, fat (N := 160) (by decide) (by omega) (by omega), bnd_s, nI_c (by omega), h5 c (by omega)]
        by_cases hm : wch k c = s 37 (i + c)
        · right
          rw [if_pos hm]
          refine ⟨wlen k - (c + 1), _, _, by omega, ⟨c + 1, rfl, by omega, by rw [nI_1], rfl, fun j hj2 => ?_⟩, rfl⟩
          by_cases hjc : j = c
          · rw [hjc]; exact hm.symm
          · exact hj j (by omega)
        · left
          rw [if_neg hm]
          refine ⟨_, rfl, ?_⟩
          cases z : mwB (s 37) i e k with
          | false => rfl
          | true => exact absurd ((mwB_1 z).2 c (by omega)).symm hm
    · rw [if_neg (show ¬ Int32.ofNat (wlen k) = nI (e - i) from fun z => hl ((nI_eq (by omega) (by omega)).mp z).symm)]
      refine ⟨_, rfl, ?_⟩
      cases z : mwB (σ 37) i e k with
      | false => rfl
      | true => exact absurd (mwB_1 z).1 hl
  obtain ⟨p, k1, rfl⟩ := key
  exact k1
def wcL : List Nat := [2, 3, 4, 256, 257, 258, 259, 260, 261, 5, 6, 7, 0]
def wcode (k : Nat) : Nat := wcL.getD k 0
theorem wordC {i e : Nat} {σ : M2} {fu : Nat} (hi : i ≤ e) (he : e ≤ 160) (hfu : 161 < fu) : F8_word fu (nI i) (nI e) σ = some (nI (wcode (wk (σ 37) i e)), σ) := by
  have h1 : F8_isWord fu 1 (nI i) (nI e) σ = some (b01 (Nat.beq 0 (wk (σ 37) i e)), σ) := by rw [← mwB_wk (by omega)]; exact isWordC (k := 0) (by omega) hi he hfu
  have h2 : F8_isWord fu 2 (nI i) (nI e) σ = some (b01 (Nat.beq 1 (wk (σ 37) i e)), σ) := by rw [← mwB_wk (by omega)]; exact isWordC (k := 1) (by omega) hi he hfu
  have h3 : F8_isWord fu 3 (nI i) (nI e) σ = some (b01 (Nat.beq 2 (wk (σ 37) i e)), σ) := by rw [← mwB_wk (by omega)]; exact isWordC (k := 2) (by omega) hi he hfu
  have h4 : F8_isWord fu 4 (nI i) (nI e) σ = some (b01 (Nat.beq 9 (wk (σ 37) i e)), σ) := by rw [← mwB_wk (by omega)]; exact isWordC (k := 9) (by omega) hi he hfu
  have h5 : F8_isWord fu 5 (nI i) (nI e) σ = some (b01 (Nat.beq 10 (wk (σ 37) i e)), σ) := by rw [← mwB_wk (by omega)]; exact isWordC (k := 10) (by omega) hi he hfu
  have h6 : F8_isWord fu 6 (nI i) (nI e) σ = some (b01 (Nat.beq 11 (wk (σ 37) i e)), σ) := by rw [← mwB_wk (by omega)]; exact isWordC (k := 11) (by omega) hi he hfu
  have h7 : F8_isWord fu 7 (nI i) (nI e) σ = some (b01 (Nat.beq 3 (wk (σ 37) i e)), σ) := by rw [← mwB_wk (by omega)]; exact isWordC (k := 3) (by omega) hi he hfu
  have h8 : F8_isWord fu 8 (nI i) (nI e) σ = some (b01 (Nat.beq 4 (wk (σ 37) i e)), σ) := by rw [← mwB_wk (by omega)]; exact isWordC (k := 4) (by omega) hi he hfu
  have h9 : F8_isWord fu 9 (nI i) (nI e) σ = some (b01 (Nat.beq 5 (wk (σ 37) i e)), σ) := by rw [← mwB_wk (by omega)]; exact isWordC (k := 5) (by omega) hi he hfu
  have h10 : F8_isWord fu 10 (nI i) (nI e) σ = some (b01 (Nat.beq 6 (wk (σ 37) i e)), σ) := by rw [← mwB_wk (by omega)]; exact isWordC (k := 6) (by omega) hi he hfu
  have h11 : F8_isWord fu 11 (nI i) (nI e) σ = some (b01 (Nat.beq 7 (wk (σ 37) i e)), σ) := by rw [← mwB_wk (by omega)]; exact isWordC (k := 7) (by omega) hi he hfu
  have h12 : F8_isWord fu 12 (nI i) (nI e) σ = some (b01 (Nat.beq 8 (wk (σ 37) i e)), σ) := by rw [← mwB_wk (by omega)]; exact isWordC (k := 8) (by omega) hi he hfu
  have h0 := wk_le (f := σ 37) (i := i) (e := e)
  generalize wk (σ 37) i e = k at *
  unfold F8_word
  rcases (show k = 0 ∨ k = 1 ∨ k = 2 ∨ k = 3 ∨ k = 4 ∨ k = 5 ∨ k = 6 ∨ k = 7 ∨ k = 8 ∨ k = 9 ∨ k = 10 ∨ k = 11 ∨ k = 12 by omega) with rfl | rfl | rfl | rfl | rfl | rfl | rfl | rfl | rfl | rfl | rfl | rfl | rfl
  · rw [h1, bnd_s, if_neg (by decide)]
    try rfl
  · rw [h1, bnd_s, if_pos (by decide), h2, bnd_s, if_neg (by decide)]
    try rfl
  · rw [h1, bnd_s, if_pos (by decide), h2, bnd_s, if_pos (by decide), h3, bnd_s, if_neg (by decide)]
    try rfl
  · rw [h1, bnd_s, if_pos (by decide), h2, bnd_s, if_pos (by decide), h3, bnd_s, if_pos (by decide), h4, bnd_s, if_pos (by decide), h5, bnd_s, if_pos (by decide), h6, bnd_s, if_pos (by decide), h7, bnd_s, if_neg (by decide)]
    try rfl
  · rw [h1, bnd_s, if_pos (by decide), h2, bnd_s, if_pos (by decide), h3, bnd_s, if_pos (by decide), h4, bnd_s, if_pos (by decide), h5, bnd_s, if_pos (by decide), h6, bnd_s, if_pos (by decide), h7, bnd_s, if_pos (by decide), h8, bnd_s, if_neg (by decide)]
    try rfl
  · rw [h1, bnd_s, if_pos (by decide), h2, bnd_s, if_pos (by decide), h3, bnd_s, if_pos (by decide), h4, bnd_s, if_pos (by decide), h5, bnd_s, if_pos (by decide), h6, bnd_s, if_pos (by decide), h7, bnd_s, if_pos (by decide), h8, bnd_s, if_pos (by decide), h9, bnd_s, if_neg (by decide)]
    try rfl
  · rw [h1, bnd_s, if_pos (by decide), h2, bnd_s, if_pos (by decide), h3, bnd_s, if_pos (by decide), h4, bnd_s, if_pos (by decide), h5, bnd_s, if_pos (by decide), h6, bnd_s, if_pos (by decide), h7, bnd_s, if_pos (by decide), h8, bnd_s, if_pos (by decide), h9, bnd_s, if_pos (by decide), h10, bnd_s, if_neg (by decide)]
    try rfl
  · rw [h1, bnd_s, if_pos (by decide), h2, bnd_s, if_pos (by decide), h3, bnd_s, if_pos (by decide), h4, bnd_s, if_pos (by decide), h5, bnd_s, if_pos (by decide), h6, bnd_s, if_pos (by decide), h7, bnd_s, if_pos (by decide), h8, bnd_s, if_pos (by decide), h9, bnd_s, if_pos (by decide), h10, bnd_s, if_pos (by decide), h11, bnd_s, if_neg (by decide)]
    try rfl
  · rw [h1, bnd_s, if_pos (by decide), h2, bnd_s, if_pos (by decide), h3, bnd_s, if_pos (by decide), h4, bnd_s, if_pos (by decide), h5, bnd_s, if_pos (by decide), h6, bnd_s, if_pos (by decide), h7, bnd_s, if_pos (by decide), h8, bnd_s, if_pos (by decide), h9, bnd_s, if_pos (by decide), h10, bnd_s, if_pos (by decide), h11, bnd_s, if_pos (by decide), h12, bnd_s, if_neg (by decide)]
    try rfl
  · rw [h1, bnd_s, if_pos (by decide), h2, bnd_s, if_pos (by decide), h3, bnd_s, if_pos (by decide), h4, bnd_s, if_neg (by decide)]
    try rfl
  · rw [h1, bnd_s, if_pos (by decide), h2, bnd_s, if_pos (by decide), h3, bnd_s, if_pos (by decide), h4, bnd_s, if_pos (by decide), h5, bnd_s, if_neg (by decide)]
    try rfl
  · rw [h1, bnd_s, if_pos (by decide), h2, bnd_s, if_pos (by decide), h3, bnd_s, if_pos (by decide), h4, bnd_s, if_pos (by decide), h5, bnd_s, if_pos (by decide), h6, bnd_s, if_neg (by decide)]
    try rfl
  · rw [h1, bnd_s, if_pos (by decide), h2, bnd_s, if_pos (by decide), h3, bnd_s, if_pos (by decide), h4, bnd_s, if_pos (by decide), h5, bnd_s, if_pos (by decide), h6, bnd_s, if_pos (by decide), h7, bnd_s, if_pos (by decide), h8, bnd_s, if_pos (by decide), h9, bnd_s, if_pos (by decide), h10, bnd_s, if_pos (by decide), h11, bnd_s, if_pos (by decide), h12, bnd_s, if_pos (by decide)]
    try rfl
end
