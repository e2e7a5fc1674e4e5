/-! the relation of both memories between two calls -/
def TapeR (σ τ : M2) : Prop := ∃ s : Nat, s ≤ 160 ∧ σ 36 3 = nI s ∧ τ 0 7 = nI s ∧ ∀ k, k < s → σ 37 k = τ 5 k ∧ ∃ z : Nat, z < 256 ∧ σ 37 k = nI z
def ShR (σ τ : M2) (i : Nat) : Prop := (σ (59 + 2 * i) 1 = -1 ∧ τ 10 i = -1 ∧ σ (59 + 2 * i) 2 = 0 ∧ τ 11 i = 0) ∨ (∃ so m : Nat, so ≤ 2 ∧ m ≤ 40 ∧ σ (59 + 2 * i) 1 = nI so ∧ τ 10 i = nI so ∧ σ (59 + 2 * i) 2 = nI m ∧ τ 11 i = nI m ∧ ∀ k, k < 40 → σ (60 + 2 * i) k = τ 12 (40 * i + k))
def ImgR (n r t : Nat) (σ τ : M2) : Prop := (σ 0 13 = 0 ∧ τ 0 12 = 0) ∨ (σ 0 13 = 1 ∧ τ 0 12 = 1 ∧ ∃ n' r' w' : Nat, n' ≤ n ∧ r' ≤ r ∧ w' < t ∧ σ 68 3 = nI n' ∧ τ 9 1 = nI n' ∧ σ 72 4 = nI r' ∧ τ 9 0 = nI r' ∧ σ 0 12 = nI w' ∧ τ 9 2 = nI w' ∧
  (∀ k, k < n' → σ 69 k = τ 8 (3 * k) ∧ σ 70 k = τ 8 (3 * k + 1) ∧ σ 71 k = τ 8 (3 * k + 2) ∧ in99 (σ 69 k) ∧ in99 (σ 70 k) ∧ in99 (σ 71 k)) ∧
  (∀ k, k < r' → σ 75 k = τ 8 (24 + 2 * k) ∧ σ 76 k = τ 8 (24 + (2 * k + 1)) ∧ (∃ z : Nat, z < 2 ^ n' ∧ σ 75 k = nI z) ∧ (∃ z : Nat, z ≤ 3 ∧ σ 76 k = nI z)))
def RT (t : Nat) (σ τ : M2) : Prop := t ≤ 6 ∧ σ 10 1 = nI t ∧ τ 0 10 = nI t ∧ ∀ i, i < t → TR σ τ i
def wordsL : List Int32 := [121, 97, 114, 100, 115, 32, 32, 32, 119, 111, 114, 116, 104, 32, 32, 32, 110, 111, 110, 101, 32, 32, 32, 32, 115, 112, 101, 101, 100, 32, 32, 32, 108, 117, 99, 107, 32, 32, 32, 32, 119, 111, 110, 32, 32, 32, 32, 32, 109, 111, 114, 101, 32, 32, 32, 32, 114, 117, 110, 110, 101, 114, 115, 32, 114, 97, 99, 101, 32, 32, 32, 32, 111, 114, 32, 32, 32, 32, 32, 32, 97, 110, 100, 32, 32, 32, 32, 32, 110, 111, 116, 32, 32, 32, 32, 32]
def MisR (τ : M2) : Prop := (∀ k, k < 6 → τ 22 k = nI k) ∧ τ 0 39 = -1 ∧ ∀ k, k < 96 → τ 14 k = wordsL.getD k 0
def RA (n r t w : Nat) (σ τ : M2) : Prop := RD n r w σ τ ∧ w < t ∧ RT t σ τ ∧ TapeR σ τ ∧ (∀ i, i < 4 → ShR σ τ i) ∧ ImgR n r t σ τ ∧ MisR τ
def R (σ τ : M2) : Prop := ∃ n r t w, RA n r t w σ τ
/-- what no call's later answer shows -/
def xC (o k : Nat) : Prop := dC o k ∨ o = 38 ∨ o = 39 ∨ o = 40 ∨ (o = 36 ∧ k = 4) ∨ o = 47 ∨ (49 ≤ o ∧ o ≤ 57) ∨ o = 67 ∨ (o = 0 ∧ 14 ≤ k ∧ k ≤ 16)
def xM (o k : Nat) : Prop := dM o k ∨ o = 15 ∨ o = 23 ∨ (o = 0 ∧ ((19 ≤ k ∧ k ≤ 22) ∨ (25 ≤ k ∧ k ≤ 27) ∨ (40 ≤ k ∧ k ≤ 43)))
theorem xC_no {o k : Nat} (h : (0 < o ∧ o < 12) ∨ (36 ≤ o ∧ o ≤ 37 ∧ ¬ (o = 36 ∧ k = 4)) ∨ o = 48 ∨ (58 ≤ o ∧ o ≠ 67) ∨ (o = 0 ∧ (k < 14 ∨ 16 < k))) : ¬ xC o k := by
  rintro (h1 | h2)
  · exact dC_no (by omega) h1
  · omega
theorem xC_tx {i k : Nat} (hi : i < 6) : ¬ xC (13 + 4 * i) k ∧ ¬ xC (14 + 4 * i) k := by
  refine ⟨?_, ?_⟩
  · rintro (h1 | h2)
    · exact (dC_tx hi).1 h1
    · omega
  · rintro (h1 | h2)
    · exact (dC_tx hi).2 h1
    · omega
theorem xM_no {o k : Nat} (h : (0 < o ∧ o < 15) ∨ o = 22 ∨ 24 ≤ o ∨ (o = 0 ∧ (k < 19 ∨ (22 < k ∧ k < 25) ∨ (27 < k ∧ k < 33) ∨ (36 < k ∧ k < 40) ∨ 43 < k))) : ¬ xM o k := by
  rintro (h1 | h2)
  · exact dM_no (by omega) h1
  · omega
theorem Seg.frx {σ τ σ' τ' : M2} {i lo hi : Nat} (h : Seg σ τ i lo hi) (e13 : σ' (13 + 4 * i) = σ (13 + 4 * i)) (e6 : ∀ k, k < 200 → τ' 6 (200 * i + k) = τ 6 (200 * i + k)) : Seg σ' τ' i lo hi := by
  refine ⟨h.1, h.2.1, fun k h1 h2 => ?_, ?_⟩
  · rw [e13, e6 k (by have := h.2.1; omega)]
    exact h.2.2.1 k h1 h2
  · rw [e13]; exact h.2.2.2
theorem TR.frx {σ τ σ' τ' : M2} {i : Nat} (h : TR σ τ i) (e13 : σ' (13 + 4 * i) = σ (13 + 4 * i)) (e14 : σ' (14 + 4 * i) = σ (14 + 4 * i)) (e6 : ∀ k, k < 200 → τ' 6 (200 * i + k) = τ 6 (200 * i + k)) (e7 : ∀ k, k < 4 → τ' 7 (4 * i + k) = τ 7 (4 * i + k)) : TR σ' τ' i := by
  obtain ⟨e0, e1, e2, h1, h2, h3, h4, h5, h6, h7, s1, s2, s3⟩ := h
  refine ⟨e0, e1, e2, by rw [e14]; exact h1, by rw [e14]; exact h2, by rw [e14]; exact h3, ?_, ?_, ?_, ?_, s1.frx e13 e6, s2.frx e13 e6, s3.frx e13 e6⟩
  · have := e7 0 (by omega); rw [Nat.add_zero] at this; rw [this]; exact h4
  · rw [e7 1 (by omega)]; exact h5
  · rw [e7 2 (by omega)]; exact h6
  · rw [e7 3 (by omega)]; exact h7
theorem TR.fr2 {σ τ σ' τ' : M2} {i : Nat} (h : TR σ τ i) (hi : i < 6) (hf : Fr xC σ σ') (hg : Fr xM τ τ') : TR σ' τ' i :=
  h.frx (funext fun k => hf _ _ (xC_tx hi).1) (funext fun k => hf _ _ (xC_tx hi).2) (fun k _ => hg _ _ (xM_no (by omega))) (fun k _ => hg _ _ (xM_no (by omega)))
theorem RD.fr2 {n r w : Nat} {σ τ σ' τ' : M2} (h : RD n r w σ τ) (hf : Fr xC σ σ') (hg : Fr xM τ τ') : RD n r w σ' τ' := by
  obtain ⟨h1, h2, h3, h4, h5, h6, h7, h8, h9, h10, h11, h12⟩ := h
  have c : ∀ o k, (0 < o ∧ o < 12) → σ' o k = σ o k := fun o k q => hf o k (xC_no (Or.inl q))
  have m : ∀ o k, (0 < o ∧ o < 15) → τ' o k = τ o k := fun o k q => hg o k (xM_no (Or.inl q))
  refine ⟨h1, h2, h3, ?_, ?_, ?_, ?_, fun k hk => ?_, fun k hk => ?_, ?_, ?_, h12.fr2 h3 hf hg⟩
  · rw [c 1 _ (by omega)]; exact h4
  · rw [hg 0 _ (xM_no (by omega))]; exact h5
  · rw [c 5 _ (by omega)]; exact h6
  · rw [hg 0 _ (xM_no (by omega))]; exact h7
  · have := h8 k hk
    unfold Kid at this ⊢
    rw [c 2 _ (by omega), c 3 _ (by omega), c 4 _ (by omega), m 1 _ (by omega), m 1 _ (by omega), m 1 _ (by omega)]
    exact this
  · have := h9 k hk
    unfold Rac at this ⊢
    rw [c 6 _ (by omega), c 7 _ (by omega), c 8 _ (by omega), c 9 _ (by omega), m 2 _ (by omega), m 3 _ (by omega), m 4 _ (by omega), m 4 _ (by omega)]
    exact this
  · rw [c 10 _ (by omega)]; exact h10
  · rw [hg 0 _ (xM_no (by omega))]; exact h11
theorem TapeR.fr {σ τ σ' τ' : M2} (h : TapeR σ τ) (e1 : σ' 36 3 = σ 36 3) (e2 : τ' 0 7 = τ 0 7) (e3 : ∀ k, k < 160 → σ' 37 k = σ 37 k) (e4 : ∀ k, k < 160 → τ' 5 k = τ 5 k) : TapeR σ' τ' := by
  obtain ⟨s, h1, h2, h3, h4⟩ := h
  refine ⟨s, h1, by rw [e1]; exact h2, by rw [e2]; exact h3, fun k hk => ?_⟩
  rw [e3 k (by omega), e4 k (by omega)]
  exact h4 k hk
theorem ShR.fr {σ τ σ' τ' : M2} {i : Nat} (h : ShR σ τ i) (e1 : ∀ k, σ' (59 + 2 * i) k = σ (59 + 2 * i) k) (e2 : ∀ k, σ' (60 + 2 * i) k = σ (60 + 2 * i) k) (e3 : τ' 10 i = τ 10 i) (e4 : τ' 11 i = τ 11 i) (e5 : ∀ k, k < 40 → τ' 12 (40 * i + k) = τ 12 (40 * i + k)) : ShR σ' τ' i := by
  unfold ShR
  rw [e1, e1, e3, e4]
  rcases h with h | ⟨so, m, a1, a2, a3, a4, a5, a6, a7⟩
  · exact Or.inl h
  · exact Or.inr ⟨so, m, a1, a2, a3, a4, a5, a6, fun k hk => by rw [e2, e5 k hk]; exact a7 k hk⟩
theorem ImgR.fr {n r t n1 r1 t1 : Nat} {σ τ σ' τ' : M2} (h : ImgR n r t σ τ) (hn : n ≤ n1) (hr : r ≤ r1) (ht : t ≤ t1) (e0 : ∀ k, 12 ≤ k → k ≤ 13 → σ' 0 k = σ 0 k) (e1 : τ' 0 12 = τ 0 12) (e2 : ∀ o k, 68 ≤ o → o ≤ 76 → σ' o k = σ o k) (e3 : ∀ o k, 8 ≤ o → o ≤ 9 → τ' o k = τ o k) : ImgR n1 r1 t1 σ' τ' := by
  unfold ImgR
  rw [e0 13 (by omega) (by omega), e0 12 (by omega) (by omega), e1, e2 68 3 (by omega) (by omega), e2 72 4 (by omega) (by omega), e3 9 0 (by omega) (by omega), e3 9 1 (by omega) (by omega), e3 9 2 (by omega) (by omega)]
  rcases h with h | ⟨a1, a2, n', r', w', b1, b2, b3, b4, b5, b6, b7, b8, b9, b10, b11⟩
  · exact Or.inl h
  · refine Or.inr ⟨a1, a2, n', r', w', by omega, by omega, by omega, b4, b5, b6, b7, b8, b9, fun k hk => ?_, fun k hk => ?_⟩
    · rw [e2 69 k (by omega) (by omega), e2 70 k (by omega) (by omega), e2 71 k (by omega) (by omega), e3 8 _ (by omega) (by omega), e3 8 _ (by omega) (by omega), e3 8 _ (by omega) (by omega)]
      exact b10 k hk
    · rw [e2 75 k (by omega) (by omega), e2 76 k (by omega) (by omega), e3 8 _ (by omega) (by omega), e3 8 _ (by omega) (by omega)]
      exact b11 k hk
theorem MisR.fr {τ τ' : M2} (h : MisR τ) (e1 : ∀ k, τ' 22 k = τ 22 k) (e2 : τ' 0 39 = τ 0 39) (e3 : ∀ k, τ' 14 k = τ 14 k) : MisR τ' :=
  ⟨fun k hk => by rw [e1]; exact h.1 k hk, by rw [e2]; exact h.2.1, fun k hk => by rw [e3]; exact h.2.2 k hk⟩
theorem RA.fr {n r t w : Nat} {σ τ σ' τ' : M2} (h : RA n r t w σ τ) (hf : Fr xC σ σ') (hg : Fr xM τ τ') : RA n r t w σ' τ' := by
  obtain ⟨h1, h2, ⟨t1, t2, t3, t4⟩, h4, h5, h6, h7⟩ := h
  refine ⟨h1.fr2 hf hg, h2, ⟨t1, ?_, ?_, fun i hi => (t4 i hi).fr2 (by omega) hf hg⟩, h4.fr (hf _ _ (xC_no (by omega))) (hg _ _ (xM_no (by omega))) (fun k _ => hf _ _ (xC_no (by omega))) (fun k _ => hg _ _ (xM_no (by omega))), fun i hi => (h5 i hi).fr (fun k => hf _ _ (xC_no (by omega))) (fun k => hf _ _ (xC_no (by omega))) (hg _ _ (xM_no (by omega))) (hg _ _ (xM_no (by omega))) (fun k _ => hg _ _ (xM_no (by omega))),
    h6.fr (Nat.le_refl _) (Nat.le_refl _) (Nat.le_refl _) (fun k a b => hf _ _ (xC_no (by omega))) (hg _ _ (xM_no (by omega))) (fun o k a b => hf _ _ (xC_no (by omega))) (fun o k a b => hg _ _ (xM_no (by omega))), h7.fr (fun k => hg _ _ (xM_no (by omega))) (hg _ _ (xM_no (by omega))) (fun k => hg _ _ (xM_no (by omega)))⟩
  · rw [hf _ _ (xC_no (by omega))]; exact t2
  · rw [hg _ _ (xM_no (by omega))]; exact t3
/-- two programs that answer alike and keep the relation -/
def Both (f g : M2 → Option (Int32 × M2)) : Prop := ∀ σ τ, R σ τ → ∃ v σ' τ', f σ = some (v, σ') ∧ g τ = some (v, τ') ∧ R σ' τ'
theorem isChildC {n : Nat} {c : Int32} {σ : M2} (h : σ 1 3 = nI n) : F11_isChild c σ = some (wi c 0 (nI n - 1), σ) := by
  unfold F11_isChild
  rw [h, fwi, bnd_s, gd_t (isZ_wi _ _ _)]
theorem isChildM {n : Nat} {c : Int32} {τ : M2} (h : τ 0 0 = nI n) : F12_isChild c τ = some (wi c 0 (nI n - 1), τ) := by
  unfold F12_isChild
  rw [h, gwi, bnd_s, gd_t (isZ_wi _ _ _)]
theorem isRaceC {n : Nat} {c : Int32} {σ : M2} (h : σ 5 4 = nI n) : F11_isRace c σ = some (wi c 0 (nI n - 1), σ) := by
  unfold F11_isRace
  rw [h, fwi, bnd_s, gd_t (isZ_wi _ _ _)]
theorem isRaceM {n : Nat} {c : Int32} {τ : M2} (h : τ 0 2 = nI n) : F12_isRace c τ = some (wi c 0 (nI n - 1), τ) := by
  unfold F12_isRace
  rw [h, gwi, bnd_s, gd_t (isZ_wi _ _ _)]
theorem areC {n : Nat} {c : Int32} {σ : M2} (h : σ 1 3 = nI n) : F11_areChildren c σ = some (wi c 0 ((1 <<< (nI n &&& 31)) - 1), σ) := by
  unfold F11_areChildren
  rw [h, fwi, bnd_s, gd_t (isZ_wi _ _ _)]
theorem areM {n : Nat} {c : Int32} {τ : M2} (h : τ 0 0 = nI n) : F12_areRunners c τ = some (wi c 0 ((1 <<< (nI n &&& 31)) - 1), τ) := by
  unfold F12_areRunners
  rw [h, gwi, bnd_s, gd_t (isZ_wi _ _ _)]
theorem one_shl : ∀ n, n ≤ 8 → ((1 : Int32) <<< (nI n &&& 31)) - 1 = nI (2 ^ n) - 1 := by decide
theorem are_n {n : Nat} {c : Int32} (hn : n ≤ 8) (h : ¬ wi c 0 ((1 <<< (nI n &&& 31)) - 1) = 0) : ∃ z, z < 2 ^ n ∧ c = nI z := by
  rw [one_shl n hn] at h
  exact wi_n (Nat.lt_of_le_of_lt (Nat.pow_le_pow_right (by omega) hn) (by decide)) h
