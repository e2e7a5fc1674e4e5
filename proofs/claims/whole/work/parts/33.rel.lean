/-! the two memories tell the same day -/
def in99 (x : Int32) : Prop := ∃ z : Nat, z ≤ 99 ∧ x = nI z
def Kid (σ τ : M2) (k : Nat) : Prop := σ 2 k = τ 1 (3 * k) ∧ σ 3 k = τ 1 (3 * k + 1) ∧ σ 4 k = τ 1 (3 * k + 2) ∧ in99 (σ 2 k) ∧ in99 (σ 3 k) ∧ in99 (σ 4 k)
def Rac (n : Nat) (σ τ : M2) (k : Nat) : Prop := σ 6 k = τ 2 k ∧ σ 7 k = τ 3 k ∧ σ 8 k = τ 4 (2 * k) ∧ σ 9 k = τ 4 (2 * k + 1) ∧ (∃ z : Nat, z ≤ 5 ∧ σ 6 k = nI z) ∧ (∃ z : Nat, z ≤ 9 ∧ σ 7 k = nI z) ∧ (∃ z : Nat, z < 2 ^ n ∧ σ 8 k = nI z) ∧ (∃ z : Nat, z ≤ 3 ∧ σ 9 k = nI z)
def TR (σ τ : M2) (i : Nat) : Prop := ∃ e0 e1 e2 : Nat, σ (14 + 4 * i) 0 = nI e0 ∧ σ (14 + 4 * i) 1 = nI e1 ∧ σ (14 + 4 * i) 2 = nI e2 ∧ τ 7 (4 * i) = nI 0 ∧ τ 7 (4 * i + 1) = nI e0 ∧ τ 7 (4 * i + 2) = nI e1 ∧ τ 7 (4 * i + 3) = nI e2 ∧ Seg σ τ i 0 e0 ∧ Seg σ τ i e0 e1 ∧ Seg σ τ i e1 e2
/-- children, races and the law of both sides -/
def RD (n r w : Nat) (σ τ : M2) : Prop := n ≤ 8 ∧ r ≤ 6 ∧ w < 6 ∧ σ 1 3 = nI n ∧ τ 0 0 = nI n ∧ σ 5 4 = nI r ∧ τ 0 2 = nI r ∧ (∀ k, k < n → Kid σ τ k) ∧ (∀ k, k < r → Rac n σ τ k) ∧ σ 10 2 = nI w ∧ τ 0 11 = nI w ∧ TR σ τ w
/-- all that a day may change, beside what is told -/
def dC (o k : Nat) : Prop := (41 ≤ o ∧ o ≤ 46) ∨ (∃ i, i < 6 ∧ (o = 12 + 4 * i ∧ k = 4 ∨ o = 15 + 4 * i))
def dM (o k : Nat) : Prop := (16 ≤ o ∧ o ≤ 21) ∨ (o = 0 ∧ 33 ≤ k ∧ k ≤ 36)
theorem sC_dC {o k : Nat} (h : sC o k) : dC o k := by
  rcases h with h | h
  · exact Or.inl (by omega)
  · exact Or.inr h
theorem sM_dM {o k : Nat} (h : sM o k) : dM o k := by
  rcases h with h | h
  · exact Or.inl (by omega)
  · exact Or.inl (by omega)
theorem dC_no {o k : Nat} (h : (o < 12) ∨ (47 ≤ o) ∨ (36 ≤ o ∧ o ≤ 40)) : ¬ dC o k := by
  rintro (h1 | ⟨i, hi, h2⟩)
  · omega
  · omega
theorem dC_tx {i k : Nat} (hi : i < 6) : ¬ dC (13 + 4 * i) k ∧ ¬ dC (14 + 4 * i) k := by
  refine ⟨?_, ?_⟩
  · rintro (h1 | ⟨j, hj, h2⟩)
    · omega
    · omega
  · rintro (h1 | ⟨j, hj, h2⟩)
    · omega
    · omega
theorem dM_no {o k : Nat} (h : (0 < o ∧ o < 16) ∨ (22 ≤ o) ∨ (o = 0 ∧ (k < 33 ∨ 36 < k))) : ¬ dM o k := by
  rintro (h1 | h2)
  · omega
  · omega
theorem Seg.fr {σ τ σ' τ' : M2} {i lo hi : Nat} (h : Seg σ τ i lo hi) (hi6 : i < 6) (hf : Fr dC σ σ') (hg : Fr dM τ τ') : Seg σ' τ' i lo hi := by
  have e : σ' (13 + 4 * i) = σ (13 + 4 * i) := funext fun k => hf _ _ (dC_tx hi6).1
  refine ⟨h.1, h.2.1, fun k h1 h2 => ?_, ?_⟩
  · rw [e, hg _ _ (dM_no (by omega))]
    exact h.2.2.1 k h1 h2
  · rw [e]; exact h.2.2.2
theorem TR.fr {σ τ σ' τ' : M2} {i : Nat} (h : TR σ τ i) (hi6 : i < 6) (hf : Fr dC σ σ') (hg : Fr dM τ τ') : TR σ' τ' i := by
  obtain ⟨e0, e1, e2, h1, h2, h3, h4, h5, h6, h7, s1, s2, s3⟩ := h
  refine ⟨e0, e1, e2, ?_, ?_, ?_, ?_, ?_, ?_, ?_, s1.fr hi6 hf hg, s2.fr hi6 hf hg, s3.fr hi6 hf hg⟩
  · rw [hf _ _ (dC_tx hi6).2]; exact h1
  · rw [hf _ _ (dC_tx hi6).2]; exact h2
  · rw [hf _ _ (dC_tx hi6).2]; exact h3
  · rw [hg _ _ (dM_no (by omega))]; exact h4
  · rw [hg _ _ (dM_no (by omega))]; exact h5
  · rw [hg _ _ (dM_no (by omega))]; exact h6
  · rw [hg _ _ (dM_no (by omega))]; exact h7
theorem Kid.fr {σ τ σ' τ' : M2} {k : Nat} (h : Kid σ τ k) (hf : Fr dC σ σ') (hg : Fr dM τ τ') : Kid σ' τ' k := by
  unfold Kid at h ⊢
  rw [hf 2 _ (dC_no (by omega)), hf 3 _ (dC_no (by omega)), hf 4 _ (dC_no (by omega)), hg 1 _ (dM_no (by omega)), hg 1 _ (dM_no (by omega)), hg 1 _ (dM_no (by omega))]
  exact h
theorem Rac.fr {n : Nat} {σ τ σ' τ' : M2} {k : Nat} (h : Rac n σ τ k) (hf : Fr dC σ σ') (hg : Fr dM τ τ') : Rac n σ' τ' k := by
  unfold Rac at h ⊢
  rw [hf 6 _ (dC_no (by omega)), hf 7 _ (dC_no (by omega)), hf 8 _ (dC_no (by omega)), hf 9 _ (dC_no (by omega)), hg 2 _ (dM_no (by omega)), hg 3 _ (dM_no (by omega)), hg 4 _ (dM_no (by omega)), hg 4 _ (dM_no (by omega))]
  exact h
theorem RD.fr {n r w : Nat} {σ τ σ' τ' : M2} (h : RD n r w σ τ) (hf : Fr dC σ σ') (hg : Fr dM τ τ') : RD n r w σ' τ' := by
  obtain ⟨h1, h2, h3, h4, h5, h6, h7, h8, h9, h10, h11, h12⟩ := h
  refine ⟨h1, h2, h3, ?_, ?_, ?_, ?_, fun k hk => (h8 k hk).fr hf hg, fun k hk => (h9 k hk).fr hf hg, ?_, ?_, h12.fr h3 hf hg⟩
  · rw [hf 1 _ (dC_no (by omega))]; exact h4
  · rw [hg 0 _ (dM_no (by omega))]; exact h5
  · rw [hf 5 _ (dC_no (by omega))]; exact h6
  · rw [hg 0 _ (dM_no (by omega))]; exact h7
  · rw [hf 10 _ (dC_no (by omega))]; exact h10
  · rw [hg 0 _ (dM_no (by omega))]; exact h11
/-- how many bits -/
def onesV (x : Int32) : Int32 := (((((((0 + ((x >>> ((0 : Int32) &&& 31)) &&& 1)) + ((x >>> (((0 : Int32) + 1) &&& 31)) &&& 1)) + ((x >>> (((0 : Int32) + 1 + 1) &&& 31)) &&& 1)) + ((x >>> (((0 : Int32) + 1 + 1 + 1) &&& 31)) &&& 1)) + ((x >>> (((0 : Int32) + 1 + 1 + 1 + 1) &&& 31)) &&& 1)) + ((x >>> (((0 : Int32) + 1 + 1 + 1 + 1 + 1) &&& 31)) &&& 1)) + ((x >>> (((0 : Int32) + 1 + 1 + 1 + 1 + 1 + 1) &&& 31)) &&& 1)) + ((x >>> (((0 : Int32) + 1 + 1 + 1 + 1 + 1 + 1 + 1) &&& 31)) &&& 1)
theorem ones_eq {fu : Nat} {x : Int32} {τ : M2} (h : 8 < fu) : F12_ones fu x τ = some (onesV x, τ) := by
  obtain ⟨q, rfl⟩ : ∃ q, fu = q + 9 := ⟨fu - 9, by omega⟩
  rfl
def bcV (x : Int32) : Int32 := match FJJ6_bitCount_0f7a4 x (fun _ _ => 0) with
  | none => 0
  | some q => q.1
theorem bc_eq {x : Int32} {σ : M2} : FJJ6_bitCount_0f7a4 x σ = some (bcV x, σ) := rfl
theorem bc_ones : ∀ z, z < 256 → bcV (nI z) = onesV (nI z) := by decide +kernel
theorem lt256 {n z : Nat} (hn : n ≤ 8) (hz : z < 2 ^ n) : z < 256 := Nat.lt_of_lt_of_le hz (Nat.pow_le_pow_right (by omega) hn)
theorem gwithin_in {k N : Nat} {τ : M2} (h : k ≤ N) (hN : N < 2 ^ 31) : F12_within (nI k) 0 (nI N) τ = some (nI k, τ) := by
  unfold F12_within
  rw [if_pos (nI_pos' (by omega)), if_pos (nI_le h hN)]
