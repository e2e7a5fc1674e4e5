/-! sheets changed: film, sheet -/
theorem RD.of {n r w : Nat} {σ τ σ' τ' : M2} (h : RD n r w σ τ) (c : ∀ o k, (0 < o ∧ o < 12) → σ' o k = σ o k) (ct : ∀ i, i < 6 → σ' (13 + 4 * i) = σ (13 + 4 * i) ∧ σ' (14 + 4 * i) = σ (14 + 4 * i)) (m : ∀ o k, (0 < o ∧ o < 10) → τ' o k = τ o k) (m0 : ∀ k, k = 0 ∨ k = 2 ∨ k = 11 → τ' 0 k = τ 0 k) : RD n r w σ' τ' := by
  obtain ⟨h1, h2, h3, h4, h5, h6, h7, h8, h9, h10, h11, h12⟩ := h
  refine ⟨h1, h2, h3, ?_, ?_, ?_, ?_, fun k hk => ?_, fun k hk => ?_, ?_, ?_, h12.frx (ct w h3).1 (ct w h3).2 (fun k _ => m _ _ (by omega)) (fun k _ => m _ _ (by omega))⟩
  · rw [c 1 _ (by omega)]; exact h4
  · rw [m0 0 (by omega)]; exact h5
  · rw [c 5 _ (by omega)]; exact h6
  · rw [m0 2 (by omega)]; exact h7
  · have := h8 k hk
    unfold Kid at this ⊢
    rw [c 2 _ (by omega), c 3 _ (by omega), c 4 _ (by omega), m 1 _ (by omega), m 1 _ (by omega), m 1 _ (by omega)]
    exact this
  · have := h9 k hk
    unfold Rac at this ⊢
    rw [c 6 _ (by omega), c 7 _ (by omega), c 8 _ (by omega), c 9 _ (by omega), m 2 _ (by omega), m 3 _ (by omega), m 4 _ (by omega), m 4 _ (by omega)]
    exact this
  · rw [c 10 _ (by omega)]; exact h10
  · rw [m0 11 (by omega)]; exact h11
def sS (i o k : Nat) : Prop := xC o k ∨ o = 59 + 2 * i ∨ o = 60 + 2 * i
def sT (i o k : Nat) : Prop := xM o k ∨ ((o = 10 ∨ o = 11) ∧ k = i) ∨ (o = 12 ∧ 40 * i ≤ k ∧ k < 40 * i + 40)
theorem RA.setS {n r t w i : Nat} {σ τ σ' τ' : M2} (h : RA n r t w σ τ) (hi : i < 4) (hf : Fr (sS i) σ σ') (hg : Fr (sT i) τ τ') (hs : ShR σ' τ' i) : RA n r t w σ' τ' := by
  obtain ⟨h1, h2, ⟨t1, t2, t3, t4⟩, h4, h5, h6, h7⟩ := h
  have cf : ∀ o k, ¬ xC o k → (o < 59 ∨ 67 ≤ o) → σ' o k = σ o k := fun o k hx ho => hf o k (fun z => z.elim hx (fun z => by omega))
  have cm : ∀ o k, ¬ xM o k → (o < 10 ∨ 12 < o) → τ' o k = τ o k := fun o k hx ho => hg o k (fun z => z.elim hx (fun z => by omega))
  have ct : ∀ j, j < 6 → σ' (13 + 4 * j) = σ (13 + 4 * j) ∧ σ' (14 + 4 * j) = σ (14 + 4 * j) := fun j hj => ⟨funext fun k => cf _ _ (xC_tx hj).1 (by omega), funext fun k => cf _ _ (xC_tx hj).2 (by omega)⟩
  refine ⟨h1.of (fun o k q => cf o k (xC_no (by omega)) (by omega)) ct (fun o k q => cm o k (xM_no (by omega)) (by omega)) (fun k q => cm 0 k (xM_no (by omega)) (by omega)), h2, ⟨t1, ?_, ?_, fun j hj => (t4 j hj).frx (ct j (by omega)).1 (ct j (by omega)).2 (fun k _ => cm _ _ (xM_no (by omega)) (by omega)) (fun k _ => cm _ _ (xM_no (by omega)) (by omega))⟩, h4.fr (cf _ _ (xC_no (by omega)) (by omega)) (cm _ _ (xM_no (by omega)) (by omega)) (fun k _ => cf _ _ (xC_no (by omega)) (by omega)) (fun k _ => cm _ _ (xM_no (by omega)) (by omega)), fun j hj => ?_,
    h6.fr (Nat.le_refl _) (Nat.le_refl _) (Nat.le_refl _) (fun k a b => cf _ _ (xC_no (by omega)) (by omega)) (cm _ _ (xM_no (by omega)) (by omega)) (fun o k a b => cf _ _ (xC_no (by omega)) (by omega)) (fun o k a b => cm _ _ (xM_no (by omega)) (by omega)), h7.fr (fun k => cm _ _ (xM_no (by omega)) (by omega)) (cm _ _ (xM_no (by omega)) (by omega)) (fun k => cm _ _ (xM_no (by omega)) (by omega))⟩
  · rw [cf _ _ (xC_no (by omega)) (by omega)]; exact t2
  · rw [cm _ _ (xM_no (by omega)) (by omega)]; exact t3
  · by_cases hji : j = i
    · rw [hji]; exact hs
    · exact (h5 j hj).fr (fun k => hf _ _ (by rintro (z | z); exact xC_no (by omega) z; omega)) (fun k => hf _ _ (by rintro (z | z); exact xC_no (by omega) z; omega)) (hg _ _ (by rintro (z | z); exact xM_no (by omega) z; omega)) (hg _ _ (by rintro (z | z); exact xM_no (by omega) z; omega)) (fun k hk => hg _ _ (by rintro (z | z); exact xM_no (by omega) z; omega))
/-- the class's new sheet: all cells 0 -/
theorem become_eq {i : Nat} {x y : Int32} {σ0 : M2} {fu : Nat} (hi : i < 4) (hfu : 50 < fu) : ∃ σ', F7_become fu (59 + 2 * i) x y σ0 = some ((), σ') ∧ σ' (59 + 2 * i) 1 = x ∧ σ' (59 + 2 * i) 2 = y ∧ (∀ k, k < 40 → σ' (60 + 2 * i) k = 0) ∧ Fr (fun o k => o = 59 + 2 * i ∨ o = 60 + 2 * i) σ0 σ' := by
  obtain ⟨t1, t2, t3, t4⟩ := sh_sh i hi
  unfold F7_become
  rw [gd_t (isO_t t1)]
  have key : ∃ p, F7_become_12 fu (59 + 2 * i) 0 (up (up σ0 (59 + 2 * i) 1 x) (59 + 2 * i) 2 y) = some p ∧ ((p : Unit × M2).2 (59 + 2 * i) 1 = x ∧ p.2 (59 + 2 * i) 2 = y ∧ (∀ k, k < 40 → p.2 (60 + 2 * i) k = 0) ∧ Fr (fun o k => o = 59 + 2 * i ∨ o = 60 + 2 * i) σ0 p.2) := by
    unfold F7_become_12
    refine sl1 (R := Unit × M2) (fun q x3 s => ∃ k, q = 40 - k ∧ k ≤ 40 ∧ x3 = nI k ∧ s (59 + 2 * i) 1 = x ∧ s (59 + 2 * i) 2 = y ∧ (∀ j, j < k → s (60 + 2 * i) j = 0) ∧ Fr (fun o k => o = 59 + 2 * i ∨ o = 60 + 2 * i) σ0 s) (fun p => p.2 (59 + 2 * i) 1 = x ∧ p.2 (59 + 2 * i) 2 = y ∧ (∀ k, k < 40 → p.2 (60 + 2 * i) k = 0) ∧ Fr (fun o k => o = 59 + 2 * i ∨ o = 60 + 2 * i) σ0 p.2) (b := fun (k12 : Int32 → M2 → Option (Unit × M2)) (x3 : Int32) (σ : M2) => gd (isO csh (59 + 2 * i) 6 3) (gd (isA csh (crf (59 + 2 * i) 0)) (if (Int32.ofNat (csh (crf (59 + 2 * i) 0)).2) ≤ x3 then some ((), σ) else gd (inb x3 (csh (crf (59 + 2 * i) 0)).2) (k12 (x3 + 1) (up σ (crf (59 + 2 * i) 0) x3.toNatClampNeg (0 : Int32)))))) ?_ 40 fu 0 _ (by omega) ⟨0, rfl, by omega, rfl, ?_, up_eq, fun j hj => by omega, ?_⟩
    · intro k12 q x3 s hI
      obtain ⟨k, rfl, hk, rfl, h1, h2, h3, h4⟩ := hI
      rw [gd_t (isO_t t1), t3, gd_t (isA_t t2), t2]
      show (∃ r, (if nI 40 ≤ nI k then _ else _) = some r ∧ _) ∨ (∃ m x0 s', _ ∧ _ ∧ (if nI 40 ≤ nI k then _ else _) = _)
      by_cases hk40 : k = 40
      · left
        subst hk40
        rw [if_pos (nI_le (Nat.le_refl _) (by omega))]
        exact ⟨_, rfl, h1, h2, h3, h4⟩
      · right
        rw [if_neg (nI_ge (by omega) (by omega)), gd_t (inb_t (N := 40) (by omega) (by omega)), nI_c (by omega)]
        refine ⟨40 - (k + 1), _, _, by omega, ⟨k + 1, rfl, by omega, by rw [nI_1], ?_, ?_, fun j hj => ?_, h4.up (Or.inr rfl)⟩, rfl⟩
        · rw [up_ne (by omega)]; exact h1
        · rw [up_ne (by omega)]; exact h2
        · by_cases hjk : j = k
          · rw [hjk, up_eq]
          · rw [up_ne (fun e => hjk e.2)]; exact h3 j (by omega)
    · rw [up_ne (by omega), up_eq]
    · exact (Fr.rf.up (Or.inl rfl)).up (Or.inl rfl)
  obtain ⟨⟨⟨⟩, σ'⟩, k1, k2⟩ := key
  exact ⟨σ', k1, k2⟩
