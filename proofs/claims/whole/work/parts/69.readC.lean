section
/-! reading: the class's state, step by step -/
def wC (t o k : Nat) : Prop := o = 40 ∨ (o = 12 + 4 * t ∧ k = 3) ∨ o = 13 + 4 * t
def wM (t o k : Nat) : Prop := (o = 0 ∧ ((19 ≤ k ∧ k ≤ 22) ∨ (25 ≤ k ∧ k ≤ 27))) ∨ o = 15 ∨ (o = 6 ∧ 200 * t ≤ k ∧ k < 200 * t + 200)
def Env (f : Nat → Int32) (s M t : Nat) (σ0 τ0 : M2) : Prop := s ≤ 160 ∧ t < 6 ∧ TokC f s M σ0 ∧ σ0 36 3 = nI s ∧ τ0 0 7 = nI s ∧ (∀ q, q < s → τ0 5 q = f q) ∧ (∀ q, q < 96 → τ0 14 q = wordsL.getD q 0) ∧ τ0 0 10 = nI t
def CS (f : Nat → Int32) (s t : Nat) (σ0 σ : M2) (j o : Nat) (L : List Int32) : Prop := σ 40 1 = nI j ∧ σ 40 2 = nI (Tn f s j) ∧ σ 40 3 = nI o ∧ σ 40 4 = -1 ∧ σ (12 + 4 * t) 3 = nI L.length ∧ (∀ i, i < L.length → σ (13 + 4 * t) i = L.getD i 0) ∧ j ≤ 160 ∧ L.length ≤ 160 ∧ Fr (wC t) σ0 σ
def CF (f : Nat → Int32) (s t : Nat) (σ0 σ : M2) (k : Nat) : Prop := σ 40 4 = nI (Pn f s k) ∧ σ 40 2 = 0 ∧ (∃ z : Nat, z ≤ 160 ∧ σ (12 + 4 * t) 3 = nI z) ∧ Fr (wC t) σ0 σ
theorem TokC.fr {f : Nat → Int32} {s M : Nat} {σ0 σ : M2} (h : TokC f s M σ0) (e4 : σ 36 4 = σ0 36 4) (e8 : ∀ k, σ 38 k = σ0 38 k) (e9 : ∀ k, σ 39 k = σ0 39 k) : TokC f s M σ := by
  obtain ⟨h1, h2, h3, h4⟩ := h
  refine ⟨h1, h2, by rw [e4]; exact h3, fun j hj => ?_⟩
  rw [e8, e9]
  exact h4 j hj
section CLS
variable {f : Nat → Int32} {s M t j o : Nat} {σ0 τ0 σ : M2} {L : List Int32}
theorem Env.tok (h : Env f s M t σ0 τ0) (hf : Fr (wC t) σ0 σ) : TokC f s M σ := h.2.2.1.fr (hf 36 4 (by have := h.2.1; unfold wC; omega)) (fun k => hf 38 k (by have := h.2.1; unfold wC; omega)) (fun k => hf 39 k (by have := h.2.1; unfold wC; omega))
theorem Env.lt (h : Env f s M t σ0 τ0) (hT : Tn f s j ≠ 1) : j < M ∧ M ≤ 160 := by
  have h1 := h.1
  have h2 := h.2.2.1.1
  rcases Nat.lt_or_ge j M with q | q
  · omega
  · exact absurd (h.2.2.1.tn q).1 hT
theorem stepC (h : Env f s M t σ0 τ0) (hc : CS f s t σ0 σ j o L) (hT : Tn f s j ≠ 1) : ∃ σ', F6_step σ = some ((), σ') ∧ CS f s t σ0 σ' (j + 1) o L := by
  obtain ⟨h1, h2, h3, h4, h5, h6, h7, h8, h9⟩ := hc
  have ht := h.2.1
  have hj := h.lt hT
  have hf1 : Fr (wC t) σ0 (up σ 40 1 ((σ 40 1) + (1 : Int32))) := h9.up (Or.inl rfl)
  unfold F6_step
  rw [up_eq, h1, nI_1, show up σ 40 1 (nI (j + 1)) = up σ 40 1 ((σ 40 1) + (1 : Int32)) by rw [h1, nI_1], tokenC (h.tok hf1) h.1 (by omega), bnd_s]
  refine ⟨_, rfl, ?_, up_eq, ?_, ?_, ?_, fun i hi => ?_, by omega, h8, hf1.up (Or.inl rfl)⟩
  · rw [up_ne (by omega), up_eq, h1, nI_1]
  · rw [up_ne (by omega), up_ne (by omega)]; exact h3
  · rw [up_ne (by omega), up_ne (by omega)]; exact h4
  · rw [up_ne (by omega), up_ne (by omega)]; exact h5
  · rw [up_ne (by omega), up_ne (by omega)]; exact h6 i hi
theorem failC (h : Env f s M t σ0 τ0) (hc : CS f s t σ0 σ j o L) : ∃ σ', F6_fail σ = some ((), σ') ∧ CF f s t σ0 σ' j := by
  obtain ⟨h1, h2, h3, h4, h5, h6, h7, h8, h9⟩ := hc
  have ht := h.2.1
  unfold F6_fail F6_fail_22
  rw [h4, if_neg (show ¬ (0 : Int32) ≤ -1 by decide), h1, placeC (h.tok h9) (by rw [h9 36 3 (by unfold wC; omega)]; exact h.2.2.2.1) h.1 (by omega), bnd_s]
  refine ⟨_, rfl, ?_, up_eq, ⟨L.length, h8, ?_⟩, (h9.up (Or.inl rfl)).up (Or.inl rfl)⟩
  · rw [up_ne (by omega), up_eq]
  · rw [up_ne (by omega), up_ne (by omega)]; exact h5
theorem failF {k : Nat} (h : Env f s M t σ0 τ0) (hc : CF f s t σ0 σ k) : ∃ σ', F6_fail σ = some ((), σ') ∧ CF f s t σ0 σ' k := by
  obtain ⟨h1, h2, ⟨z, h3, h4⟩, h5⟩ := hc
  have ht := h.2.1
  have hP := (Pn_le (f := f) (s := s) (j := k)).2
  have hs := h.1
  unfold F6_fail F6_fail_22
  rw [h1, if_pos (nI_pos' (by omega))]
  exact ⟨_, rfl, by rw [up_ne (by omega)]; exact h1, up_eq, ⟨z, h3, by rw [up_ne (by omega)]; exact h4⟩, h5.up (Or.inl rfl)⟩
theorem tx_at (ht : t < 6) : csh (12 + 4 * t) = (8 + 2, 5) ∧ csh (13 + 4 * t) = (0, 160) ∧ crf (12 + 4 * t) 0 = 13 + 4 * t ∧ csh (14 + 4 * t) = (0, 3) ∧ crf (12 + 4 * t) 1 = 14 + 4 * t := by
  obtain ⟨a, b, c, d, e, g, -, -⟩ := tx_sh t ht
  exact ⟨a, b, e, c, g⟩
theorem addM2 {z : Nat} {x : Int32} (ht : t < 6) (hz : z < 160) (hs : σ (12 + 4 * t) 3 = nI z) : F9_add (12 + 4 * t) x σ = some ((), up (up σ (13 + 4 * t) z x) (12 + 4 * t) 3 (nI (z + 1))) := by
  obtain ⟨a1, a2, a3, -, -⟩ := tx_at ht
  unfold F9_add
  rw [gd_t (isO_t a1), a3, gd_t (isA_t a2), a2, hs]
  show (if nI 160 ≤ nI z then _ else _) = _
  rw [if_neg (nI_ge hz (by omega)), gd_t (inb_t hz (by omega)), nI_c (by omega), up_ne (by omega), hs, nI_1]
theorem addC {x : Int32} (ht : t < 6) (hc : CS f s t σ0 σ j o L) (hL : L.length < 160) : ∃ σ', F9_add (12 + 4 * t) x σ = some ((), σ') ∧ CS f s t σ0 σ' j o (L ++ [x]) := by
  obtain ⟨h1, h2, h3, h4, h5, h6, h7, h8, h9⟩ := hc
  rw [addM2 ht hL h5]
  have hlen : (L ++ [x]).length = L.length + 1 := by rw [List.length_append]; rfl
  refine ⟨_, rfl, ?_, ?_, ?_, ?_, ?_, fun i hi => ?_, h7, by omega, (h9.up (Or.inr (Or.inr rfl))).up (Or.inr (Or.inl ⟨rfl, rfl⟩))⟩
  · rw [up_ne (by omega), up_ne (by omega)]; exact h1
  · rw [up_ne (by omega), up_ne (by omega)]; exact h2
  · rw [up_ne (by omega), up_ne (by omega)]; exact h3
  · rw [up_ne (by omega), up_ne (by omega)]; exact h4
  · rw [up_eq, hlen]
  · rw [up_ne (by omega)]
    rw [hlen] at hi
    by_cases hiL : i = L.length
    · rw [hiL, up_eq, List.getD_eq_getElem?_getD, List.getElem?_append_right (Nat.le_refl _), Nat.sub_self]
      rfl
    · rw [up_ne (by omega), h6 i (by omega), List.getD_eq_getElem?_getD, List.getD_eq_getElem?_getD, List.getElem?_append_left (by omega)]
theorem addF {x : Int32} {k : Nat} (ht : t < 6) (hc : CF f s t σ0 σ k) : ∃ σ', F9_add (12 + 4 * t) x σ = some ((), σ') ∧ CF f s t σ0 σ' k := by
  obtain ⟨h1, h2, ⟨z, h3, h4⟩, h5⟩ := hc
  by_cases hz : z < 160
  · rw [addM2 ht hz h4]
    refine ⟨_, rfl, ?_, ?_, ⟨z + 1, by omega, up_eq⟩, (h5.up (Or.inr (Or.inr rfl))).up (Or.inr (Or.inl ⟨rfl, rfl⟩))⟩
    · rw [up_ne (by omega), up_ne (by omega)]; exact h1
    · rw [up_ne (by omega), up_ne (by omega)]; exact h2
  · obtain ⟨a1, a2, a3, -, -⟩ := tx_at ht
    refine ⟨σ, ?_, h1, h2, ⟨z, h3, h4⟩, h5⟩
    unfold F9_add
    rw [gd_t (isO_t a1), a3, gd_t (isA_t a2), a2, h4]
    show (if nI 160 ≤ nI z then _ else _) = _
    rw [if_pos (nI_le (by omega) (by omega))]
theorem opensC (ht : t < 6) (hc : CS f s t σ0 σ j o L) (ho : o < 5) : ∃ σ', F6_opens σ = some (1, σ') ∧ CS f s t σ0 σ' j (o + 1) L := by
  obtain ⟨h1, h2, h3, h4, h5, h6, h7, h8, h9⟩ := hc
  unfold F6_opens
  rw [h3, if_pos (show nI o < (5 : Int32) from nI_lt (b := 5) ho (by omega)), nI_1]
  refine ⟨_, rfl, ?_, ?_, up_eq, ?_, ?_, fun i hi => ?_, h7, h8, h9.up (Or.inl rfl)⟩
  · rw [up_ne (by omega)]; exact h1
  · rw [up_ne (by omega)]; exact h2
  · rw [up_ne (by omega)]; exact h4
  · rw [up_ne (by omega)]; exact h5
  · rw [up_ne (by omega)]; exact h6 i hi
theorem opensF (h : Env f s M t σ0 τ0) (hc : CS f s t σ0 σ j 5 L) : ∃ σ', F6_opens σ = some (0, σ') ∧ CF f s t σ0 σ' j := by
  obtain ⟨σ', a1, a2⟩ := failC h hc
  unfold F6_opens
  rw [hc.2.2.1, if_neg (by decide), a1, bnd_s]
  exact ⟨σ', rfl, a2⟩
theorem closeC (ht : t < 6) (hc : CS f s t σ0 σ j (o + 1) L) : CS f s t σ0 (up σ 40 3 ((σ 40 3) - (1 : Int32))) j o L := by
  obtain ⟨h1, h2, h3, h4, h5, h6, h7, h8, h9⟩ := hc
  refine ⟨?_, ?_, ?_, ?_, ?_, fun i hi => ?_, h7, h8, h9.up (Or.inl rfl)⟩
  · rw [up_ne (by omega)]; exact h1
  · rw [up_ne (by omega)]; exact h2
  · rw [up_eq, h3]; exact pk_sub (b := 1) (by omega)
  · rw [up_ne (by omega)]; exact h4
  · rw [up_ne (by omega)]; exact h5
  · rw [up_ne (by omega)]; exact h6 i hi
theorem closeF {k : Nat} {x : Int32} (ht : t < 6) (hc : CF f s t σ0 σ k) : CF f s t σ0 (up σ 40 3 x) k := by
  obtain ⟨h1, h2, ⟨z, h3, h4⟩, h5⟩ := hc
  refine ⟨?_, ?_, ⟨z, h3, ?_⟩, h5.up (Or.inl rfl)⟩
  · rw [up_ne (by omega)]; exact h1
  · rw [up_ne (by omega)]; exact h2
  · rw [up_ne (by omega)]; exact h4
theorem expectC {c : Nat} (h : Env f s M t σ0 τ0) (hc : CS f s t σ0 σ j o L) (hT : Tn f s j = c) (h1 : c ≠ 1) : ∃ σ', F6_expect (nI c) σ = some ((), σ') ∧ CS f s t σ0 σ' (j + 1) o L := by
  obtain ⟨σ', a1, a2⟩ := stepC h hc (by omega)
  unfold F6_expect
  rw [hc.2.1, hT, if_pos rfl, a1, bnd_s]
  exact ⟨σ', rfl, a2⟩
theorem expectN {x : Int32} (h : Env f s M t σ0 τ0) (hc : CS f s t σ0 σ j o L) (hT : ¬ nI (Tn f s j) = x) : ∃ σ', F6_expect x σ = some ((), σ') ∧ CF f s t σ0 σ' j := by
  obtain ⟨σ', a1, a2⟩ := failC h hc
  unfold F6_expect
  rw [hc.2.1, if_neg hT, a1, bnd_s]
  exact ⟨σ', rfl, a2⟩
theorem expectF {k : Nat} {x : Int32} (h : Env f s M t σ0 τ0) (hc : CF f s t σ0 σ k) (hx : ¬ (0 : Int32) = x) : ∃ σ', F6_expect x σ = some ((), σ') ∧ CF f s t σ0 σ' k := by
  obtain ⟨σ', a1, a2⟩ := failF h hc
  unfold F6_expect
  rw [hc.2.1, if_neg hx, a1, bnd_s]
  exact ⟨σ', rfl, a2⟩
end CLS
end
