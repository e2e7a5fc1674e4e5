/-! the relation holds as both constructors end -/
set_option maxRecDepth 100000 in
theorem tape_43 : ∀ k, k < 43 → tape1.getD k 0 = law1.getD k 0 ∧ (tape1.getD k 0).toNatClampNeg < 256 ∧ tape1.getD k 0 = nI (tape1.getD k 0).toNatClampNeg := by decide +kernel
theorem tauE_o {o : Nat} (k : Nat) (h : o ≠ 5) (h2 : o ≠ 0) : tauE o k = tau0 o k := by
  show up (tauT 43) 0 7 43 o k = _
  rw [up_ne (by omega), tauT_o h]
set_option maxRecDepth 10000 in
theorem start_R : ∃ σ1 τ1, F11_readTape 171 (sgT 43) = some (0, σ1) ∧ F12_text 171 tauE = some (0, τ1) ∧ R σ1 τ1 := by
  have hT : TapeR (sgT 43) tauE := by
    refine ⟨43, by decide, rfl, ?_, fun k hk => ?_⟩
    · show up (tauT 43) 0 7 43 0 7 = nI 43
      rw [up_eq]; rfl
    · obtain ⟨e1, e2, e3⟩ := tape_43 k hk
      have a1 : sgT 43 37 k = tape1.getD k 0 := by
        show (if k < 43 then tape1.getD k 0 else 0) = tape1.getD k 0
        exact if_pos hk
      have a2 : tauE 5 k = law1.getD k 0 := by
        show up (tauT 43) 0 7 43 5 k = _
        rw [up_ne (by omega)]
        show (if k < 43 then law1.getD k 0 else 0) = law1.getD k 0
        exact if_pos hk
      exact ⟨by rw [a1, a2, e1], _, e2, by rw [a1]; exact e3⟩
  have hw : ∀ q, q < 96 → tauE 14 q = wordsL.getD q 0 := fun q hq => by
    rw [tauE_o q (by decide) (by decide)]; exact tau0_14 q hq
  obtain ⟨v, σ1, τ1, a1, a2, a3, a4, a5, a6, a7⟩ := text_rel (t := 0) (fu := 171) (fl := 171) hT (by decide) rfl rfl hw (by decide) (by decide)
  have hv : v = 0 := by
    have h := first_ok
    rw [a2] at h
    exact Option.some.inj h
  subst hv
  have b1 : F11_readTape 171 (sgT 43) = some (0, σ1) := by
    unfold F11_text at a1
    obtain ⟨x, s, e1, e2⟩ := bnd_some a1
    cases e2
    exact e1
  rcases a7 with ⟨h, -, -⟩ | ⟨-, c1, c2, c3⟩
  · exact absurd h (by decide)
  refine ⟨σ1, τ1, b1, a2, 0, 0, 1, 0, ⟨by decide, by decide, by decide, ?_, ?_, ?_, ?_, fun k hk => absurd hk (Nat.not_lt_zero k), fun k hk => absurd hk (Nat.not_lt_zero k), ?_, ?_, c3⟩, by decide, ⟨by decide, c1, c2, fun i hi => ?_⟩, ⟨0, by decide, ?_, ?_, fun k hk => absurd hk (Nat.not_lt_zero k)⟩, fun i hi => ?_, Or.inl ⟨?_, ?_⟩, fun k hk => ?_, ?_, fun k hk => ?_⟩
  · rw [a5 1 3 (by unfold tC cC wC; omega)]; rfl
  · rw [a6 0 0 (by unfold tM wM7 wM; omega)]; rfl
  · rw [a5 5 4 (by unfold tC cC wC; omega)]; rfl
  · rw [a6 0 2 (by unfold tM wM7 wM; omega)]; rfl
  · rw [a5 10 2 (by unfold tC cC wC; omega)]; rfl
  · rw [a6 0 11 (by unfold tM wM7 wM; omega)]; rfl
  · obtain rfl : i = 0 := by omega
    exact c3
  · rw [a3]; rfl
  · rw [a4]; rfl
  · refine Or.inl ⟨?_, ?_, ?_, ?_⟩
    · rw [a5 _ 1 (by unfold tC cC wC; omega)]
      rcases (show i = 0 ∨ i = 1 ∨ i = 2 ∨ i = 3 by omega) with rfl | rfl | rfl | rfl <;> rfl
    · rw [a6 10 i (by unfold tM wM7 wM; omega), tauE_o i (by decide) (by decide)]
      exact tau0_10 i hi
    · rw [a5 _ 2 (by unfold tC cC wC; omega)]
      rcases (show i = 0 ∨ i = 1 ∨ i = 2 ∨ i = 3 by omega) with rfl | rfl | rfl | rfl <;> rfl
    · rw [a6 11 i (by unfold tM wM7 wM; omega), tauE_o i (by decide) (by decide)]; rfl
  · rw [a5 0 13 (by unfold tC cC wC; omega)]; rfl
  · rw [a6 0 12 (by unfold tM wM7 wM; omega)]; rfl
  · rw [a6 22 k (by unfold tM wM7 wM; omega), tauE_o k (by decide) (by decide)]
    exact tau0_22 k hk
  · rw [a6 0 39 (by unfold tM wM7 wM; omega)]; rfl
  · rw [a6 14 k (by unfold tM wM7 wM; omega), tauE_o k (by decide) (by decide)]
    exact tau0_14 k hk
