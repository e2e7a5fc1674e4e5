/-! laws -/
theorem RD.setL {n r w j : Nat} {σ τ : M2} (h : RD n r w σ τ) (hj : j < 6) (ht : TR σ τ j) : RD n r j (up σ 10 2 (nI j)) (up τ 0 11 (nI j)) := by
  obtain ⟨a1, a2, a3, a4, a5, a6, a7, a8, a9, a10, a11, a12⟩ := h
  refine ⟨a1, a2, hj, ?_, ?_, ?_, ?_, fun q hq => ?_, fun q hq => ?_, up_eq, up_eq, ht.frx (funext fun q => up_ne (by omega)) (funext fun q => up_ne (by omega)) (fun q _ => up_ne (by omega)) (fun q _ => up_ne (by omega))⟩
  · rw [up_ne (by omega)]; exact a4
  · rw [up_ne (by omega)]; exact a5
  · rw [up_ne (by omega)]; exact a6
  · rw [up_ne (by omega)]; exact a7
  · have := a8 q hq
    unfold Kid at this ⊢
    rw [up_ne (by omega), up_ne (by omega), up_ne (by omega), up_ne (by omega), up_ne (by omega), up_ne (by omega)]
    exact this
  · have := a9 q hq
    unfold Rac at this ⊢
    rw [up_ne (by omega), up_ne (by omega), up_ne (by omega), up_ne (by omega), up_ne (by omega), up_ne (by omega), up_ne (by omega), up_ne (by omega)]
    exact this
theorem m_laws {fu fu' : Nat} (hfu : 161 < fu) (hfu' : 161 < fu') (a : Int32) : Both (F11_laws fu a) (F12_laws fu' a) := by
  intro σ0 τ0 hR
  obtain ⟨n, r, t, w, hA⟩ := id hR
  obtain ⟨ht6, e10, e0, ht⟩ := hA.2.2.1
  have hmis := hA.2.2.2.2.2.2
  unfold F11_laws F12_laws
  rcases telling hA a with ⟨x, cc, b1, b2, b3, b4⟩ | ⟨i, hi, rfl, b1, b2, b3, b4⟩
  · rw [b1, bnd_s, b3, bnd_s, if_neg b4]
    cases x with
    | none =>
      show ∃ v σ' τ', bnd (F11_refusalOfTelling none σ0) _ = _ ∧ _
      rw [b2, bnd_s]
      exact ⟨_, _, _, rfl, rfl, hR⟩
    | some q =>
      show ∃ v σ' τ', bnd (F11_refusalOfTelling (some q) σ0) _ = _ ∧ _
      rw [b2, bnd_s, if_neg b4]
      exact ⟨_, _, _, rfl, rfl, hR⟩
  · rw [b1, bnd_s, b3, bnd_s, if_pos rfl]
    show ∃ v σ' τ', bnd (F11_refusalOfTelling (some (59 + 2 * i)) σ0) _ = _ ∧ _
    rw [b2, bnd_s, if_pos rfl]
    have hS : Srch n r i 10 2 0 11 t σ0 τ0 := ⟨hi, fun v hv => ⟨v, hA.1.setL (by omega) (ht v hv)⟩, b4, hmis.1, hmis.2.1, by omega, by omega⟩
    have key : ∃ p p' : Int32 × M2, F11_laws_37 fu (59 + 2 * i) (σ0 10 2) 0 0 σ0 = some p ∧ F12_laws_23 fu' (nI i) (τ0 0 11) 0 0 τ0 = some p' ∧ (p.1 = p'.1 ∧ Fr xC σ0 p.2 ∧ Fr xM τ0 p'.2) := by
      unfold F11_laws_37 F12_laws_23
      refine pl22 (R := Int32 × M2) (R' := Int32 × M2) (fun q x5 x6 s y5 y6 u => ∃ v, q = t - v ∧ v ≤ t ∧ x5 = y5 ∧ x6 = nI v ∧ y6 = nI v ∧ Fr (fun a b => xC a b ∨ (a = 10 ∧ b = 2)) σ0 s ∧ Fr (fun a b => xM a b ∨ (a = 0 ∧ b = 11)) τ0 u) (fun p p' => p.1 = p'.1 ∧ Fr xC σ0 p.2 ∧ Fr xM τ0 p'.2) ?_ t fu fu' 0 0 σ0 0 0 τ0 (by omega) (by omega) ⟨0, rfl, by omega, rfl, rfl, rfl, Fr.rf, Fr.rf⟩
      intro k37 k23 q x5 x6 s y5 y6 u hI
      obtain ⟨v, rfl, hv, rfl, rfl, rfl, hf, hg⟩ := hI
      have e1 : s 10 1 = nI t := by rw [hf 10 1 (by rintro (z | z); exact xC_no (by omega) z; omega)]; exact e10
      have e2 : u 0 10 = nI t := by rw [hg 0 10 (by rintro (z | z); exact xM_no (by omega) z; omega)]; exact e0
      rw [e1, e2]
      by_cases hvt : t ≤ v
      · left
        rw [if_pos (nI_le hvt (by omega)), if_pos (nI_le hvt (by omega))]
        exact ⟨_, _, rfl, rfl, rfl, fr_back hf rfl, fr_back hg rfl⟩
      · right
        rw [if_neg (nI_ge (by omega) (by omega)), if_neg (nI_ge (by omega) (by omega))]
        obtain ⟨σ1, τ1, u1, u2, u3, u4, u5⟩ := fit_both (σ := s) (τ := u) (v := v) (fu := fu) (fu' := fu') hS (by omega) hf hg hfu hfu'
        rw [u1, bnd_s, u2, bnd_s, u3, bnd_s]
        unfold F11_laws_84 F12_laws_57
        by_cases e : fitv fu' i τ0 0 11 v = -1
        · rw [if_pos e, if_pos e]
          exact ⟨t - (v + 1), _, _, _, _, _, _, by omega, ⟨v + 1, rfl, by omega, rfl, by rw [nI_1], by rw [nI_1], u4, u5⟩, rfl, rfl⟩
        · rw [if_neg e, if_neg e]
          exact ⟨t - (v + 1), _, _, _, _, _, _, by omega, ⟨v + 1, rfl, by omega, rfl, by rw [nI_1], by rw [nI_1], u4, u5⟩, rfl, rfl⟩
    obtain ⟨⟨v, σ'⟩, ⟨v', τ'⟩, k1, k2, k3, k4, k5⟩ := key
    have k3 : v = v' := k3
    subst k3
    exact ⟨_, _, _, k1, k2, n, r, t, w, hA.fr k4 k5⟩
