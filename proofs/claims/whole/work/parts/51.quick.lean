/-! quick -/
theorem quick_105 {fu k : Nat} {k75 : Int32 → Int32 → Int32 → M2 → Option (Int32 × M2)} {x1 x3 x5 x6 x7 x8 r : Int32} {s : M2} :
    (if r = (-1 : Int32) then F12_quick_105 fu k75 x1 x3 x5 x6 x7 x8 (nI k) (1 : Int32) s else F12_quick_105 fu k75 x1 x3 x5 x6 x7 x8 (nI k) (0 : Int32) s) = k75 (x7 + (if r = -1 then 1 else 0)) (if r = -1 then (if x8 = -1 then nI k else x8) else x8) (nI (k + 1)) s := by
  unfold F12_quick_105 F12_quick_119 F12_quick_138 F12_quick_140
  rw [nI_1]
  by_cases e : r = -1
  · rw [if_pos e, if_pos e, if_pos e, if_neg (by decide), if_neg (by decide)]
    by_cases e2 : x8 = -1
    · rw [if_pos e2, if_pos e2]
    · rw [if_neg e2, if_neg e2]
  · rw [if_neg e, if_neg e, if_neg e, if_pos rfl, if_pos rfl]
theorem quickM {n r i o k mk : Nat} {x3 : Int32} {σ0 τ0 : M2} {fu fu' : Nat} (hS : Srch n r i o k 1 mk 100 σ0 τ0) (hb : mk < 24) (hfu : 161 < fu) (hfu' : 161 < fu') :
    ∃ τ', F12_quick_75 fu' (nI i) x3 (nI mk) (τ0 1 mk) 0 (-1) 0 τ0 = some (if x3 - x3 / 10 * 10 = 0 then fzc (fitv fu' i τ0 1 mk) 100 else fzl (fitv fu' i τ0 1 mk) 100, τ') ∧ Fr xM τ0 τ' := by
  have key : ∃ p, F12_quick_75 fu' (nI i) x3 (nI mk) (τ0 1 mk) 0 (-1) 0 τ0 = some p ∧ ((p.1 = if x3 - x3 / 10 * 10 = 0 then fzc (fitv fu' i τ0 1 mk) 100 else fzl (fitv fu' i τ0 1 mk) 100) ∧ Fr xM τ0 p.2) := by
    unfold F12_quick_75
    refine sl3 (R := Int32 × M2) (fun q x7 x8 x9 s => ∃ k, q = 100 - k ∧ k ≤ 100 ∧ x7 = fzc (fitv fu' i τ0 1 mk) k ∧ x8 = fzl (fitv fu' i τ0 1 mk) k ∧ x9 = nI k ∧ Fr (fun a e => xM a e ∨ (a = 1 ∧ e = mk)) τ0 s) (fun p => (p.1 = if x3 - x3 / 10 * 10 = 0 then fzc (fitv fu' i τ0 1 mk) 100 else fzl (fitv fu' i τ0 1 mk) 100) ∧ Fr xM τ0 p.2) ?_ 100 fu' 0 (-1) 0 τ0 (by omega) ⟨0, rfl, by omega, rfl, rfl, rfl, Fr.rf⟩
    intro k75 q x7 x8 x9 s hI
    obtain ⟨v, rfl, hv, rfl, rfl, rfl, hg⟩ := hI
    rw [gd_t (inb_t (N := 24) hb (by omega)), gd_t (inb_t (N := 24) hb (by omega)), nI_c (by omega)]
    have hback : Fr xM τ0 (up s 1 mk (τ0 1 mk)) := fr_back hg rfl
    by_cases hv9 : v = 100
    · left
      subst hv9
      rw [if_pos (by decide)]
      by_cases e : x3 - x3 / 10 * 10 = 0
      · rw [if_pos e]
        exact ⟨_, rfl, (if_pos e).symm, hback⟩
      · rw [if_neg e]
        exact ⟨_, rfl, (if_neg e).symm, hback⟩
    · right
      rw [if_neg (show ¬ (99 : Int32) < nI v from nI_nlt (a := 99) (by omega) (by omega))]
      obtain ⟨σ1, τ1, u1, u2, u3, u4, u5⟩ := fit_both (σ := σ0) (τ := s) (v := v) (fu := fu) (fu' := fu') hS (by omega) Fr.rf hg hfu hfu'
      rw [u3, bnd_s, quick_105]
      exact ⟨100 - (v + 1), _, _, _, _, by omega, ⟨v + 1, rfl, by omega, rfl, rfl, rfl, u5⟩, rfl⟩
  obtain ⟨⟨v, τ'⟩, k1, k2, k3⟩ := key
  have k2 : v = _ := k2
  subst k2
  exact ⟨τ', k1, k3⟩
theorem q_in : ∀ z, z ≤ 29 → (¬ (nI z - nI z / 10 * 10 : Int32) ≤ 1 ∧ 21 < z) ∨ (z ≤ 21 ∧ ¬ (nI z - nI z / 10 * 10 : Int32) ≤ 1) ∨ (z ≤ 21 ∧ (nI z - nI z / 10 * 10 : Int32) ≤ 1 ∧ ∃ j, j ≤ 2 ∧ nI z / 10 = nI j) := by
  have key : ∀ z, z ≤ 29 → (¬ (nI z - nI z / 10 * 10 : Int32) ≤ 1 ∧ 21 < z) ∨ (z ≤ 21 ∧ ¬ (nI z - nI z / 10 * 10 : Int32) ≤ 1) ∨ (z ≤ 21 ∧ (nI z - nI z / 10 * 10 : Int32) ≤ 1 ∧ z / 10 ≤ 2 ∧ nI z / 10 = nI (z / 10)) := by decide +kernel
  intro z hz
  rcases key z hz with h | h | ⟨h1, h2, h3, h4⟩
  · exact Or.inl h
  · exact Or.inr (Or.inl h)
  · exact Or.inr (Or.inr ⟨h1, h2, z / 10, h3, h4⟩)
theorem wi_le {a : Nat} {b : Nat} (hab : a ≤ b) (hb : b < 2 ^ 31) : wi (nI a) 0 (nI b) = 1 := by
  unfold wi
  rw [if_neg (nn_nI (by omega)), if_neg (nI_nlt hab hb)]
theorem wi_gt {a : Nat} {b : Nat} (hab : b < a) (ha : a < 2 ^ 31) : wi (nI a) 0 (nI b) = 0 := by
  unfold wi
  rw [if_neg (nn_nI (by omega)), if_pos (nI_lt hab ha)]
theorem m_quick {fu fu' : Nat} (hfu : 161 < fu) (hfu' : 161 < fu') (a ch c : Int32) : Both (F11_quick fu a ch c) (F12_quick fu' a ch c) := by
  intro σ τ hR
  obtain ⟨n, r, t, w, hA⟩ := id hR
  obtain ⟨a1, a2, a3, a4, a5, a6, a7, a8, a9, a10, a11, a12⟩ := id hA.1
  have hmis := hA.2.2.2.2.2.2
  unfold F11_quick F12_quick
  rcases telling hA a with ⟨x, cc, b1, b2, b3, b4⟩ | ⟨i, hi, rfl, b1, b2, b3, b4⟩
  · rw [b1, bnd_s, b3, bnd_s, if_neg b4]
    cases x with
    | none =>
      show ∃ v σ' τ', bnd (F11_refusalOfTelling none σ) _ = _ ∧ _
      rw [b2, bnd_s]
      exact ⟨_, _, _, rfl, rfl, hR⟩
    | some q =>
      show ∃ v σ' τ', bnd (F11_refusalOfTelling (some q) σ) _ = _ ∧ _
      rw [b2, bnd_s, if_neg b4]
      exact ⟨_, _, _, rfl, rfl, hR⟩
  · rw [b1, bnd_s, b3, bnd_s, if_pos rfl]
    show ∃ v σ' τ', bnd (F11_refusalOfTelling (some (59 + 2 * i)) σ) _ = _ ∧ _
    rw [b2, bnd_s, if_pos rfl, isChildC a4, isChildM a5, bnd_s, bnd_s]
    by_cases c0 : wi ch 0 (nI n - 1) = 0
    · rw [if_pos c0, if_pos c0]; exact ⟨_, _, _, rfl, rfl, hR⟩
    rw [if_neg c0, if_neg c0, fwi, gwi, bnd_s, bnd_s]
    obtain ⟨b, hb, rfl⟩ := wi_n (by omega) c0
    by_cases c1 : wi c 0 29 = 0
    · have c2 : wi c 0 21 = 0 := by
        rcases wi_0 c1 with q | q
        · unfold wi; rw [if_pos q]
        · unfold wi
          rw [if_pos (show (21 : Int32) < c by rw [Int32.lt_iff_toInt_lt] at q ⊢; have e3 : (29 : Int32).toInt = 29 := rfl; have e4 : (21 : Int32).toInt = 21 := rfl; omega)]
          exact ite_self _
      rw [if_pos c1, if_pos c2]
      exact ⟨_, _, _, rfl, rfl, hR⟩
    rw [if_neg c1]
    obtain ⟨z, hz, rfl⟩ := wi_m (n := 29) (by omega) c1
    rcases q_in z hz with ⟨h1, h2⟩ | ⟨h1, h2⟩ | ⟨h1, h2, j, hj, h3⟩
    · have c2 : wi (nI z) 0 21 = 0 := wi_gt (b := 21) h2 (by omega)
      rw [if_neg h1, if_pos c2]
      exact ⟨_, _, _, rfl, rfl, hR⟩
    · have c2 : ¬ wi (nI z) 0 21 = 0 := by rw [show wi (nI z) 0 21 = 1 from wi_le (b := 21) h1 (by omega)]; decide
      rw [if_neg h2, if_neg c2, if_neg h2]
      exact ⟨_, _, _, rfl, rfl, hR⟩
    · have c2 : ¬ wi (nI z) 0 21 = 0 := by rw [show wi (nI z) 0 21 = 1 from wi_le (b := 21) h1 (by omega)]; decide
      rw [if_pos h2, if_neg c2, if_pos h2, h3, rowC hj, bnd_s, ix3p, gd_t (inb_t (N := 24) (by omega) (by omega)), nI_c (by omega)]
      have hS : Srch n r i (2 + j) b 1 (3 * b + j) 100 σ τ := ⟨hi, fun v hv => ⟨w, hA.1.setK hb hj ⟨v, by omega, rfl⟩⟩, b4, hmis.1, hmis.2.1, by omega, by omega⟩
      obtain ⟨τ', u1, u2⟩ := quickM (x3 := nI z) (fu := fu) (fu' := fu') hS (by omega) hfu hfu'
      obtain ⟨σ', v1, v2, v3⟩ := tryAll_eq (N := 8) (fu := fu) (fu' := fu') hS (csh_row j hj) (by omega) (by omega) (by omega) (by omega) hfu hfu'
      have v1' : F11_tryAll fu (59 + 2 * i) (2 + j) (nI b) (99 : Int32) σ = some ((), σ') := v1
      have e1 : σ' 0 15 = fzc (fitv fu' i τ 1 (3 * b + j)) 100 := by
        have q := congrArg (fun p => p.2.1) v2
        rw [desc_c, Int32.zero_add] at q
        exact q
      have e2 : σ' 0 16 = fzl (fitv fu' i τ 1 (3 * b + j)) 100 := by
        have q := congrArg (fun p => p.2.2) v2
        rw [desc_l _ _ _ _ _ (by omega)] at q
        have q : σ' 0 16 = if fzl (fitv fu' i τ 1 (3 * b + j)) 100 = -1 then -1 else fzl (fitv fu' i τ 1 (3 * b + j)) 100 := q
        by_cases e : fzl (fitv fu' i τ 1 (3 * b + j)) 100 = -1
        · rw [if_pos e] at q; rw [q, e]
        · rw [if_neg e] at q; exact q
      rw [h3] at u1
      rw [v1', bnd_s, u1, e1, e2]
      by_cases e : nI z - nI j * 10 = 0
      · rw [if_pos e, if_pos e]
        exact ⟨_, _, _, rfl, rfl, n, r, t, w, hA.fr v3 u2⟩
      · rw [if_neg e, if_neg e]
        exact ⟨_, _, _, rfl, rfl, n, r, t, w, hA.fr v3 u2⟩
