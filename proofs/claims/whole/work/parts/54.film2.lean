/-! film -/
theorem i16 : ∀ z, z < 256 → (nI z).toInt16.toInt32 = nI z := by decide +kernel
theorem filmC {r i : Nat} {σ0 : M2} {fu : Nat} (hi : i < 4) (hr : r ≤ 6) (h54 : σ0 5 4 = nI r) (hso : σ0 (59 + 2 * i) 1 = 1) (hw : ∀ j, j < r → wb (σ0 44 j)) (hfu : 50 < fu) :
    ∃ σ', F11_film_34 fu (59 + 2 * i) 0 σ0 = some (σ0 41 9, σ') ∧ (∀ j, j < 40 → σ' (60 + 2 * i) j = if j < r then σ0 44 j else σ0 (60 + 2 * i) j) ∧ Fr (fun o k => o = 60 + 2 * i) σ0 σ' := by
  obtain ⟨t1, t2, t3, t4⟩ := sh_sh i hi
  have key : ∃ p, F11_film_34 fu (59 + 2 * i) 0 σ0 = some p ∧ (p.1 = σ0 41 9 ∧ (∀ j, j < 40 → p.2 (60 + 2 * i) j = if j < r then σ0 44 j else σ0 (60 + 2 * i) j) ∧ Fr (fun o k => o = 60 + 2 * i) σ0 p.2) := by
    unfold F11_film_34
    refine sl1 (R := Int32 × M2) (fun q x3 s => ∃ k, q = r - k ∧ k ≤ r ∧ x3 = nI k ∧ (∀ j, j < 40 → s (60 + 2 * i) j = if j < k then σ0 44 j else σ0 (60 + 2 * i) j) ∧ Fr (fun o k => o = 60 + 2 * i) σ0 s) (fun p => p.1 = σ0 41 9 ∧ (∀ j, j < 40 → p.2 (60 + 2 * i) j = if j < r then σ0 44 j else σ0 (60 + 2 * i) j) ∧ Fr (fun o k => o = 60 + 2 * i) σ0 p.2) ?_ r fu 0 σ0 (by omega) ⟨0, rfl, by omega, rfl, fun j hj => (if_neg (by omega)).symm, Fr.rf⟩
    intro k34 q x3 s hI
    obtain ⟨k, rfl, hk, rfl, h1, hf⟩ := hI
    have e54 : s 5 4 = nI r := by rw [hf 5 4 (by omega)]; exact h54
    have es : s (59 + 2 * i) 1 = 1 := by rw [hf _ 1 (by omega)]; exact hso
    rw [e54]
    by_cases hkr : r ≤ k
    · left
      obtain rfl : k = r := by omega
      rw [if_pos (nI_le (Nat.le_refl _) (by omega))]
      exact ⟨_, rfl, hf 41 9 (by omega), h1, hf⟩
    · right
      have e44 : s 44 k = σ0 44 k := hf 44 k (by omega)
      obtain ⟨z, hz, ez⟩ := hw k (by omega)
      rw [if_neg (nI_ge (by omega) (by omega)), fat (N := 6) (by decide) (by omega) (by omega), bnd_s, gd_t (isO_t t1)]
      unfold F7_write F7_write_31
      rw [gd_t (isO_t t1), es, if_neg (by decide), if_pos rfl, t3, fset t2 (by omega) (by omega), bnd_s, bnd_s, e44, ez, i16 z hz]
      refine ⟨r - (k + 1), _, _, by omega, ⟨k + 1, rfl, by omega, by rw [nI_1], fun j hj => ?_, hf.up rfl⟩, rfl⟩
      by_cases hjk : j = k
      · rw [hjk, up_eq, if_pos (by omega), ez]
      · rw [up_ne (fun e => hjk e.2), h1 j hj]
        by_cases hjk2 : j < k
        · rw [if_pos hjk2, if_pos (by omega)]
        · rw [if_neg hjk2, if_neg (by omega)]
  obtain ⟨⟨v, σ'⟩, k1, k2, k3, k4⟩ := key
  have k2 : v = _ := k2
  subst k2
  exact ⟨σ', k1, k3, k4⟩
theorem filmM {r i : Nat} {τ0 : M2} {fu : Nat} (hi : i < 4) (hr : r ≤ 6) (h02 : τ0 0 2 = nI r) (hfu : 50 < fu) :
    ∃ τ', F12_film_35 fu (nI i) 0 τ0 = some (τ0 0 36, τ') ∧ (∀ j, j < 40 → τ' 12 (40 * i + j) = if j < r then τ0 21 j else 0) ∧ Fr (fun o k => o = 12 ∧ 40 * i ≤ k ∧ k < 40 * i + 40) τ0 τ' := by
  have key : ∃ p, F12_film_35 fu (nI i) 0 τ0 = some p ∧ (p.1 = τ0 0 36 ∧ (∀ j, j < 40 → p.2 12 (40 * i + j) = if j < r then τ0 21 j else 0) ∧ Fr (fun o k => o = 12 ∧ 40 * i ≤ k ∧ k < 40 * i + 40) τ0 p.2) := by
    unfold F12_film_35
    refine sl1 (R := Int32 × M2) (fun q x3 s => ∃ k, q = 40 - k ∧ k ≤ 40 ∧ x3 = nI k ∧ (∀ j, j < k → s 12 (40 * i + j) = if j < r then τ0 21 j else 0) ∧ Fr (fun o k => o = 12 ∧ 40 * i ≤ k ∧ k < 40 * i + 40) τ0 s) (fun p => p.1 = τ0 0 36 ∧ (∀ j, j < 40 → p.2 12 (40 * i + j) = if j < r then τ0 21 j else 0) ∧ Fr (fun o k => o = 12 ∧ 40 * i ≤ k ∧ k < 40 * i + 40) τ0 p.2) ?_ 40 fu 0 τ0 (by omega) ⟨0, rfl, by omega, rfl, fun j hj => by omega, Fr.rf⟩
    intro k35 q x3 s hI
    obtain ⟨k, rfl, hk, rfl, h1, hf⟩ := hI
    have e02 : s 0 2 = nI r := by rw [hf 0 2 (by omega)]; exact h02
    rw [e02]
    by_cases hk40 : k = 40
    · left
      subst hk40
      rw [if_pos (by decide)]
      exact ⟨_, rfl, hf 0 36 (by omega), h1, hf⟩
    · right
      rw [if_neg (show ¬ (40 : Int32) ≤ nI k from nI_ge (b := 40) (by omega) (by omega))]
      have step : ∀ x : Int32, (x = if k < r then τ0 21 k else 0) → ∃ m x0 s', m < 40 - k ∧ (∃ k, m = 40 - k ∧ k ≤ 40 ∧ x0 = nI k ∧ (∀ j, j < k → s' 12 (40 * i + j) = if j < r then τ0 21 j else 0) ∧ Fr (fun o k => o = 12 ∧ 40 * i ≤ k ∧ k < 40 * i + 40) τ0 s') ∧ F12_film_74 fu k35 (nI i) (nI k) x (((40 : Int32) * nI i) + nI k) s = k35 x0 s' := by
        intro x hx
        unfold F12_film_74
        rw [cell_ix, gd_t (inb_t (N := 160) (by omega) (by omega)), nI_c (by omega)]
        refine ⟨40 - (k + 1), _, _, by omega, ⟨k + 1, rfl, by omega, by rw [nI_1], fun j hj => ?_, hf.up ⟨rfl, by omega, by omega⟩⟩, rfl⟩
        by_cases hjk : j = k
        · rw [hjk, up_eq, hx]
        · rw [up_ne (fun e => hjk (by omega))]; exact h1 j (by omega)
      by_cases hkr : r ≤ k
      · rw [if_pos (nI_le hkr (by omega))]
        exact step 0 (by rw [if_neg (by omega)])
      · rw [if_neg (nI_ge (by omega) (by omega)), show F12_within (nI k) (0 : Int32) (5 : Int32) s = some (nI k, s) from gwithin_in (N := 5) (by omega) (by omega), bnd_s, gd_t (inb_t (N := 6) (by omega) (by omega)), nI_c (by omega)]
        exact step _ (by rw [if_pos (by omega), hf 21 k (by omega)])
  obtain ⟨⟨v, τ'⟩, k1, k2, k3, k4⟩ := key
  have k2 : v = _ := k2
  subst k2
  exact ⟨τ', k1, k3, k4⟩
theorem m_film {fu fu' : Nat} (hfu : 161 < fu) (hfu' : 161 < fu') (a : Int32) : Both (F11_film fu a) (F12_film fu' a) := by
  intro σ τ hR
  obtain ⟨n, r, t, w, hA⟩ := id hR
  have hmis := hA.2.2.2.2.2.2
  have hr6 : r ≤ 6 := hA.1.2.1
  unfold F11_film F12_film
  rw [gwi, bnd_s]
  by_cases c0 : wi a 0 3 = 0
  · rw [sheetAt_out c0, bnd_s, if_pos c0]
    exact ⟨_, _, _, rfl, rfl, hR⟩
  rw [if_neg c0]
  obtain ⟨i, hi, rfl⟩ := wi_m (n := 3) (by omega) c0
  obtain ⟨t1, t2, t3, t4⟩ := sh_sh i (by omega)
  rw [sheetAt_in (by omega), bnd_s]
  obtain ⟨σ1, τ1, a1, a2, ⟨⟨d1, d2, d3⟩, d4, d5, d6⟩, a4, a5, a6⟩ := run_rel2 (left := -1) (fu := fu) (fu' := fu') hA.1 hmis.1 hmis.2.1 hfu hfu'
  have h1 := hA.1.fr a4 a5
  show ∃ v σ' τ', bnd (F2_run fu σ) _ = _ ∧ _
  rw [run_def a1, bnd_s, a2, bnd_s, gd_t (isO_t t1), gd_t (inb_t (N := 4) (by omega) (by omega)), nI_c (by omega), up_ne (show ¬ (0 = 10 ∧ 2 = i) by omega), h1.2.2.2.2.2.1, h1.2.2.2.2.2.2.1]
  obtain ⟨σ2, b1, b2, b3, b4, b5⟩ := become_eq (x := 1) (y := nI r) (σ0 := σ1) (fu := fu) (i := i) (by omega) (by omega)
  rw [b1, bnd_s]
  have e44 : ∀ j, σ2 44 j = σ1 44 j := fun j => b5 44 j (by omega)
  obtain ⟨σ3, c1, c2, c3⟩ := filmC (r := r) (i := i) (σ0 := σ2) (fu := fu) (by omega) hr6 (by rw [b5 5 4 (by omega)]; exact h1.2.2.2.2.2.1) b2 (fun j hj => by rw [e44]; exact a6 j hj (nI_nm1 (by omega))) (by omega)
  obtain ⟨τ3, m1, m2, m3⟩ := filmM (r := r) (i := i) (τ0 := up (up τ1 10 i (1 : Int32)) 11 i (nI r)) (fu := fu') (by omega) hr6 (by rw [up_ne (by omega), up_ne (by omega)]; exact h1.2.2.2.2.2.2.1) (by omega)
  rw [c1, m1]
  have f1 : Fr (sS i) σ σ3 := ((a4.mono fun _ _ q => Or.inl (dC_xC q)).tr (b5.mono fun _ _ q => Or.inr q)).tr (c3.mono fun _ _ q => Or.inr (Or.inr q))
  have f2a : Fr (sT i) τ τ1 := a5.mono fun _ _ q => Or.inl (dM_xM q)
  have f2b : Fr (sT i) τ (up τ1 10 i (1 : Int32)) := f2a.up (Or.inr (Or.inl ⟨Or.inl rfl, rfl⟩))
  have f2c : Fr (sT i) τ (up (up τ1 10 i (1 : Int32)) 11 i (nI r)) := f2b.up (Or.inr (Or.inl ⟨Or.inr rfl, rfl⟩))
  have f2 : Fr (sT i) τ τ3 := f2c.tr (m3.mono fun _ _ q => Or.inr (Or.inr q))
  refine ⟨σ2 41 9, _, _, rfl, ?_, n, r, t, w, hA.setS (by omega) f1 f2 (Or.inr ⟨1, r, by omega, by omega, ?_, ?_, ?_, ?_, fun k hk => ?_⟩)⟩
  · rw [up_ne (by omega), up_ne (by omega), b5 41 9 (by omega), d3]
  · rw [c3 _ _ (by omega), b2]; rfl
  · rw [m3 _ _ (by omega), up_ne (by omega), up_eq]; rfl
  · rw [c3 _ _ (by omega), b3]
  · rw [m3 _ _ (by omega), up_eq]
  · rw [c2 k hk, m2 k hk]
    by_cases hkr : k < r
    · rw [if_pos hkr, if_pos hkr, e44, up_ne (by omega), up_ne (by omega)]
      exact d6 k hkr (nI_nm1 (by omega))
    · rw [if_neg hkr, if_neg hkr]; exact b4 k hk
