/-! told days: the first race that is otherwise; judge -/
theorem sh_sh : ∀ i, i < 4 → csh (59 + 2 * i) = (6 + 2, 3) ∧ csh (60 + 2 * i) = (0, 40) ∧ crf (59 + 2 * i) 0 = 60 + 2 * i ∧ crf 58 i = 59 + 2 * i := by decide
def fo (f g : Nat → Int32) : Nat → Nat → Int32
  | 0, _ => -1
  | m + 1, k => if f k = g k then fo f g m (k + 1) else nI k
theorem fo_s {f g : Nat → Int32} {m k : Nat} : fo f g (m + 1) k = if f k = g k then fo f g m (k + 1) else nI k := rfl
theorem fo_ext {f g f' g' : Nat → Int32} : ∀ m k, (∀ j, j < k + m → f j = f' j ∧ g j = g' j) → fo f g m k = fo f' g' m k
  | 0, _, _ => rfl
  | m + 1, k, h => by
    unfold fo
    rw [(h k (by omega)).1, (h k (by omega)).2, fo_ext m (k + 1) (fun j hj => h j (by omega))]
theorem foC {r i : Nat} {σ : M2} {fu : Nat} (hi : i < 4) (hr : r ≤ 6) (h : σ 5 4 = nI r) (hfu : 9 < fu) : F11_firstOtherwise fu (59 + 2 * i) σ = some (fo (σ (60 + 2 * i)) (σ 44) r 0, σ) := by
  obtain ⟨t1, t2, t3, t4⟩ := sh_sh i hi
  unfold F11_firstOtherwise F11_firstOtherwise_2
  obtain ⟨p, h1, h2⟩ := sl1 (R := Int32 × M2) (fun q x2 s => ∃ k, q = r - k ∧ k ≤ r ∧ x2 = nI k ∧ s = σ ∧ fo (σ (60 + 2 * i)) (σ 44) (r - k) k = fo (σ (60 + 2 * i)) (σ 44) r 0) (fun p => p = (fo (σ (60 + 2 * i)) (σ 44) r 0, σ)) (b := fun (k2 : Int32 → M2 → Option (Int32 × M2)) (x2 : Int32) (σ : M2) => if (σ 5 4) ≤ x2 then some ((-1 : Int32), σ) else gd (isO csh (59 + 2 * i) 6 3) (bnd (F7_read (59 + 2 * i) x2 σ) (fun r3 s4 => bnd (F11_at 44 x2 s4) (fun r6 s7 => if r3 = r6 then k2 (x2 + 1) s7 else some (x2, s7))))) (fun k q x2 s hI => by
    obtain ⟨j, rfl, hj, rfl, rfl, hfo⟩ := hI
    rw [h]
    by_cases hjr : r ≤ j
    · left
      rw [if_pos (nI_le hjr (by omega))]
      refine ⟨_, rfl, ?_⟩
      rw [← hfo, show r - j = 0 by omega]
      rfl
    · rw [if_neg (nI_ge (by omega) (by omega)), gd_t (isO_t t1)]
      unfold F7_read
      rw [gd_t (isO_t t1), t3, fat t2 (by omega) (by omega), bnd_s, bnd_s, fat (N := 6) (by decide) (by omega) (by omega), bnd_s]
      obtain ⟨m, hm⟩ : ∃ m, r - j = m + 1 := ⟨r - j - 1, by omega⟩
      rw [hm] at hfo
      rw [fo_s] at hfo
      by_cases e : s (60 + 2 * i) j = s 44 j
      · right
        rw [if_pos e] at hfo
        rw [if_pos e]
        refine ⟨r - (j + 1), _, _, by omega, ⟨j + 1, rfl, by omega, by rw [nI_1], rfl, ?_⟩, rfl⟩
        rw [← show m = r - (j + 1) by omega]
        exact hfo
      · left
        rw [if_neg e] at hfo
        rw [if_neg e, hfo]
        exact ⟨_, rfl, rfl⟩) r fu 0 σ (by omega) ⟨0, rfl, by omega, rfl, rfl, rfl⟩
  rw [h1, h2]
theorem cell_ix {i k : Nat} : ((40 : Int32) * nI i + nI k) = nI (40 * i + k) := by rw [show (40 : Int32) = nI 40 from rfl, pk_mul, nI_add]
theorem foM {r i : Nat} {τ : M2} {fu : Nat} (hi : i < 4) (hr : r ≤ 6) (h : τ 0 2 = nI r) (hfu : 9 < fu) : F12_unlike_6 fu (nI i) 0 τ = some (fo (fun k => τ 12 (40 * i + k)) (τ 21) r 0, τ) := by
  unfold F12_unlike_6
  obtain ⟨p, h1, h2⟩ := sl1 (R := Int32 × M2) (fun q x2 s => ∃ k, q = r - k ∧ k ≤ r ∧ x2 = nI k ∧ s = τ ∧ fo (fun k => τ 12 (40 * i + k)) (τ 21) (r - k) k = fo (fun k => τ 12 (40 * i + k)) (τ 21) r 0) (fun p => p = (fo (fun k => τ 12 (40 * i + k)) (τ 21) r 0, τ)) (b := fun (k6 : Int32 → M2 → Option (Int32 × M2)) (x2 : Int32) (σ : M2) => if (σ 0 2) ≤ x2 then some ((-1 : Int32), σ) else gd (inb (((40 : Int32) * nI i) + x2) 160) (gd (inb x2 6) (if (σ 12 (((40 : Int32) * nI i) + x2).toNatClampNeg) = (σ 21 x2.toNatClampNeg) then k6 (x2 + 1) σ else some (x2, σ)))) (fun k q x2 s hI => by
    obtain ⟨j, rfl, hj, rfl, rfl, hfo⟩ := hI
    rw [h]
    by_cases hjr : r ≤ j
    · left
      rw [if_pos (nI_le hjr (by omega))]
      refine ⟨_, rfl, ?_⟩
      rw [← hfo, show r - j = 0 by omega]
      rfl
    · rw [if_neg (nI_ge (by omega) (by omega)), cell_ix, gd_t (inb_t (N := 160) (by omega) (by omega)), gd_t (inb_t (N := 6) (by omega) (by omega)), nI_c (by omega), nI_c (by omega)]
      obtain ⟨m, hm⟩ : ∃ m, r - j = m + 1 := ⟨r - j - 1, by omega⟩
      rw [hm] at hfo
      rw [fo_s] at hfo
      by_cases e : s 12 (40 * i + j) = s 21 j
      · right
        rw [if_pos e] at hfo
        rw [if_pos e]
        refine ⟨r - (j + 1), _, _, by omega, ⟨j + 1, rfl, by omega, by rw [nI_1], rfl, ?_⟩, rfl⟩
        rw [← show m = r - (j + 1) by omega]
        exact hfo
      · left
        rw [if_neg e] at hfo
        rw [if_neg e, hfo]
        exact ⟨_, rfl, rfl⟩) r fu 0 τ (by omega) ⟨0, rfl, by omega, rfl, rfl, rfl⟩
  rw [h1, h2]
/-- a sheet of the class's by its number -/
theorem sheetAt_in {i : Nat} {σ : M2} (hi : i < 4) : F11_sheetAt (nI i) σ = some (some (59 + 2 * i), σ) := by
  unfold F11_sheetAt
  rw [if_neg (nn_nI (by omega)), if_neg (show ¬ (4 : Int32) ≤ nI i from nI_ge (b := 4) hi (by omega)), gd_t (inb_t (N := 4) hi (by omega)), nI_c (by omega), (sh_sh i hi).2.2.2]
theorem sheetAt_out {a : Int32} {σ : M2} (h : wi a 0 3 = 0) : F11_sheetAt a σ = some (none, σ) := by
  unfold F11_sheetAt F11_sheetAt_22
  rcases wi_0 h with q | q
  · rw [if_pos q]
  · by_cases q2 : a < 0
    · rw [if_pos q2]
    · rw [if_neg q2, if_pos (by rw [Int32.lt_iff_toInt_lt] at q; rw [Int32.le_iff_toInt_le]; have e3 : (3 : Int32).toInt = 3 := rfl; have e4 : (4 : Int32).toInt = 4 := rfl; omega)]
theorem nI_nm1 {k : Nat} (h : k < 2 ^ 31) : ¬ nI k = (-1 : Int32) := nI_ne1 h
theorem telling {n r t w : Nat} {σ τ : M2} (h : RA n r t w σ τ) (a : Int32) :
    (∃ x c, F11_sheetAt a σ = some (x, σ) ∧ F11_refusalOfTelling x σ = some (c, σ) ∧ F12_sheetWrong a τ = some (c, τ) ∧ ¬ c = 0) ∨
    (∃ i, i < 4 ∧ a = nI i ∧ F11_sheetAt a σ = some (some (59 + 2 * i), σ) ∧ F11_refusalOfTelling (some (59 + 2 * i)) σ = some (0, σ) ∧ F12_sheetWrong a τ = some (0, τ) ∧ ∀ k, k < 40 → σ (60 + 2 * i) k = τ 12 (40 * i + k)) := by
  have hr6 : r ≤ 6 := h.1.2.1
  have e54 : σ 5 4 = nI r := h.1.2.2.2.2.2.1
  have e02 : τ 0 2 = nI r := h.1.2.2.2.2.2.2.1
  unfold F12_sheetWrong
  rw [gwi, bnd_s]
  by_cases c0 : wi a 0 3 = 0
  · left
    rw [if_pos c0]
    exact ⟨none, -2, sheetAt_out c0, rfl, rfl, by decide⟩
  · rw [if_neg c0]
    obtain ⟨i, hi, rfl⟩ := wi_m (n := 3) (by omega) c0
    obtain ⟨t1, t2, t3, t4⟩ := sh_sh i (by omega)
    have hS := h.2.2.2.2.1 i (by omega)
    rw [sheetAt_in (by omega), gd_t (inb_t (N := 4) (by omega) (by omega)), nI_c (by omega)]
    have href : F11_refusalOfTelling (some (59 + 2 * i)) σ = if σ (59 + 2 * i) 1 = -1 then some (-11, σ) else if σ (59 + 2 * i) 2 = nI r then some (0, σ) else some (-2, σ) := by
      unfold F11_refusalOfTelling F7_isMissing
      show gd (isO csh (59 + 2 * i) 6 3) _ = _
      rw [gd_t (isO_t t1), gd_t (isO_t t1)]
      by_cases q : σ (59 + 2 * i) 1 = -1
      · rw [if_pos q, if_pos q, bnd_s, if_neg (by decide)]
      · rw [if_neg q, if_neg q, bnd_s, if_pos rfl, e54]
    rcases hS with ⟨s1, s2, s3, s4⟩ | ⟨so, m, s1, s2, s3, s4, s5, s6, s7⟩
    · left
      rw [s2, if_pos rfl]
      exact ⟨_, -11, rfl, by rw [href, if_pos s1], rfl, by decide⟩
    · rw [s4, if_neg (nI_nm1 (by omega)), s6, e02]
      by_cases q : nI m = nI r
      · right
        rw [if_pos q]
        exact ⟨i, by omega, rfl, rfl, by rw [href, s3, if_neg (nI_nm1 (by omega)), s5, if_pos q], rfl, s7⟩
      · left
        rw [if_neg q]
        exact ⟨_, -2, rfl, by rw [href, s3, if_neg (nI_nm1 (by omega)), s5, if_neg q], rfl, by decide⟩
/-- a day run in both memories, and the sheet held against it -/
theorem unlike_rel {n r w i : Nat} {σ τ : M2} {fu fu' : Nat} (h : RD n r w σ τ) (hi : i < 4) (hcell : ∀ k, k < 40 → σ (60 + 2 * i) k = τ 12 (40 * i + k)) (hturn : ∀ k, k < 6 → τ 22 k = nI k) (hdrop : τ 0 39 = -1) (hfu : 161 < fu) (hfu' : 161 < fu') :
    ∃ v σ' τ', F2_run fu σ = some ((), σ') ∧ F11_firstOtherwise fu (59 + 2 * i) σ' = some (v, σ') ∧ F12_unlike fu' (nI i) τ = some (v, τ') ∧ Fr dC σ σ' ∧ Fr dM τ τ' := by
  have hr6 : r ≤ 6 := h.2.1
  obtain ⟨σ', τ', a1, a2, ⟨d0, d4, d5, d6⟩, a4, a5⟩ := run_rel (left := -1) (fu := fu) (fu' := fu') h hturn hdrop hfu hfu'
  have h' := h.fr a4 a5
  have e1 := foC (σ := σ') (fu := fu) hi hr6 h'.2.2.2.2.2.1 (by omega)
  have e2 := foM (τ := τ') (fu := fu') hi hr6 h'.2.2.2.2.2.2.1 (by omega)
  have e3 : fo (σ' (60 + 2 * i)) (σ' 44) r 0 = fo (fun k => τ' 12 (40 * i + k)) (τ' 21) r 0 := fo_ext r 0 (fun j hj => by
    refine ⟨?_, d6 j (by omega) (nI_nm1 (by omega))⟩
    show σ' (60 + 2 * i) j = τ' 12 (40 * i + j)
    rw [a4 _ _ (dC_no (by omega)), a5 _ _ (dM_no (by omega))]
    exact hcell j (by omega))
  refine ⟨_, σ', τ', run_def a1, e1, ?_, a4, a5⟩
  unfold F12_unlike
  rw [a2, bnd_s, e2, e3]
theorem m_judge {fu fu' : Nat} (hfu : 161 < fu) (hfu' : 161 < fu') (a : Int32) : Both (F11_judge fu a) (F12_judge fu' a) := by
  intro σ τ hR
  obtain ⟨n, r, t, w, hA⟩ := id hR
  have hmis := hA.2.2.2.2.2.2
  unfold F11_judge F12_judge
  rcases telling hA a with ⟨x, c, b1, b2, b3, b4⟩ | ⟨i, hi, rfl, b1, b2, b3, b4⟩
  · rw [b1, bnd_s, b3, bnd_s, if_neg b4]
    cases x with
    | none =>
      show ∃ v σ' τ', bnd (F11_refusalOfTelling none σ) _ = _ ∧ _
      rw [b2, bnd_s]
      exact ⟨_, _, _, rfl, rfl, hR⟩
    | some q =>
      show ∃ v σ' τ', bnd (F11_refusalOfTelling (some q) σ) _ = _ ∧ _
      rw [b2, bnd_s, if_neg b4]
      exact ⟨_, _, _, rfl, rfl, hR⟩
  · rw [b1, bnd_s, b3, bnd_s, if_pos rfl]
    show ∃ v σ' τ', bnd (F11_refusalOfTelling (some (59 + 2 * i)) σ) _ = _ ∧ _
    rw [b2, bnd_s, if_pos rfl]
    obtain ⟨v, σ', τ', c1, c2, c3, c4, c5⟩ := unlike_rel (fu := fu) (fu' := fu') hA.1 hi b4 hmis.1 hmis.2.1 hfu hfu'
    rw [c1, bnd_s, c2, bnd_s, c3, bnd_s]
    exact ⟨_, _, _, rfl, rfl, n, r, t, w, hA.fr (c4.mono fun _ _ => dC_xC) (c5.mono fun _ _ => dM_xM)⟩
