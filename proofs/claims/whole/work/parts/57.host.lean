section
/-! the host: sheet, cell, copy, childrenBy, taken -/
theorem nn_of {x : Int32} (h : 0 ≤ x) : ∃ j : Nat, j < 2 ^ 31 ∧ x = nI j := nI_of (by
  rw [Int32.lt_iff_toInt_lt]
  rw [Int32.le_iff_toInt_le] at h
  omega)
theorem sort_of {x : Int32} (h : ¬ wi x (-1) 2 = 0) (h1 : ¬ x = -1) : ∃ j : Nat, j ≤ 2 ∧ x = nI j := by
  obtain ⟨d1, d2⟩ := wi_1 h
  have e1 : (-1 : Int32).toInt = -1 := by decide
  have e0 : (0 : Int32).toInt = 0 := rfl
  have h0 : ¬ x < 0 := fun e => by
    rw [Int32.lt_iff_toInt_lt] at d1 e
    exact h1 (Int32.toInt_inj.mp (by omega))
  obtain ⟨j, hj, rfl⟩ := nI_of h0
  refine ⟨j, ?_, rfl⟩
  rcases Nat.lt_or_ge 2 j with q | q
  · exact absurd (nI_lt (a := 2) q hj) d2
  · exact q
theorem sheet70 {i : Nat} {τ0 : M2} {fu : Nat} (hi : i < 4) (hfu : 50 < fu) :
    ∃ τ', F12_sheet_70 fu (nI i) 0 τ0 = some (1, τ') ∧ (∀ j, j < 40 → τ' 12 (40 * i + j) = 0) ∧ Fr (fun o k => o = 12 ∧ 40 * i ≤ k ∧ k < 40 * i + 40) τ0 τ' := by
  have key : ∃ p, F12_sheet_70 fu (nI i) 0 τ0 = some p ∧ (p.1 = 1 ∧ (∀ j, j < 40 → p.2 12 (40 * i + j) = 0) ∧ Fr (fun o k => o = 12 ∧ 40 * i ≤ k ∧ k < 40 * i + 40) τ0 p.2) := by
    unfold F12_sheet_70
    refine sl1 (R := Int32 × M2) (fun q x3 s => ∃ k, q = 40 - k ∧ k ≤ 40 ∧ x3 = nI k ∧ (∀ j, j < k → s 12 (40 * i + j) = 0) ∧ Fr (fun o k => o = 12 ∧ 40 * i ≤ k ∧ k < 40 * i + 40) τ0 s) (fun p => p.1 = 1 ∧ (∀ j, j < 40 → p.2 12 (40 * i + j) = 0) ∧ Fr (fun o k => o = 12 ∧ 40 * i ≤ k ∧ k < 40 * i + 40) τ0 p.2) ?_ 40 fu 0 τ0 (by omega) ⟨0, rfl, by omega, rfl, fun j hj => by omega, Fr.rf⟩
    intro k35 q x3 s hI
    obtain ⟨k, rfl, hk, rfl, h1, hf⟩ := hI
    by_cases hk40 : k = 40
    · left
      subst hk40
      rw [if_pos (by decide)]
      exact ⟨_, rfl, rfl, h1, hf⟩
    · right
      rw [if_neg (show ¬ (40 : Int32) ≤ nI k from nI_ge (b := 40) (by omega) (by omega)), cell_ix, gd_t (inb_t (N := 160) (by omega) (by omega)), nI_c (by omega)]
      refine ⟨40 - (k + 1), _, _, by omega, ⟨k + 1, rfl, by omega, by rw [nI_1], fun j hj => ?_, hf.up ⟨rfl, by omega, by omega⟩⟩, rfl⟩
      by_cases hjk : j = k
      · rw [hjk, up_eq]
      · rw [up_ne (fun e => hjk (by omega))]; exact h1 j (by omega)
  obtain ⟨⟨v, τ'⟩, k1, k2, k3, k4⟩ := key
  have k2 : v = _ := k2
  subst k2
  exact ⟨τ', k1, k3, k4⟩
theorem sheet44 {i : Nat} {so n y : Int32} {τ0 : M2} {fu : Nat} (hi : i < 4) (hfu : 50 < fu) (hy : y = if so = -1 then 0 else n) :
    ∃ τ', F12_sheet_44 fu (nI i) so n τ0 = some (1, τ') ∧ τ' 10 i = so ∧ τ' 11 i = y ∧ (∀ j, j < 40 → τ' 12 (40 * i + j) = 0) ∧ Fr (sT i) τ0 τ' := by
  obtain ⟨τ', a1, a2, a3⟩ := sheet70 (i := i) (τ0 := up (up τ0 10 i so) 11 i y) (fu := fu) hi hfu
  refine ⟨τ', ?_, ?_, ?_, a2, ?_⟩
  · unfold F12_sheet_44 F12_sheet_66
    rw [gd_t (inb_t (N := 4) hi (by omega)), gd_t (inb_t (N := 4) hi (by omega)), gd_t (inb_t (N := 4) hi (by omega)), nI_c (by omega)]
    by_cases h : so = -1
    · rw [if_pos h] at hy ⊢
      subst hy; exact a1
    · rw [if_neg h] at hy ⊢
      subst hy; exact a1
  · rw [a3 _ _ (by omega), up_ne (by omega), up_eq]
  · rw [a3 _ _ (by omega), up_eq]
  · exact ((Fr.rf.up (Or.inr (Or.inl ⟨Or.inl rfl, rfl⟩))).up (Or.inr (Or.inl ⟨Or.inr rfl, rfl⟩))).tr (a3.mono fun _ _ q => Or.inr (Or.inr q))
theorem m_sheet {fu fu' : Nat} (hfu : 161 < fu) (hfu' : 161 < fu') (a so n : Int32) : Both (F11_sheet fu a so n) (F12_sheet fu' a so n) := by
  intro σ τ hR
  obtain ⟨nn, r, t, w, hA⟩ := id hR
  unfold F11_sheet F12_sheet
  rw [gwi, bnd_s]
  by_cases c0 : wi a 0 3 = 0
  · rw [sheetAt_out c0, bnd_s, if_pos c0]
    exact ⟨_, _, _, rfl, rfl, hR⟩
  rw [if_neg c0]
  obtain ⟨i, hi, rfl⟩ := wi_m (n := 3) (by omega) c0
  obtain ⟨t1, t2, t3, t4⟩ := sh_sh i (by omega)
  rw [sheetAt_in (by omega), bnd_s, gwi, bnd_s]
  show ∃ v σ' τ', bnd (F11_within so (-1) 2 σ) _ = _ ∧ _
  rw [fwi, bnd_s]
  by_cases c1 : wi so (-1) 2 = 0
  · rw [if_pos c1, if_pos c1]; exact ⟨_, _, _, rfl, rfl, hR⟩
  rw [if_neg c1, if_neg c1]
  unfold F12_sheet_32
  by_cases c2 : so = -1
  · obtain ⟨τ', b1, b2, b3, b4, b5⟩ := sheet44 (i := i) (so := so) (n := n) (y := 0) (τ0 := τ) (fu := fu') (by omega) (by omega) (by rw [if_pos c2])
    unfold F7_vanish
    rw [if_pos c2, if_pos c2, if_pos c2, b1, gd_t (isO_t t1), gd_t (isO_t t1), bnd_s]
    refine ⟨_, _, _, rfl, rfl, nn, r, t, w, hA.setS (by omega) ((Fr.rf.up (Or.inr (Or.inl rfl))).up (Or.inr (Or.inl rfl))) b5 (Or.inl ⟨?_, ?_, up_eq, b3⟩)⟩
    · rw [up_ne (by omega), up_eq]
    · rw [b2, c2]
  · rw [if_neg c2, if_neg c2, if_neg c2]
    by_cases c3 : n ≤ 40
    · rw [if_pos c3, if_pos c3]
      by_cases c4 : 0 ≤ n
      · obtain ⟨τ', b1, b2, b3, b4, b5⟩ := sheet44 (i := i) (so := so) (n := n) (y := n) (τ0 := τ) (fu := fu') (by omega) (by omega) (by rw [if_neg c2])
        obtain ⟨σ', d1, d2, d3, d4, d5⟩ := become_eq (x := so) (y := n) (σ0 := σ) (fu := fu) (i := i) (by omega) (by omega)
        rw [if_pos c4, if_pos c4, b1, gd_t (isO_t t1), d1, bnd_s]
        obtain ⟨q, hq, rfl⟩ := sort_of c1 c2
        obtain ⟨m, hm, rfl⟩ := nn_of c4
        have hm40 : m ≤ 40 := by
          rcases Nat.lt_or_ge 40 m with z | z
          · exact absurd c3 (nI_ge (b := m) (a := 40) z hm)
          · exact z
        exact ⟨_, _, _, rfl, rfl, nn, r, t, w, hA.setS (by omega) (d5.mono fun _ _ z => Or.inr z) b5 (Or.inr ⟨q, m, hq, hm40, d2, b2, d3, b3, fun k hk => by rw [d4 k hk, b4 k hk]⟩)⟩
      · rw [if_neg c4, if_neg c4]; exact ⟨_, _, _, rfl, rfl, hR⟩
    · rw [if_neg c3, if_neg c3]; exact ⟨_, _, _, rfl, rfl, hR⟩
/-- a sheet that is there, or not, as both sides see it -/
theorem sheet_two {i : Nat} {σ τ : M2} (h : ShR σ τ i) (hi : i < 4) : (F7_isMissing (59 + 2 * i) σ = some (1, σ) ∧ τ 10 i = -1) ∨ (F7_isMissing (59 + 2 * i) σ = some (0, σ) ∧ ¬ τ 10 i = -1 ∧ ∃ so m : Nat, so ≤ 2 ∧ m ≤ 40 ∧ σ (59 + 2 * i) 1 = nI so ∧ τ 10 i = nI so ∧ σ (59 + 2 * i) 2 = nI m ∧ τ 11 i = nI m ∧ ∀ k, k < 40 → σ (60 + 2 * i) k = τ 12 (40 * i + k)) := by
  obtain ⟨t1, t2, t3, t4⟩ := sh_sh i hi
  unfold F7_isMissing
  rw [gd_t (isO_t t1)]
  rcases h with ⟨a1, a2, a3, a4⟩ | ⟨so, m, a1, a2, a3, a4, a5, a6, a7⟩
  · left
    rw [if_pos a1]
    exact ⟨rfl, a2⟩
  · right
    rw [if_neg (by rw [a3]; exact nI_nm1 (by omega))]
    exact ⟨rfl, by rw [a4]; exact nI_nm1 (by omega), so, m, a1, a2, a3, a4, a5, a6, a7⟩
theorem writeC {i j so : Nat} {v : Int32} {σ : M2} (hi : i < 4) (hj : j < 40) (h : σ (59 + 2 * i) 1 = nI so) (hso : so ≤ 2) : F7_write (59 + 2 * i) (nI j) v σ = some ((), up σ (60 + 2 * i) j (if so = 0 then v.toInt8.toInt32 else if so = 1 then v.toInt16.toInt32 else v)) := by
  obtain ⟨t1, t2, t3, t4⟩ := sh_sh i hi
  unfold F7_write F7_write_31
  rw [gd_t (isO_t t1), h, t3, fset t2 (by omega) (by omega), fset t2 (by omega) (by omega), fset t2 (by omega) (by omega), bnd_s, bnd_s, bnd_s]
  rcases (show so = 0 ∨ so = 1 ∨ so = 2 by omega) with rfl | rfl | rfl
  · rw [if_pos (by decide), if_pos rfl]
  · rw [if_neg (by decide), if_pos (by decide), if_neg (by decide), if_pos rfl]
  · rw [if_neg (by decide), if_neg (by decide), if_neg (by decide), if_neg (by decide)]
theorem m_cell (a x v : Int32) : Both (F11_cell a x v) (F12_cell a x v) := by
  intro σ τ hR
  obtain ⟨nn, r, t, w, hA⟩ := id hR
  unfold F11_cell F12_cell
  rw [gwi, bnd_s]
  by_cases c0 : wi a 0 3 = 0
  · rw [sheetAt_out c0, bnd_s, if_pos c0]
    exact ⟨_, _, _, rfl, rfl, hR⟩
  rw [if_neg c0]
  obtain ⟨i, hi, rfl⟩ := wi_m (n := 3) (by omega) c0
  obtain ⟨t1, t2, t3, t4⟩ := sh_sh i (by omega)
  rw [sheetAt_in (by omega), bnd_s, gd_t (inb_t (N := 4) (by omega) (by omega)), nI_c (by omega)]
  show ∃ v σ' τ', gd (isO csh (59 + 2 * i) 6 3) _ = _ ∧ _
  rw [gd_t (isO_t t1)]
  rcases sheet_two (hA.2.2.2.2.1 i (by omega)) (by omega) with ⟨b1, b2⟩ | ⟨b1, b2, so, m, b3, b4, b5, b6, b7, b8, b9⟩
  · rw [b1, bnd_s, if_neg (by decide), if_pos b2]
    exact ⟨_, _, _, rfl, rfl, hR⟩
  · rw [b1, bnd_s, if_pos rfl, if_neg b2, b7, b8, fwi, gwi, bnd_s, bnd_s]
    by_cases c1 : wi x 0 (nI m - 1) = 0
    · rw [if_pos c1, if_pos c1]; exact ⟨_, _, _, rfl, rfl, hR⟩
    rw [if_neg c1, if_neg c1]
    obtain ⟨j, hj, rfl⟩ := wi_n (by omega) c1
    have eM : (if τ 10 i = 0 then F12_cell_84 v.toInt8.toInt32 ((40 : Int32) * nI i + nI j) τ else if τ 10 i = 1 then F12_cell_84 v.toInt16.toInt32 ((40 : Int32) * nI i + nI j) τ else F12_cell_84 v ((40 : Int32) * nI i + nI j) τ) = some (1, up τ 12 (40 * i + j) (if so = 0 then v.toInt8.toInt32 else if so = 1 then v.toInt16.toInt32 else v)) := by
      unfold F12_cell_84
      rw [b6, cell_ix, gd_t (inb_t (N := 160) (by omega) (by omega)), gd_t (inb_t (N := 160) (by omega) (by omega)), gd_t (inb_t (N := 160) (by omega) (by omega)), nI_c (by omega)]
      rcases (show so = 0 ∨ so = 1 ∨ so = 2 by omega) with rfl | rfl | rfl
      · rw [if_pos (by decide), if_pos rfl]
      · rw [if_neg (by decide), if_pos (by decide), if_neg (by decide), if_pos rfl]
      · rw [if_neg (by decide), if_neg (by decide), if_neg (by decide), if_neg (by decide)]
    rw [eM, writeC (by omega) (by omega) b5 b3, bnd_s]
    refine ⟨_, _, _, rfl, rfl, nn, r, t, w, hA.setS (by omega) (Fr.rf.up (Or.inr (Or.inr rfl))) (Fr.rf.up (Or.inr (Or.inr ⟨rfl, by omega, by omega⟩))) (Or.inr ⟨so, m, b3, b4, ?_, ?_, ?_, ?_, fun k hk => ?_⟩)⟩
    · rw [up_ne (by omega)]; exact b5
    · rw [up_ne (by omega)]; exact b6
    · rw [up_ne (by omega)]; exact b7
    · rw [up_ne (by omega)]; exact b8
    · by_cases hkj : k = j
      · rw [hkj, up_eq, up_eq]
      · rw [up_ne (by omega), up_ne (by omega)]; exact b9 k hk
/-- numbers moved in the reference's row of all sheets -/
theorem copyM {a b n : Nat} {τ0 : M2} {fu : Nat} (ha : a + n ≤ 160) (hb : b + n ≤ 160) (hn : n ≤ 40) (hfu : 50 < fu) :
    ∃ τ', F12_copy_147 fu (nI n) (nI a) (nI b) 0 τ0 = some (nI n, τ') ∧ (∀ q, τ' 12 q = if b ≤ q ∧ q < b + n then τ0 12 (a + (q - b)) else τ0 12 q) ∧ Fr (fun o k => o = 12 ∧ b ≤ k ∧ k < b + n) τ0 τ' := by
  have key : ∃ p, F12_copy_147 fu (nI n) (nI a) (nI b) 0 τ0 = some p ∧ (p.1 = nI n ∧ (∀ q, p.2 12 q = if b ≤ q ∧ q < b + n then τ0 12 (a + (q - b)) else τ0 12 q) ∧ Fr (fun o k => o = 12 ∧ b ≤ k ∧ k < b + n) τ0 p.2) := by
    unfold F12_copy_147 F12_copy_173
    by_cases hab : b ≤ a
    · refine sl1 (R := Int32 × M2) (fun q x8 s => ∃ k, q = n - k ∧ k ≤ n ∧ x8 = nI k ∧ (∀ q, s 12 q = if b ≤ q ∧ q < b + k then τ0 12 (a + (q - b)) else τ0 12 q) ∧ Fr (fun o k => o = 12 ∧ b ≤ k ∧ k < b + n) τ0 s) (fun p => p.1 = nI n ∧ (∀ q, p.2 12 q = if b ≤ q ∧ q < b + n then τ0 12 (a + (q - b)) else τ0 12 q) ∧ Fr (fun o k => o = 12 ∧ b ≤ k ∧ k < b + n) τ0 p.2) ?_ n fu 0 τ0 (by omega) ⟨0, rfl, by omega, rfl, fun q => by rw [if_neg (by omega)], Fr.rf⟩
      intro k147 q x8 s hI
      obtain ⟨k, rfl, hk, rfl, h1, hf⟩ := hI
      by_cases hkn : n ≤ k
      · left
        obtain rfl : k = n := by omega
        rw [if_pos (nI_le (Nat.le_refl _) (by omega))]
        exact ⟨_, rfl, rfl, h1, hf⟩
      · right
        rw [if_neg (nI_ge (by omega) (by omega)), if_pos (nI_le hab (by omega)), nI_add, nI_add, gd_t (inb_t (N := 160) (by omega) (by omega)), gd_t (inb_t (N := 160) (by omega) (by omega)), nI_c (by omega), nI_c (by omega)]
        refine ⟨n - (k + 1), _, _, by omega, ⟨k + 1, rfl, by omega, by rw [nI_1], fun q => ?_, hf.up ⟨rfl, by omega, by omega⟩⟩, rfl⟩
        by_cases hq : q = b + k
        · rw [hq, up_eq, h1, if_neg (by omega), if_pos (by omega), show b + k - b = k by omega]
        · rw [up_ne (fun e => hq e.2), h1]
          by_cases hq2 : b ≤ q ∧ q < b + k
          · rw [if_pos hq2, if_pos (by omega)]
          · rw [if_neg hq2, if_neg (by omega)]
    · refine sl1 (R := Int32 × M2) (fun q x8 s => ∃ k, q = n - k ∧ k ≤ n ∧ x8 = nI k ∧ (∀ q, s 12 q = if b + (n - k) ≤ q ∧ q < b + n then τ0 12 (a + (q - b)) else τ0 12 q) ∧ Fr (fun o k => o = 12 ∧ b ≤ k ∧ k < b + n) τ0 s) (fun p => p.1 = nI n ∧ (∀ q, p.2 12 q = if b ≤ q ∧ q < b + n then τ0 12 (a + (q - b)) else τ0 12 q) ∧ Fr (fun o k => o = 12 ∧ b ≤ k ∧ k < b + n) τ0 p.2) ?_ n fu 0 τ0 (by omega) ⟨0, rfl, by omega, rfl, fun q => by rw [if_neg (by omega)], Fr.rf⟩
      intro k147 q x8 s hI
      obtain ⟨k, rfl, hk, rfl, h1, hf⟩ := hI
      by_cases hkn : n ≤ k
      · left
        obtain rfl : k = n := by omega
        rw [if_pos (nI_le (Nat.le_refl _) (by omega))]
        refine ⟨_, rfl, rfl, fun q => ?_, hf⟩
        show s 12 q = _
        rw [h1, Nat.sub_self, Nat.add_zero]
      · right
        have e : nI n - (1 : Int32) - nI k = nI (n - 1 - k) := by
          rw [show (1 : Int32) = nI 1 from rfl, pk_sub (by omega), pk_sub (by omega)]
        rw [if_neg (nI_ge (by omega) (by omega)), if_neg (nI_ge (by omega) (by omega)), e, nI_add, nI_add, gd_t (inb_t (N := 160) (by omega) (by omega)), gd_t (inb_t (N := 160) (by omega) (by omega)), nI_c (by omega), nI_c (by omega)]
        refine ⟨n - (k + 1), _, _, by omega, ⟨k + 1, rfl, by omega, by rw [nI_1], fun q => ?_, hf.up ⟨rfl, by omega, by omega⟩⟩, rfl⟩
        by_cases hq : q = b + (n - 1 - k)
        · rw [hq, up_eq, h1, if_neg (by omega), if_pos (by omega), show b + (n - 1 - k) - b = n - 1 - k by omega]
        · rw [up_ne (fun e => hq e.2), h1]
          by_cases hq2 : b + (n - k) ≤ q ∧ q < b + n
          · rw [if_pos hq2, if_pos (by omega)]
          · rw [if_neg hq2, if_neg (by omega)]
  obtain ⟨⟨v, τ'⟩, k1, k2, k3, k4⟩ := key
  have k2 : v = _ := k2
  subst k2
  exact ⟨τ', k1, k3, k4⟩
theorem spansC {i m : Nat} {x n : Int32} {σ : M2} (hi : i < 4) (hm : m ≤ 40) (h : σ (59 + 2 * i) 2 = nI m) : (F7_spans (59 + 2 * i) x n σ = some (1, σ) ∧ ∃ p k : Nat, x = nI p ∧ n = nI k ∧ p + k ≤ m) ∨ (F7_spans (59 + 2 * i) x n σ = some (0, σ) ∧ (n < 0 ∨ x < 0 ∨ ∃ p k : Nat, p < 2 ^ 31 ∧ k < 2 ^ 31 ∧ x = nI p ∧ n = nI k ∧ m < p + k)) := by
  obtain ⟨t1, t2, t3, t4⟩ := sh_sh i hi
  unfold F7_spans
  by_cases c0 : n < 0
  · right; rw [if_pos c0]; exact ⟨rfl, Or.inl c0⟩
  rw [if_neg c0]
  by_cases c1 : x < 0
  · right; rw [if_pos c1]; exact ⟨rfl, Or.inr (Or.inl c1)⟩
  rw [if_neg c1, gd_t (isO_t t1), h]
  obtain ⟨k, hk, rfl⟩ := nI_of c0
  obtain ⟨p, hp, rfl⟩ := nI_of c1
  have e : (nI m - nI k).toInt = (m : Int) - k := by
    rw [Int32.toInt_sub, nI_toInt (by omega), nI_toInt hk]
    exact Int.bmod_eq_of_le (by omega) (by omega)
  by_cases c2 : m < p + k
  · right
    rw [if_pos (by rw [Int32.lt_iff_toInt_lt, e, nI_toInt hp]; omega)]
    exact ⟨rfl, Or.inr (Or.inr ⟨p, k, hp, hk, rfl, rfl, c2⟩)⟩
  · left
    rw [if_neg (by rw [Int32.lt_iff_toInt_lt, e, nI_toInt hp]; omega)]
    exact ⟨rfl, p, k, rfl, rfl, by omega⟩
theorem subM {m p k : Nat} (hm : m ≤ 40) (hp : p ≤ m) (hk : k < 2 ^ 31) : (nI m - nI p < nI k) ↔ m < p + k := by
  rw [pk_sub hp, nI_ltI (by omega) hk]
  omega
theorem subM' {m p k : Nat} (hm : m ≤ 40) (hp : p ≤ m) (hk : k < 2 ^ 31) : (nI k ≤ nI m - nI p) ↔ p + k ≤ m := by
  rw [pk_sub hp, nI_leI hk (by omega)]
  omega
theorem m_copy {fu' : Nat} (hfu' : 161 < fu') (a x b y n : Int32) : Both (F11_copy a x b y n) (F12_copy fu' a x b y n) := by
  intro σ τ hR
  obtain ⟨nn, r, t, w, hA⟩ := id hR
  unfold F11_copy F12_copy
  rw [gwi, bnd_s]
  by_cases c0 : wi a 0 3 = 0
  · rw [sheetAt_out c0, bnd_s, if_pos c0]
    show ∃ v σ' τ', bnd (F11_sheetAt b σ) _ = _ ∧ _
    by_cases c1 : wi b 0 3 = 0
    · rw [sheetAt_out c1, bnd_s]; exact ⟨_, _, _, rfl, rfl, hR⟩
    · obtain ⟨i, hi, rfl⟩ := wi_m (n := 3) (by omega) c1
      rw [sheetAt_in (by omega), bnd_s]; exact ⟨_, _, _, rfl, rfl, hR⟩
  rw [if_neg c0, gwi, bnd_s]
  obtain ⟨i, hi, rfl⟩ := wi_m (n := 3) (by omega) c0
  obtain ⟨t1, t2, t3, t4⟩ := sh_sh i (by omega)
  rw [sheetAt_in (by omega), bnd_s]
  show ∃ v σ' τ', bnd (F11_sheetAt b σ) _ = _ ∧ _
  by_cases c1 : wi b 0 3 = 0
  · rw [sheetAt_out c1, bnd_s, if_pos c1]; exact ⟨_, _, _, rfl, rfl, hR⟩
  rw [if_neg c1]
  obtain ⟨j, hj, rfl⟩ := wi_m (n := 3) (by omega) c1
  obtain ⟨u1, u2, u3, u4⟩ := sh_sh j (by omega)
  rw [sheetAt_in (by omega), bnd_s, gd_t (inb_t (N := 4) (by omega) (by omega)), gd_t (inb_t (N := 4) (by omega) (by omega)), nI_c (by omega), nI_c (by omega)]
  show ∃ v σ' τ', gd (isO csh (59 + 2 * i) 6 3) _ = _ ∧ _
  rw [gd_t (isO_t t1)]
  rcases sheet_two (hA.2.2.2.2.1 i (by omega)) (by omega) with ⟨b1, b2⟩ | ⟨b1, b2, so, m, b3, b4, b5, b6, b7, b8, b9⟩
  · rw [b1, bnd_s, if_neg (by decide), if_pos b2]
    exact ⟨_, _, _, rfl, rfl, hR⟩
  rw [b1, bnd_s, if_pos rfl, if_neg b2, gd_t (isO_t u1)]
  rcases sheet_two (hA.2.2.2.2.1 j (by omega)) (by omega) with ⟨d1, d2⟩ | ⟨d1, d2, so', m', d3, d4, d5, d6, d7, d8, d9⟩
  · rw [d1, bnd_s, if_neg (by decide), if_pos d2]
    exact ⟨_, _, _, rfl, rfl, hR⟩
  rw [d1, bnd_s, if_pos rfl, if_neg d2, b5, b6, d5, d6, b8, d8]
  by_cases c2 : nI so = nI so'
  · rw [if_pos c2, if_pos c2]
    have hbad : (n < 0 ∨ x < 0 ∨ y < 0 ∨ (∃ p k : Nat, p < 2 ^ 31 ∧ k < 2 ^ 31 ∧ x = nI p ∧ n = nI k ∧ m < p + k) ∨ (∃ p k : Nat, p < 2 ^ 31 ∧ k < 2 ^ 31 ∧ y = nI p ∧ n = nI k ∧ m' < p + k)) → (if n < 0 then some ((-12 : Int32), τ) else if x < 0 then some ((-12 : Int32), τ) else if y < 0 then some ((-12 : Int32), τ) else if nI m < x then some ((-12 : Int32), τ) else if nI m' < y then some ((-12 : Int32), τ) else if nI m - x < n then some ((-12 : Int32), τ) else if n ≤ nI m' - y then F12_copy_147 fu' n ((40 : Int32) * nI i + x) ((40 : Int32) * nI j + y) 0 τ else some ((-12 : Int32), τ)) = some ((-12 : Int32), τ) := by
      intro h
      by_cases e0 : n < 0
      · rw [if_pos e0]
      by_cases e1 : x < 0
      · rw [if_neg e0, if_pos e1]
      by_cases e2 : y < 0
      · rw [if_neg e0, if_neg e1, if_pos e2]
      rw [if_neg e0, if_neg e1, if_neg e2]
      by_cases e3 : nI m < x
      · rw [if_pos e3]
      by_cases e4 : nI m' < y
      · rw [if_neg e3, if_pos e4]
      rw [if_neg e3, if_neg e4]
      rcases h with h | h | h | ⟨p, k, hp, hk, rfl, rfl, h⟩ | ⟨p, k, hp, hk, rfl, rfl, h⟩
      · exact absurd h e0
      · exact absurd h e1
      · exact absurd h e2
      · have hpm : p ≤ m := by
          rcases Nat.lt_or_ge m p with z | z
          · exact absurd (nI_lt z hp) e3
          · exact z
        rw [if_pos ((subM b4 hpm hk).mpr h)]
      · have hpm : p ≤ m' := by
          rcases Nat.lt_or_ge m' p with z | z
          · exact absurd (nI_lt z hp) e4
          · exact z
        by_cases e5 : nI m - x < nI k
        · rw [if_pos e5]
        · rw [if_neg e5, if_neg (fun z => by have := (subM' d4 hpm hk).mp z; omega)]
    rcases spansC (x := x) (n := n) (by omega) b4 b7 with ⟨s1, p, k, rfl, rfl, hpk⟩ | ⟨s1, hb⟩
    · rw [s1, bnd_s, if_neg (by decide)]
      rcases spansC (x := y) (n := nI k) (by omega) d4 d7 with ⟨s2, q, k2, rfl, hk2, hqk⟩ | ⟨s2, hb⟩
      · have hk2' : k2 = k := by
          have := (nI_eq (by omega) (by omega)).mp hk2
          omega
        subst hk2'
        obtain ⟨τ', e1, e2, e3⟩ := copyM (a := 40 * i + p) (b := 40 * j + q) (n := k2) (τ0 := τ) (fu := fu') (by omega) (by omega) (by omega) (by omega)
        have hok : copyOk (nI p) (nI q) (nI k2) 40 40 = true := decide_eq_true ⟨nI_pos (by omega), nI_pos (by omega), nI_pos (by omega), by rw [nI_c (by omega), nI_c (by omega)]; omega, by rw [nI_c (by omega), nI_c (by omega)]; omega⟩
        rw [s2, bnd_s, if_neg (by decide), t3, u3, gd_t (isA_t t2), gd_t (isA_t u2), t2, u2, gd_t hok, if_neg (nI_pos (by omega)), if_neg (nI_pos (by omega)), if_neg (nI_pos (by omega)), if_neg (nI_nlt (by omega) (by omega)), if_neg (nI_nlt (by omega) (by omega)), if_neg (fun z => by have := (subM b4 (by omega) (by omega)).mp z; omega), if_pos ((subM' d4 (by omega) (by omega)).mpr hqk), cell_ix, cell_ix, e1, nI_c (by omega), nI_c (by omega), nI_c (by omega)]
        have ecp : ∀ o k, o ≠ 60 + 2 * j → cpy σ (60 + 2 * i) p (60 + 2 * j) q k2 o k = σ o k := fun o k ho => by
          unfold cpy
          rw [if_neg ho]
        refine ⟨_, _, _, rfl, rfl, nn, r, t, w, hA.setS (i := j) (by omega) (fun o k hs => ecp o k (fun z => hs (Or.inr (Or.inr z)))) (e3.mono fun o k z => Or.inr (Or.inr ⟨z.1, by omega, by omega⟩)) (Or.inr ⟨so', m', d3, d4, ?_, ?_, ?_, ?_, fun c hc => ?_⟩)⟩
        · rw [ecp _ _ (by omega)]; exact d5
        · rw [e3 _ _ (by omega)]; exact d6
        · rw [ecp _ _ (by omega)]; exact d7
        · rw [e3 _ _ (by omega)]; exact d8
        · have e4 : cpy σ (60 + 2 * i) p (60 + 2 * j) q k2 (60 + 2 * j) c = va_cpy (σ (60 + 2 * i)) (σ (60 + 2 * j)) p q k2 c := by
            unfold cpy
            rw [if_pos rfl]
          rw [e4, e2]
          by_cases hc2 : q ≤ c ∧ c < q + k2
          · rw [pk_cpy_in hc2.1 hc2.2, if_pos (by omega), b9 _ (by omega)]
            congr 1
            omega
          · rw [pk_cpy_out (by omega), if_neg (by omega), d9 c hc]
      · rw [s2, bnd_s, if_pos rfl, hbad (by
          rcases hb with hb | hb | hb
          · exact Or.inl hb
          · exact Or.inr (Or.inr (Or.inl hb))
          · exact Or.inr (Or.inr (Or.inr (Or.inr hb))))]
        exact ⟨_, _, _, rfl, rfl, hR⟩
    · rw [s1, bnd_s, if_pos rfl, hbad (by
        rcases hb with hb | hb | hb
        · exact Or.inl hb
        · exact Or.inr (Or.inl hb)
        · exact Or.inr (Or.inr (Or.inr (Or.inl hb))))]
      exact ⟨_, _, _, rfl, rfl, hR⟩
  · rw [if_neg c2, if_neg c2]; exact ⟨_, _, _, rfl, rfl, hR⟩
end
