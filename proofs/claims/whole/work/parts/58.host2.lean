section
/-! childrenBy, taken, feed -/
theorem sz_toInt : ∀ m, m < 41 → ∀ k, k < 9 → (nI m - 1 - nI k).toInt = (m : Int) - 1 - k ∧ (nI m - 1).toInt = (m : Int) - 1 := by decide +kernel
theorem by_sheet {i : Nat} {σ τ : M2} (h : ShR σ τ i) : ∃ m : Nat, m ≤ 40 ∧ σ (59 + 2 * i) 2 = nI m ∧ τ 11 i = nI m ∧ ∀ k, k < m → σ (60 + 2 * i) k = τ 12 (40 * i + k) := by
  rcases h with ⟨a1, a2, a3, a4⟩ | ⟨so, m, a1, a2, a3, a4, a5, a6, a7⟩
  · exact ⟨0, by omega, a3, a4, fun k hk => by omega⟩
  · exact ⟨m, a2, a5, a6, fun k hk => a7 k (by omega)⟩
theorem by_wi {f : Int32} {m k : Nat} (hm : m ≤ 40) (hk : k ≤ 8) : (wi f 0 (nI m - 1 - nI k) = 0 ∧ (f < 0 ∨ f + (1 : Int32) * nI k < f ∨ ¬ f + (1 : Int32) * nI k ≤ nI m - 1)) ∨ (∃ j : Nat, j + k < m ∧ f = nI j ∧ wi f 0 (nI m - 1 - nI k) = 1) := by
  obtain ⟨e1, e2⟩ := sz_toInt m (by omega) k (by omega)
  have emul : (1 : Int32) * nI k = nI k := Int32.one_mul _
  rw [emul]
  unfold wi
  by_cases c0 : f < 0
  · left; rw [if_pos c0]; exact ⟨rfl, Or.inl c0⟩
  rw [if_neg c0]
  obtain ⟨j, hj, rfl⟩ := nI_of c0
  by_cases c1 : nI m - 1 - nI k < nI j
  · left
    rw [if_pos c1]
    refine ⟨rfl, Or.inr ?_⟩
    rw [Int32.lt_iff_toInt_lt, e1, nI_toInt hj] at c1
    rw [nI_add]
    by_cases hw : j + k < 2 ^ 31
    · right
      rw [Int32.le_iff_toInt_le, e2, nI_toInt hw]
      omega
    · left
      rw [Int32.lt_iff_toInt_lt, nI_toInt hj]
      have : (nI (j + k)).toInt = ((j + k : Nat) : Int) - 2 ^ 32 := by
        show (Int32.ofNat (j + k)).toInt = _
        rw [Int32.toInt_ofNat', Int.bmod_def]
        have e32 : (Int32.size : Int) = 4294967296 := rfl
        rw [e32]
        rw [if_neg (by omega)]
        omega
      omega
  · right
    rw [if_neg c1]
    rw [Int32.lt_iff_toInt_lt, e1, nI_toInt hj] at c1
    exact ⟨j, by omega, rfl, rfl⟩
theorem m_childrenBy {fu fu' : Nat} (hfu : 161 < fu) (hfu' : 161 < fu') (a so f n : Int32) : Both (F11_childrenBy fu a so f n) (F12_childrenBy fu' a so f n) := by
  intro σ τ hR
  obtain ⟨nn, r, t, w, hA⟩ := id hR
  unfold F11_childrenBy F12_childrenBy
  rw [gwi, bnd_s]
  by_cases c0 : wi a 0 3 = 0
  · rw [sheetAt_out c0, bnd_s, if_pos c0]
    exact ⟨_, _, _, rfl, rfl, hR⟩
  rw [if_neg c0, gwi, bnd_s]
  obtain ⟨i, hi, rfl⟩ := wi_m (n := 3) (by omega) c0
  obtain ⟨t1, t2, t3, t4⟩ := sh_sh i (by omega)
  rw [sheetAt_in (by omega), bnd_s]
  show ∃ v σ' τ', bnd (F11_within so 0 2 σ) _ = _ ∧ _
  rw [fwi, bnd_s]
  by_cases c1 : wi so 0 2 = 0
  · rw [if_pos c1, if_pos c1]; exact ⟨_, _, _, rfl, rfl, hR⟩
  rw [if_neg c1, if_neg c1, fwi, gwi, bnd_s, bnd_s]
  by_cases c2 : wi n 0 8 = 0
  · rw [if_pos c2, if_pos c2]; exact ⟨_, _, _, rfl, rfl, hR⟩
  rw [if_neg c2, if_neg c2, gd_t (isO_t t1), gd_t (inb_t (N := 4) (by omega) (by omega)), nI_c (by omega)]
  obtain ⟨b, hb, rfl⟩ := wi_m (n := 8) (by omega) c2
  rcases sheet_two (hA.2.2.2.2.1 i (by omega)) (by omega) with ⟨b1, b2⟩ | ⟨b1, b2, so', m, b3, b4, b5, b6, b7, b8, b9⟩
  · rw [b1, bnd_s, if_neg (by decide), if_pos b2]
    exact ⟨_, _, _, rfl, rfl, hR⟩
  rw [b1, bnd_s, if_pos rfl, if_neg b2, b5, b6]
  by_cases c3 : nI so' = so
  · rw [if_pos c3, if_pos c3]
    have key : ∃ p p' : Int32 × M2, F11_childrenBy_64 fu f (nI b) (59 + 2 * i) 0 0 σ = some p ∧ F12_childrenBy_64 fu' (nI i) f (nI b) 0 0 τ = some p' ∧ (p.1 = p'.1 ∧ R p.2 p'.2) := by
      unfold F11_childrenBy_64 F12_childrenBy_64
      refine pl22 (R := Int32 × M2) (R' := Int32 × M2) (fun q x6 x7 s y5 y6 u => ∃ k, q = b - k ∧ k ≤ b ∧ x6 = y5 ∧ x7 = nI k ∧ y6 = nI k ∧ R s u) (fun p p' => p.1 = p'.1 ∧ R p.2 p'.2) ?_ b fu fu' 0 0 σ 0 0 τ (by omega) (by omega) ⟨0, rfl, by omega, rfl, rfl, rfl, hR⟩
      intro k64 k64' q x6 x7 s y5 y6 u hI
      obtain ⟨k, rfl, hk, rfl, rfl, rfl, hRs⟩ := hI
      by_cases hbk : b ≤ k
      · left
        rw [if_pos (nI_le hbk (by omega)), if_pos (nI_le hbk (by omega))]
        exact ⟨_, _, rfl, rfl, rfl, hRs⟩
      · obtain ⟨n2, r2, t2', w2, hA2⟩ := id hRs
        obtain ⟨m2, hm2, e1, e2, e3⟩ := by_sheet (hA2.2.2.2.2.1 i (by omega))
        rw [if_neg (nI_ge (by omega) (by omega)), if_neg (nI_ge (by omega) (by omega)), gd_t (isO_t t1), e1, fwi, bnd_s]
        rcases by_wi (f := f) (m := m2) (k := k) hm2 (by omega) with ⟨g1, g2⟩ | ⟨j, hj, rfl, g2⟩
        · left
          rw [if_pos g1]
          refine ⟨(-12, s), (-12, u), rfl, ?_, rfl, hRs⟩
          by_cases g3 : f < 0
          · rw [if_pos g3]
          rw [if_neg g3]
          by_cases g4 : f + (1 : Int32) * nI k < f
          · rw [if_pos g4]
          rw [if_neg g4, gd_t (inb_t (N := 4) (by omega) (by omega)), nI_c (by omega), e2, if_neg (by rcases g2 with g2 | g2 | g2; exact absurd g2 g3; exact absurd g2 g4; exact g2)]
        · right
          obtain ⟨v, s', u', k1, k2, k3⟩ := m_child (u 12 (40 * i + (j + k))) s u hRs
          have emul : (1 : Int32) * nI k = nI k := Int32.one_mul _
          have esz : nI m2 - (1 : Int32) = nI (m2 - 1) := by rw [show (1 : Int32) = nI 1 from rfl, pk_sub (by omega)]
          unfold F7_read
          rw [if_neg (by rw [g2]; decide), gd_t (isO_t t1), t3, emul, nI_add, fat t2 (by omega) (by omega), bnd_s, bnd_s, if_neg (nI_pos (by omega)), if_neg (nI_nlt (by omega) (by omega)), gd_t (inb_t (N := 4) (by omega) (by omega)), nI_c (j := i) (by omega), e2, esz, if_pos (nI_le (by omega) (by omega)), cell_ix, gd_t (inb_t (N := 160) (by omega) (by omega)), nI_c (by omega), e3 _ (by omega), k1, k2, bnd_s, bnd_s]
          unfold F11_childrenBy_115 F12_childrenBy_135
          by_cases g3 : v < 0
          · rw [if_pos g3, if_pos g3]
            exact ⟨b - (k + 1), _, _, _, _, _, _, by omega, ⟨k + 1, rfl, by omega, rfl, by rw [nI_1], by rw [nI_1], k3⟩, rfl, rfl⟩
          · rw [if_neg g3, if_neg g3]
            exact ⟨b - (k + 1), _, _, _, _, _, _, by omega, ⟨k + 1, rfl, by omega, rfl, by rw [nI_1], by rw [nI_1], k3⟩, rfl, rfl⟩
    obtain ⟨⟨v, σ'⟩, ⟨v', τ'⟩, k1, k2, k3, k4⟩ := key
    have k3 : v = v' := k3
    subst k3
    exact ⟨_, _, _, k1, k2, k4⟩
  · rw [if_neg c3, if_neg c3]; exact ⟨_, _, _, rfl, rfl, hR⟩
def isV (z k : Nat) : Int32 := if k = 0 ∨ z = k ∨ (k = 1 ∧ z = 3) ∨ (k = 2 ∧ z = 4) then 1 else 0
theorem isOneC {z k : Nat} {σ : M2} {fu : Nat} (hz : z ≤ 5) (hk : k ≤ 6) (hfu : 9 < fu) : F3_isOne fu (nI z) (nI k) σ = some (isV z k, σ) := by
  obtain ⟨q, rfl⟩ : ∃ q, fu = q + 9 := ⟨fu - 9, by omega⟩
  rcases (show z = 0 ∨ z = 1 ∨ z = 2 ∨ z = 3 ∨ z = 4 ∨ z = 5 by omega) with rfl | rfl | rfl | rfl | rfl | rfl <;> rcases (show k = 0 ∨ k = 1 ∨ k = 2 ∨ k = 3 ∨ k = 4 ∨ k = 5 ∨ k = 6 by omega) with rfl | rfl | rfl | rfl | rfl | rfl | rfl <;> rfl
theorem isOneM {z k : Nat} {τ : M2} (hz : z ≤ 5) (hk : k ≤ 5) : F12_isUnder (nI z) (nI k) τ = some (isV z k, τ) := by
  rcases (show z = 0 ∨ z = 1 ∨ z = 2 ∨ z = 3 ∨ z = 4 ∨ z = 5 by omega) with rfl | rfl | rfl | rfl | rfl | rfl <;> rcases (show k = 0 ∨ k = 1 ∨ k = 2 ∨ k = 3 ∨ k = 4 ∨ k = 5 by omega) with rfl | rfl | rfl | rfl | rfl | rfl <;> rfl
theorem isV6 {z : Nat} (hz : z ≤ 5) : isV z 6 = 0 := by
  unfold isV
  rw [if_neg (by omega)]
theorem wi_ge {j n : Nat} (hn : n < 2 ^ 31) (hj : j < 2 ^ 31) (h : n ≤ j) : wi (nI j) 0 (nI n - 1) = 0 := Decidable.byContradiction fun e => by
  obtain ⟨q, hq, e2⟩ := wi_n hn e
  have := (nI_eq hj (by omega)).mp e2
  omega
theorem m_taken {fu : Nat} (hfu : 161 < fu) (x k : Int32) : Both (F11_taken fu x k) (F12_taken x k) := by
  intro σ τ hR
  obtain ⟨n, r, t, w, hA⟩ := id hR
  obtain ⟨a1, a2, a3, a4, a5, a6, a7, a8, a9, a10, a11, a12⟩ := id hA.1
  unfold F11_taken F12_taken
  rw [fwi, gwi, bnd_s, bnd_s]
  by_cases c0 : wi k 0 6 = 0
  · rw [if_pos c0, if_pos c0]; exact ⟨_, _, _, rfl, rfl, hR⟩
  rw [if_neg c0, if_neg c0, fwi, gwi, bnd_s, bnd_s]
  by_cases c1 : wi x 0 13 = 0
  · rw [if_pos c1, if_pos c1]; exact ⟨_, _, _, rfl, rfl, hR⟩
  rw [if_neg c1, if_neg c1]
  obtain ⟨q, hq, rfl⟩ := wi_m (n := 6) (by omega) c0
  obtain ⟨i, hi, rfl⟩ := wi_m (n := 13) (by omega) c1
  by_cases c2 : 6 ≤ i
  · rw [if_pos (show (6 : Int32) ≤ nI i from nI_le (a := 6) c2 (by omega)), if_neg (show ¬ nI i < (6 : Int32) from nI_nlt (b := 6) c2 (by omega)), show nI i - (6 : Int32) = nI (i - 6) from pk_sub (b := 6) c2, isChildC a4, bnd_s, a5]
    by_cases c3 : i - 6 < n
    · rw [wi_in (by omega) c3, if_neg (by decide), if_pos (nI_lt c3 (by omega))]
      by_cases c4 : q = 6
      · subst c4
        rw [if_pos (show nI 6 = (6 : Int32) from rfl), if_pos (show nI 6 = (6 : Int32) from rfl), fat (N := 8) (by decide) (by omega) (by omega), bnd_s, ix3, gd_t (inb_t (N := 24) (by omega) (by omega)), nI_c (by omega), (a8 _ c3).1]
        exact ⟨_, _, _, rfl, rfl, hR⟩
      · rw [if_neg (show ¬ nI q = (6 : Int32) from nI_eqI (b := 6) (by omega) (by omega) c4), if_neg (show ¬ nI q = (6 : Int32) from nI_eqI (b := 6) (by omega) (by omega) c4)]
        exact ⟨_, _, _, rfl, rfl, hR⟩
    · rw [wi_ge (by omega) (by omega) (by omega), if_pos rfl, if_neg (nI_nlt (by omega) (by omega))]
      exact ⟨_, _, _, rfl, rfl, hR⟩
  · unfold F11_takenForRace
    rw [if_neg (show ¬ (6 : Int32) ≤ nI i from nI_ge (b := 6) (by omega) (by omega)), if_pos (show nI i < (6 : Int32) from nI_lt (b := 6) (by omega) (by omega)), isRaceC a6, bnd_s, a7]
    by_cases c3 : i < r
    · obtain ⟨d1, d2, d3, d4, ⟨z, hz, d5⟩, d6⟩ := a9 i c3
      rw [wi_in (by omega) c3, if_neg (by decide), if_pos (nI_lt c3 (by omega)), fat (N := 6) (by decide) (by omega) (by omega), bnd_s, d5, isOneC hz hq (by omega), bnd_s]
      by_cases c4 : q = 6
      · subst c4
        rw [isV6 hz, if_pos rfl, if_pos (show (6 : Int32) ≤ nI 6 by decide), bnd_s]
        exact ⟨_, _, _, rfl, rfl, hR⟩
      · rw [if_neg (show ¬ (6 : Int32) ≤ nI q from nI_ge (b := 6) (by omega) (by omega)), gd_t (inb_t (N := 6) (by omega) (by omega)), nI_c (by omega), ← d1, d5, isOneM hz (by omega), bnd_s]
        by_cases c5 : isV z q = 0
        · rw [if_pos c5, if_pos c5, bnd_s]; exact ⟨_, _, _, rfl, rfl, hR⟩
        · rw [if_neg c5, if_neg c5, bnd_s]; exact ⟨_, _, _, rfl, rfl, hR⟩
    · rw [wi_ge (by omega) (by omega) (by omega), if_pos rfl, if_neg (nI_nlt (by omega) (by omega)), bnd_s]
      exact ⟨_, _, _, rfl, rfl, hR⟩
theorem RD.of3 {n r w : Nat} {σ τ σ' τ' : M2} (h : RD n r w σ τ) (ht : TR σ' τ' w) (c : ∀ o k, (0 < o ∧ o < 10) ∨ (o = 10 ∧ k = 2) → σ' o k = σ o k) (m : ∀ o k, (0 < o ∧ o < 5) → τ' o k = τ o k) (m0 : ∀ k, k = 0 ∨ k = 2 ∨ k = 11 → τ' 0 k = τ 0 k) : RD n r w σ' τ' := by
  obtain ⟨h1, h2, h3, h4, h5, h6, h7, h8, h9, h10, h11, h12⟩ := h
  refine ⟨h1, h2, h3, ?_, ?_, ?_, ?_, fun k hk => ?_, fun k hk => ?_, ?_, ?_, ht⟩
  · rw [c 1 _ (by omega)]; exact h4
  · rw [m0 0 (by omega)]; exact h5
  · rw [c 5 _ (by omega)]; exact h6
  · rw [m0 2 (by omega)]; exact h7
  · have := h8 k hk
    unfold Kid at this ⊢
    rw [c 2 _ (by omega), c 3 _ (by omega), c 4 _ (by omega), m 1 _ (by omega), m 1 _ (by omega), m 1 _ (by omega)]
    exact this
  · have := h9 k hk
    unfold Rac at this ⊢
    rw [c 6 _ (by omega), c 7 _ (by omega), c 8 _ (by omega), c 9 _ (by omega), m 2 _ (by omega), m 3 _ (by omega), m 4 _ (by omega), m 4 _ (by omega)]
    exact this
  · rw [c 10 _ (by omega)]; exact h10
  · rw [m0 11 (by omega)]; exact h11
/-- texts and the tape change: the rest stays -/
theorem RA.ofT {n r t w t1 : Nat} {σ τ σ' τ' : M2} (h : RA n r t w σ τ) (hT : RT t1 σ' τ') (htt : t ≤ t1) (hp : TapeR σ' τ') (c : ∀ o k, (0 < o ∧ o < 10) ∨ (o = 10 ∧ k = 2) ∨ (59 ≤ o ∧ o ≤ 76) ∨ (o = 0 ∧ 12 ≤ k ∧ k ≤ 13) → σ' o k = σ o k) (m : ∀ o k, (0 < o ∧ o < 5) ∨ (8 ≤ o ∧ o ≤ 14) ∨ o = 22 ∨ (o = 0 ∧ (k = 0 ∨ k = 2 ∨ k = 11 ∨ k = 12 ∨ k = 39)) → τ' o k = τ o k) : RA n r t1 w σ' τ' := by
  obtain ⟨h1, h2, h3, h4, h5, h6, h7⟩ := h
  exact ⟨h1.of3 (hT.2.2.2 w (by omega)) (fun o k q => c o k (by omega)) (fun o k q => m o k (by omega)) (fun k q => m 0 k (by omega)), by omega, hT, hp, fun i hi => (h5 i hi).fr (fun k => c _ _ (by omega)) (fun k => c _ _ (by omega)) (m _ _ (by omega)) (m _ _ (by omega)) (fun k _ => m _ _ (by omega)), h6.fr (Nat.le_refl _) (Nat.le_refl _) htt (fun k a b => c _ _ (by omega)) (m _ _ (by omega)) (fun o k a b => c _ _ (by omega)) (fun o k a b => m _ _ (by omega)), h7.fr (fun k => m _ _ (by omega)) (m _ _ (by omega)) (fun k => m _ _ (by omega))⟩
theorem byteC {v : Int32} {σ : M2} : F11_isByte v σ = some (wi v 0 255, σ) := by
  unfold F11_isByte
  rw [fwi, bnd_s, gd_t (isZ_wi _ _ _)]
theorem byteM {v : Int32} {τ : M2} : F12_isByte v τ = some (wi v 0 255, τ) := by
  unfold F12_isByte
  rw [gwi, bnd_s, gd_t (isZ_wi _ _ _)]
/-- one byte more behind both tapes -/
theorem add_rel {s : Nat} {x : Int32} {σ τ : M2} (hs : s < 160) (h1 : σ 36 3 = nI s) (h2 : τ 0 7 = nI s) :
    ∃ σ' τ', F8_add x σ = some ((), σ') ∧ up (up τ 5 s x) 0 7 (((up τ 5 s x) 0 7) + 1) = τ' ∧ σ' 36 3 = nI (s + 1) ∧ τ' 0 7 = nI (s + 1) ∧ σ' 37 s = x ∧ τ' 5 s = x ∧ Fr (fun o k => (o = 37 ∧ k = s) ∨ (o = 36 ∧ k = 3)) σ σ' ∧ Fr (fun o k => (o = 5 ∧ k = s) ∨ (o = 0 ∧ k = 7)) τ τ' := by
  unfold F8_add
  rw [h1, if_neg (show ¬ (160 : Int32) ≤ nI s from nI_ge (b := 160) hs (by omega)), gd_t (inb_t hs (by omega)), nI_c (by omega)]
  refine ⟨_, _, rfl, rfl, ?_, ?_, ?_, ?_, fun o k h => ?_, fun o k h => ?_⟩
  · rw [up_eq, up_ne (by omega), h1, nI_1]
  · rw [up_eq, up_ne (by omega), h2, nI_1]
  · rw [up_ne (by omega), up_eq]
  · rw [up_ne (by omega), up_eq]
  · have h : ¬ ((o = 37 ∧ k = s) ∨ (o = 36 ∧ k = 3)) := h
    rw [up_ne (by omega), up_ne (by omega)]
  · have h : ¬ ((o = 5 ∧ k = s) ∨ (o = 0 ∧ k = 7)) := h
    rw [up_ne (by omega), up_ne (by omega)]
theorem m_feed {fu fu' : Nat} (hfu : 161 < fu) (hfu' : 161 < fu') (n a b c d e : Int32) : Both (F11_feed fu n a b c d e) (F12_feed fu' n a b c d e) := by
  intro σ0 τ0 hR
  obtain ⟨nn, r, t, w, hA⟩ := id hR
  unfold F11_feed F12_feed
  rw [fwi, gwi, bnd_s, bnd_s]
  by_cases c0 : wi n 1 5 = 0
  · rw [if_pos c0, if_pos c0]; exact ⟨_, _, _, rfl, rfl, hR⟩
  rw [if_neg c0, if_neg c0, byteC, byteM, bnd_s, bnd_s]
  by_cases c1 : wi a 0 255 = 0
  · rw [if_pos c1, if_pos c1]; exact ⟨_, _, _, rfl, rfl, hR⟩
  rw [if_neg c1, if_neg c1, byteC, byteM, bnd_s, bnd_s]
  by_cases c2 : wi b 0 255 = 0
  · rw [if_pos c2, if_pos c2]; exact ⟨_, _, _, rfl, rfl, hR⟩
  rw [if_neg c2, if_neg c2, byteC, byteM, bnd_s, bnd_s]
  by_cases c3 : wi c 0 255 = 0
  · rw [if_pos c3, if_pos c3]; exact ⟨_, _, _, rfl, rfl, hR⟩
  rw [if_neg c3, if_neg c3, byteC, byteM, bnd_s, bnd_s]
  by_cases c4 : wi d 0 255 = 0
  · rw [if_pos c4, if_pos c4]; exact ⟨_, _, _, rfl, rfl, hR⟩
  rw [if_neg c4, if_neg c4, byteC, byteM, bnd_s, bnd_s]
  by_cases c5 : wi e 0 255 = 0
  · rw [if_pos c5, if_pos c5]; exact ⟨_, _, _, rfl, rfl, hR⟩
  rw [if_neg c5, if_neg c5]
  obtain ⟨za, hza, rfl⟩ := wi_m (n := 255) (by omega) c1
  obtain ⟨zb, hzb, rfl⟩ := wi_m (n := 255) (by omega) c2
  obtain ⟨zc, hzc, rfl⟩ := wi_m (n := 255) (by omega) c3
  obtain ⟨zd, hzd, rfl⟩ := wi_m (n := 255) (by omega) c4
  obtain ⟨ze, hze, rfl⟩ := wi_m (n := 255) (by omega) c5
  obtain ⟨m, hm, rfl⟩ : ∃ m, m ≤ 5 ∧ n = nI m := by
    obtain ⟨d1, d2⟩ := wi_1 c0
    have d3 : ¬ n < 0 := fun e => d1 (by
      rw [Int32.lt_iff_toInt_lt] at e ⊢
      have e0 : (0 : Int32).toInt = 0 := rfl
      have e1 : (1 : Int32).toInt = 1 := rfl
      omega)
    obtain ⟨b, hb, rfl⟩ := nI_of d3
    refine ⟨b, ?_, rfl⟩
    rcases Nat.lt_or_ge 5 b with q | q
    · exact absurd (nI_lt (a := 5) q hb) d2
    · exact q
  obtain ⟨s, hs, h1, h2, h3⟩ := hA.2.2.2.1
  obtain ⟨t1, t2, t3, t4⟩ := hA.2.2.1
  rw [h1, h2, nI_add]
  by_cases c6 : s + m ≤ 160
  · rw [if_pos (show nI (s + m) ≤ (160 : Int32) from nI_le (b := 160) c6 (by omega)), if_pos (show nI (s + m) ≤ (160 : Int32) from nI_le (b := 160) c6 (by omega))]
    have key : ∃ p p' : Int32 × M2, F11_feed_71 fu (nI m) (nI za) (nI zb) (nI zc) (nI zd) (nI ze) 0 σ0 = some p ∧ F12_feed_68 fu' (nI m) (nI za) (nI zb) (nI zc) (nI zd) (nI ze) 0 τ0 = some p' ∧ (p.1 = p'.1 ∧ p.2 36 3 = nI (s + m) ∧ p'.2 0 7 = nI (s + m) ∧ (∀ k, k < s + m → p.2 37 k = p'.2 5 k ∧ ∃ z : Nat, z < 256 ∧ p.2 37 k = nI z) ∧ Fr (fun o k => o = 37 ∨ (o = 36 ∧ k = 3)) σ0 p.2 ∧ Fr (fun o k => o = 5 ∨ (o = 0 ∧ k = 7)) τ0 p'.2) := by
      unfold F11_feed_71 F12_feed_68
      refine pl11 (R := Int32 × M2) (R' := Int32 × M2) (fun q x7 σ y7 τ => ∃ k, q = m - k ∧ k ≤ m ∧ x7 = nI k ∧ y7 = nI k ∧ σ 36 3 = nI (s + k) ∧ τ 0 7 = nI (s + k) ∧ (∀ j, j < s + k → σ 37 j = τ 5 j ∧ ∃ z : Nat, z < 256 ∧ σ 37 j = nI z) ∧ Fr (fun o k => o = 37 ∨ (o = 36 ∧ k = 3)) σ0 σ ∧ Fr (fun o k => o = 5 ∨ (o = 0 ∧ k = 7)) τ0 τ) (fun p p' => p.1 = p'.1 ∧ p.2 36 3 = nI (s + m) ∧ p'.2 0 7 = nI (s + m) ∧ (∀ k, k < s + m → p.2 37 k = p'.2 5 k ∧ ∃ z : Nat, z < 256 ∧ p.2 37 k = nI z) ∧ Fr (fun o k => o = 37 ∨ (o = 36 ∧ k = 3)) σ0 p.2 ∧ Fr (fun o k => o = 5 ∨ (o = 0 ∧ k = 7)) τ0 p'.2) ?_ m fu fu' 0 σ0 0 τ0 (by omega) (by omega) ⟨0, rfl, by omega, rfl, rfl, h1, h2, h3, Fr.rf, Fr.rf⟩
      intro k71 k68 q x7 σ y7 τ hI
      obtain ⟨k, rfl, hk, rfl, rfl, e1, e2, e3, hf, hg⟩ := hI
      by_cases hkm : m ≤ k
      · left
        obtain rfl : k = m := by omega
        rw [if_pos (nI_le (Nat.le_refl _) (by omega)), if_pos (nI_le (Nat.le_refl _) (by omega)), e1, e2]
        exact ⟨_, _, rfl, rfl, rfl, e1, e2, e3, hf, hg⟩
      · right
        rw [if_neg (nI_ge (by omega) (by omega)), if_neg (nI_ge (by omega) (by omega)), e2]
        have step : ∀ z : Nat, z < 256 → ∃ m_1 x0 s_1 y0 t_1, m_1 < m - k ∧ (∃ k, m_1 = m - k ∧ k ≤ m ∧ x0 = nI k ∧ y0 = nI k ∧ s_1 36 3 = nI (s + k) ∧ t_1 0 7 = nI (s + k) ∧ (∀ j, j < s + k → s_1 37 j = t_1 5 j ∧ ∃ z : Nat, z < 256 ∧ s_1 37 j = nI z) ∧ Fr (fun o k => o = 37 ∨ (o = 36 ∧ k = 3)) σ0 s_1 ∧ Fr (fun o k => o = 5 ∨ (o = 0 ∧ k = 7)) τ0 t_1) ∧ F11_feed_124 fu k71 (nI m) (nI za) (nI zb) (nI zc) (nI zd) (nI ze) (nI k) (nI z) σ = k71 x0 s_1 ∧ F12_feed_125 fu' k68 (nI m) (nI za) (nI zb) (nI zc) (nI zd) (nI ze) (nI k) (nI z) (nI (s + k)) τ = k68 y0 t_1 := by
          intro z hz
          obtain ⟨σ', τ', g1, g2, g3, g4, g5, g6, g7, g8⟩ := add_rel (x := nI z) (show s + k < 160 by omega) e1 e2
          unfold F11_feed_124 F12_feed_125
          rw [g1, bnd_s, gd_t (inb_t (N := 160) (by omega) (by omega)), nI_c (by omega), g2]
          refine ⟨m - (k + 1), _, _, _, _, by omega, ⟨k + 1, rfl, by omega, by rw [nI_1], by rw [nI_1], g3, g4, fun j hj => ?_, hf.tr (g7.mono fun o k q => by omega), hg.tr (g8.mono fun o k q => by omega)⟩, rfl, rfl⟩
          by_cases hjk : j = s + k
          · rw [hjk, g5, g6]
            exact ⟨rfl, z, hz, rfl⟩
          · rw [g7 _ _ (by omega), g8 _ _ (by omega)]
            exact e3 j (by omega)
        by_cases i0 : nI k = 0
        · rw [if_pos i0, if_pos i0]; exact step za (by omega)
        rw [if_neg i0, if_neg i0]
        by_cases i1 : nI k = 1
        · rw [if_pos i1, if_pos i1]; exact step zb (by omega)
        rw [if_neg i1, if_neg i1]
        by_cases i2 : nI k = 2
        · rw [if_pos i2, if_pos i2]; exact step zc (by omega)
        rw [if_neg i2, if_neg i2]
        by_cases i3 : nI k = 3
        · rw [if_pos i3, if_pos i3]; exact step zd (by omega)
        rw [if_neg i3, if_neg i3]
        exact step ze (by omega)
    obtain ⟨⟨v, σ'⟩, ⟨v', τ'⟩, k1, k2, k3, k4, k5, k6, k7, k8⟩ := key
    have k3 : v = v' := k3
    subst k3
    exact ⟨_, _, _, k1, k2, nn, r, t, w, hA.ofT ⟨t1, (k7 _ _ (by omega)).trans t2, (k8 _ _ (by omega)).trans t3, fun i hi => (t4 i hi).frx (funext fun k => k7 _ _ (by omega)) (funext fun k => k7 _ _ (by omega)) (fun k _ => k8 _ _ (by omega)) (fun k _ => k8 _ _ (by omega))⟩ (Nat.le_refl _) ⟨s + m, c6, k4, k5, k6⟩ (fun o k q => k7 o k (by omega)) (fun o k q => k8 o k (by omega))⟩
  · rw [if_neg (show ¬ nI (s + m) ≤ (160 : Int32) from nI_ge (a := 160) (by omega) (by omega)), if_neg (show ¬ nI (s + m) ≤ (160 : Int32) from nI_ge (a := 160) (by omega) (by omega))]
    exact ⟨_, _, _, rfl, rfl, hR⟩
end
