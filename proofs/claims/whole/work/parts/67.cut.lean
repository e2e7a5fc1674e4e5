section
/-! tokens' codes; the class's cut -/
def numN (f : Nat → Int32) (i : Nat) : Nat → Nat
  | 0 => 0
  | m + 1 => numN f i m * 10 + ((f (i + m)).toNatClampNeg - 48)
def sgv (x : Int32) : Int32 := if x = (40 : Int32) then 1 else if x = (41 : Int32) then 1 else if x = (59 : Int32) then 1 else if x = (43 : Int32) then 1 else if x = (45 : Int32) then 1 else if x = (42 : Int32) then 1 else if x = (60 : Int32) then 1 else if x = (61 : Int32) then 1 else 0
def sgN (z : Nat) : Prop := z = 40 ∨ z = 41 ∨ z = 59 ∨ z = 43 ∨ z = 45 ∨ z = 42 ∨ z = 60 ∨ z = 61
theorem sgv_1 {x : Int32} (h : ¬ sgv x = 0) : ∃ z, sgN z ∧ x = nI z := by
  unfold sgv at h
  by_cases c0 : x = 40
  · exact ⟨40, Or.inl rfl, c0⟩
  rw [if_neg c0] at h
  by_cases c1 : x = 41
  · exact ⟨41, by unfold sgN; omega, c1⟩
  rw [if_neg c1] at h
  by_cases c2 : x = 59
  · exact ⟨59, by unfold sgN; omega, c2⟩
  rw [if_neg c2] at h
  by_cases c3 : x = 43
  · exact ⟨43, by unfold sgN; omega, c3⟩
  rw [if_neg c3] at h
  by_cases c4 : x = 45
  · exact ⟨45, by unfold sgN; omega, c4⟩
  rw [if_neg c4] at h
  by_cases c5 : x = 42
  · exact ⟨42, by unfold sgN; omega, c5⟩
  rw [if_neg c5] at h
  by_cases c6 : x = 60
  · exact ⟨60, by unfold sgN; omega, c6⟩
  rw [if_neg c6] at h
  by_cases c7 : x = 61
  · exact ⟨61, by unfold sgN; omega, c7⟩
  rw [if_neg c7] at h
  exact absurd rfl h
theorem signC {x : Int32} {σ : M2} : F8_isSign x σ = some (sgv x, σ) := by
  unfold F8_isSign sgv
  by_cases c0 : x = 40
  · rw [if_pos c0, if_pos c0]
  rw [if_neg c0, if_neg c0]
  by_cases c1 : x = 41
  · rw [if_pos c1, if_pos c1]
  rw [if_neg c1, if_neg c1]
  by_cases c2 : x = 59
  · rw [if_pos c2, if_pos c2]
  rw [if_neg c2, if_neg c2]
  by_cases c3 : x = 43
  · rw [if_pos c3, if_pos c3]
  rw [if_neg c3, if_neg c3]
  by_cases c4 : x = 45
  · rw [if_pos c4, if_pos c4]
  rw [if_neg c4, if_neg c4]
  by_cases c5 : x = 42
  · rw [if_pos c5, if_pos c5]
  rw [if_neg c5, if_neg c5]
  by_cases c6 : x = 60
  · rw [if_pos c6, if_pos c6]
  rw [if_neg c6, if_neg c6]
  by_cases c7 : x = 61
  · rw [if_pos c7, if_pos c7]
  rw [if_neg c7, if_neg c7]
theorem letC {x : Int32} {σ : M2} : F8_isLetter x σ = some (wi x 97 122, σ) := by
  unfold F8_isLetter wi
  by_cases h : x < 97
  · rw [if_pos h, if_pos h]
  · rw [if_neg h, if_neg h]
    by_cases h2 : 122 < x
    · rw [if_pos h2, if_pos h2]
    · rw [if_neg h2, if_neg h2]
theorem dgtC {x : Int32} {σ : M2} : F8_isDigit x σ = some (wi x 48 57, σ) := by
  unfold F8_isDigit wi
  by_cases h : x < 48
  · rw [if_pos h, if_pos h]
  · rw [if_neg h, if_neg h]
    by_cases h2 : 57 < x
    · rw [if_pos h2, if_pos h2]
    · rw [if_neg h2, if_neg h2]
theorem rng_of {x a b : Int32} (ha : 0 ≤ a.toInt) (h : ¬ wi x a b = 0) : ∃ z : Nat, z < 2 ^ 31 ∧ x = nI z ∧ a.toInt ≤ z ∧ (z : Int) ≤ b.toInt := by
  obtain ⟨d1, d2⟩ := wi_1 h
  rw [Int32.lt_iff_toInt_lt] at d1 d2
  have h0 : ¬ x < 0 := by
    rw [Int32.lt_iff_toInt_lt]
    have e0 : (0 : Int32).toInt = 0 := rfl
    omega
  obtain ⟨z, hz, rfl⟩ := nI_of h0
  rw [nI_toInt hz] at d1 d2
  exact ⟨z, hz, rfl, by omega, by omega⟩
theorem dig_of {x : Int32} (h : ¬ wi x 48 57 = 0) : ∃ z : Nat, z ≤ 9 ∧ x = nI (48 + z) := by
  obtain ⟨z, hz, rfl, h1, h2⟩ := rng_of (by decide) h
  have e1 : (48 : Int32).toInt = 48 := by decide
  have e2 : (57 : Int32).toInt = 57 := by decide
  exact ⟨z - 48, by omega, by rw [show 48 + (z - 48) = z by omega]⟩
theorem let_of {x : Int32} (h : ¬ wi x 97 122 = 0) : ∃ z : Nat, 97 ≤ z ∧ z ≤ 122 ∧ x = nI z := by
  obtain ⟨z, hz, rfl, h1, h2⟩ := rng_of (by decide) h
  have e1 : (97 : Int32).toInt = 97 := by decide
  have e2 : (122 : Int32).toInt = 122 := by decide
  exact ⟨z, by omega, by omega, rfl⟩
theorem let_dig {x : Int32} (h : ¬ wi x 97 122 = 0) : wi x 48 57 = 0 := Decidable.byContradiction fun e => by
  obtain ⟨z, h1, h2, rfl⟩ := let_of h
  obtain ⟨y, h3, h4⟩ := dig_of e
  have := (nI_eq (by omega) (by omega)).mp h4
  omega
theorem num_s {f : Nat → Int32} {i m z : Nat} (hz : z ≤ 9) (h : f (i + m) = nI (48 + z)) : numN f i (m + 1) = numN f i m * 10 + z := by
  show numN f i m * 10 + ((f (i + m)).toNatClampNeg - 48) = _
  rw [h, nI_c (by omega)]
  omega
theorem num_lt {f : Nat → Int32} {i : Nat} : ∀ m, (∀ k, i ≤ k → k < i + m → ¬ wi (f k) 48 57 = 0) → numN f i m < 10 ^ m
  | 0, _ => by unfold numN; decide
  | m + 1, h => by
    obtain ⟨z, hz, e⟩ := dig_of (h (i + m) (by omega) (by omega))
    have := num_lt (f := f) (i := i) m (fun k h1 h2 => h k h1 (by omega))
    rw [num_s hz e, Nat.pow_succ]
    omega
/-- the token's code, as the class has it -/
def tkn (f : Nat → Int32) (i e : Nat) : Nat := if ¬ wi (f i) 97 122 = 0 then wcode (wk f i e) else if ¬ wi (f i) 48 57 = 0 then (if e - i ≤ 4 then 512 + numN f i (e - i) else 0) else if sgv (f i) = 0 then 0 else (f i).toNatClampNeg
theorem numberC {i e : Nat} {σ : M2} {fu : Nat} (hi : i ≤ e) (he : e ≤ 160) (h4 : e - i ≤ 4) (hd : ∀ k, i ≤ k → k < e → ¬ wi (σ 37 k) 48 57 = 0) (hfu : 161 < fu) : F8_number fu (nI i) (nI e) σ = some (nI (numN (σ 37) i (e - i)), σ) := by
  unfold F8_number F8_number_5
  refine el2 (R := Int32 × M2) (fun q x3 x4 s => ∃ m, q = e - i - m ∧ m ≤ e - i ∧ x3 = nI (numN (σ 37) i m) ∧ x4 = nI (i + m) ∧ s = σ) (fun r => r = some (nI (numN (σ 37) i (e - i)), σ)) ?_ (e - i) fu 0 (nI i) σ (by omega) ⟨0, rfl, by omega, rfl, rfl, rfl⟩
  intro k5 q x3 x4 s hI
  obtain ⟨m, rfl, hm, rfl, rfl, rfl⟩ := hI
  by_cases hmi : e - i ≤ m
  · left
    obtain rfl : m = e - i := by omega
    rw [if_pos (nI_le (by omega) (by omega))]
  · right
    obtain ⟨z, hz, ez⟩ := dig_of (hd (i + m) (by omega) (by omega))
    rw [if_neg (nI_ge (by omega) (by omega)), fat (N := 160) (by decide) (by omega) (by omega), bnd_s, ez, show (10 : Int32) = nI 10 from rfl, show (48 : Int32) = nI 48 from rfl, pk_mul, nI_add, pk_sub (by omega), nI_1]
    exact ⟨e - i - (m + 1), _, _, _, by omega, ⟨m + 1, rfl, by omega, by rw [num_s hz ez, show numN (s 37) i m * 10 + (48 + z) - 48 = numN (s 37) i m * 10 + z by omega], rfl, rfl⟩, rfl⟩
theorem tokenOfC {i e : Nat} {σ : M2} {fu : Nat} (hi : i < e) (he : e ≤ 160) (hd : ¬ wi (σ 37 i) 48 57 = 0 → ∀ k, i ≤ k → k < e → ¬ wi (σ 37 k) 48 57 = 0) (hfu : 161 < fu) : F8_tokenOf fu (nI i) (nI e) σ = some (nI (tkn (σ 37) i e), σ) := by
  unfold F8_tokenOf tkn
  rw [fat (N := 160) (by decide) (by omega) (by omega), bnd_s, letC, bnd_s]
  by_cases c0 : wi (σ 37 i) 97 122 = 0
  · rw [if_pos c0, if_neg (fun z => z c0), dgtC, bnd_s]
    by_cases c1 : wi (σ 37 i) 48 57 = 0
    · rw [if_pos c1, if_neg (fun z => z c1), signC, bnd_s]
      by_cases c2 : sgv (σ 37 i) = 0
      · rw [if_pos c2, if_pos c2]; rfl
      · rw [if_neg c2, if_neg c2]
        obtain ⟨z, hz, ez⟩ := sgv_1 c2
        rw [ez, nI_c (by unfold sgN at hz; omega)]
    · rw [if_neg c1, if_pos c1, pk_sub (by omega)]
      by_cases c2 : e - i ≤ 4
      · rw [if_pos (show nI (e - i) ≤ (4 : Int32) from nI_le (b := 4) c2 (by omega)), if_pos c2, numberC (by omega) he c2 (hd c1) hfu, bnd_s, show (512 : Int32) = nI 512 from rfl, nI_add]
      · rw [if_neg (show ¬ nI (e - i) ≤ (4 : Int32) from nI_ge (a := 4) (by omega) (by omega)), if_neg c2]; rfl
  · rw [if_neg c0, if_pos c0, wordC (by omega) he hfu, bnd_s]
theorem rn_s {f : Nat → Int32} {a b : Int32} {m i : Nat} : rn f a b (m + 1) i = if wi (f i) a b = 0 then i else rn f a b m (i + 1) := rfl
theorem endOfC {i s : Nat} {σ : M2} {fu : Nat} (hi : i < s) (hs : s ≤ 160) (h3 : σ 36 3 = nI s) (hfu : 161 < fu) : F8_endOf fu (nI i) σ = some (nI (eT (σ 37) s i), σ) := by
  unfold F8_endOf eT
  rw [fat (N := 160) (by decide) (by omega) (by omega), bnd_s, letC, bnd_s, fat (N := 160) (by decide) (by omega) (by omega), bnd_s, dgtC, bnd_s, nI_1]
  unfold F8_endOf_33 F8_endOf_61 F8_endOf_80
  by_cases c0 : wi (σ 37 i) 97 122 = 0
  · rw [if_neg (fun z => z c0)]
    by_cases c1 : wi (σ 37 i) 48 57 = 0
    · rw [if_neg (fun z => z c1)]
      refine el2 (R := Int32 × M2) (fun q x4 x5 t => x4 = nI (i + 1) ∧ x5 = nI (i + 1) ∧ t = σ) (fun r => r = some (nI (i + 1), σ)) ?_ 0 fu _ _ σ (by omega) ⟨rfl, rfl, rfl⟩
      intro k33 q x4 x5 t hI
      obtain ⟨rfl, rfl, rfl⟩ := hI
      left
      rw [if_pos c0, if_pos c1]
      by_cases c2 : t 36 3 ≤ nI (i + 1)
      · rw [if_pos c2]
      · rw [if_neg c2]
    · rw [if_pos c1]
      refine el2 (R := Int32 × M2) (fun q x4 x5 t => ∃ k, q = s - k ∧ i + 1 ≤ k ∧ k ≤ s ∧ x4 = nI k ∧ x5 = nI k ∧ t = σ ∧ rn (σ 37) 48 57 (s - k) k = rn (σ 37) 48 57 (s - (i + 1)) (i + 1)) (fun r => r = some (nI (rn (σ 37) 48 57 (s - (i + 1)) (i + 1)), σ)) ?_ (s - (i + 1)) fu _ _ σ (by omega) ⟨i + 1, rfl, Nat.le_refl _, by omega, rfl, rfl, rfl, rfl⟩
      intro k33 q x4 x5 t hI
      obtain ⟨k, rfl, hk1, hk2, rfl, rfl, rfl, hr⟩ := hI
      rw [h3]
      by_cases hks : s ≤ k
      · left
        rw [if_pos (nI_le hks (by omega))]
        rw [show s - k = 0 by omega] at hr
        rw [← hr]; rfl
      · rw [show s - k = (s - (k + 1)) + 1 by omega, rn_s] at hr
        rw [if_neg (nI_ge (by omega) (by omega)), if_pos c0, if_neg c1, fat (N := 160) (by decide) (by omega) (by omega), bnd_s, dgtC, bnd_s]
        by_cases c2 : wi (t 37 k) 48 57 = 0
        · left
          rw [if_pos c2] at hr
          rw [if_pos c2, hr]
        · right
          rw [if_neg c2] at hr
          rw [if_neg c2]
          exact ⟨s - (k + 1), _, _, _, by omega, ⟨k + 1, rfl, by omega, by omega, by rw [nI_1], by rw [nI_1], rfl, hr⟩, rfl⟩
  · rw [if_pos c0]
    have c1 := let_dig c0
    refine el2 (R := Int32 × M2) (fun q x4 x5 t => ∃ k, q = s - k ∧ i + 1 ≤ k ∧ k ≤ s ∧ x4 = nI k ∧ x5 = nI k ∧ t = σ ∧ rn (σ 37) 97 122 (s - k) k = rn (σ 37) 97 122 (s - (i + 1)) (i + 1)) (fun r => r = some (nI (rn (σ 37) 97 122 (s - (i + 1)) (i + 1)), σ)) ?_ (s - (i + 1)) fu _ _ σ (by omega) ⟨i + 1, rfl, Nat.le_refl _, by omega, rfl, rfl, rfl, rfl⟩
    intro k33 q x4 x5 t hI
    obtain ⟨k, rfl, hk1, hk2, rfl, rfl, rfl, hr⟩ := hI
    rw [h3]
    by_cases hks : s ≤ k
    · left
      rw [if_pos (nI_le hks (by omega))]
      rw [show s - k = 0 by omega] at hr
      rw [← hr]; rfl
    · rw [show s - k = (s - (k + 1)) + 1 by omega, rn_s] at hr
      rw [if_neg (nI_ge (by omega) (by omega)), if_neg c0, fat (N := 160) (by decide) (by omega) (by omega), bnd_s, letC, bnd_s]
      by_cases c2 : wi (t 37 k) 97 122 = 0
      · left
        rw [if_pos c2] at hr
        rw [if_pos c2, if_pos c1, hr]
      · right
        rw [if_neg c2] at hr
        rw [if_neg c2]
        exact ⟨s - (k + 1), _, _, _, by omega, ⟨k + 1, rfl, by omega, by omega, by rw [nI_1], by rw [nI_1], rfl, hr⟩, rfl⟩
theorem eT_dig {f : Nat → Int32} {s i : Nat} (h : ¬ wi (f i) 48 57 = 0) : ∀ k, i ≤ k → k < eT f s i → ¬ wi (f k) 48 57 = 0 := fun k h1 h2 => by
  unfold eT at h2
  have c0 : wi (f i) 97 122 = 0 := Decidable.byContradiction fun e => h (let_dig e)
  rw [if_neg (fun z => z c0), if_pos h] at h2
  by_cases hk : k = i
  · rw [hk]; exact h
  · exact rn_in _ _ k (by omega) h2
theorem eT_let {f : Nat → Int32} {s i : Nat} (h : ¬ wi (f i) 97 122 = 0) : ∀ k, i ≤ k → k < eT f s i → ¬ wi (f k) 97 122 = 0 := fun k h1 h2 => by
  unfold eT at h2
  rw [if_pos h] at h2
  by_cases hk : k = i
  · rw [hk]; exact h
  · exact rn_in _ _ k (by omega) h2
/-! the stream -/
def An (f : Nat → Int32) (s : Nat) : Nat → Nat
  | 0 => 0
  | j + 1 => if sk f (s - An f s j) (An f s j) < s then eT f s (sk f (s - An f s j) (An f s j)) else s
def Pn (f : Nat → Int32) (s j : Nat) : Nat := sk f (s - An f s j) (An f s j)
def Tn (f : Nat → Int32) (s j : Nat) : Nat := if Pn f s j < s then tkn f (Pn f s j) (eT f s (Pn f s j)) else 1
theorem An_1 {f : Nat → Int32} {s j : Nat} (h : Pn f s j < s) : An f s (j + 1) = eT f s (Pn f s j) := if_pos h
theorem An_2 {f : Nat → Int32} {s j : Nat} (h : ¬ Pn f s j < s) : An f s (j + 1) = s := if_neg h
theorem An_le {f : Nat → Int32} {s : Nat} : ∀ j, An f s j ≤ s
  | 0 => Nat.zero_le _
  | j + 1 => by
    by_cases h : Pn f s j < s
    · rw [An_1 h]; exact (eT_le h).2
    · rw [An_2 h]; exact Nat.le_refl _
theorem Pn_le {f : Nat → Int32} {s j : Nat} : An f s j ≤ Pn f s j ∧ Pn f s j ≤ s := by
  have h1 := sk_le (f := f) (s - An f s j) (An f s j)
  have h2 := An_le (f := f) (s := s) j
  unfold Pn
  omega
theorem Pn_end {f : Nat → Int32} {s j : Nat} (h : Pn f s j = s) : Pn f s (j + 1) = s := by
  have h1 : An f s (j + 1) = s := An_2 (by omega)
  have h2 := Pn_le (f := f) (s := s) (j := j + 1)
  omega
theorem Pn_stay {f : Nat → Int32} {s M : Nat} (h : Pn f s M = s) : ∀ d, Pn f s (M + d) = s
  | 0 => h
  | d + 1 => Pn_end (Pn_stay h d)
def TokC (f : Nat → Int32) (s M : Nat) (σ : M2) : Prop := M ≤ s ∧ Pn f s M = s ∧ σ 36 4 = nI M ∧ ∀ j, j < M → Pn f s j < s ∧ σ 38 j = nI (Tn f s j) ∧ σ 39 j = nI (Pn f s j)
theorem TokC.tn {f : Nat → Int32} {s M j : Nat} {σ : M2} (h : TokC f s M σ) (hj : M ≤ j) : Tn f s j = 1 ∧ Pn f s j = s := by
  have := Pn_stay h.2.1 (j - M)
  rw [show M + (j - M) = j by omega] at this
  unfold Tn
  rw [if_neg (by omega)]
  exact ⟨rfl, this⟩
theorem tokenC {f : Nat → Int32} {s M j : Nat} {σ : M2} (h : TokC f s M σ) (hs : s ≤ 160) (hj : j < 2 ^ 31) : F8_token (nI j) σ = some (nI (Tn f s j), σ) := by
  unfold F8_token
  rw [if_neg (nI_pos hj), h.2.2.1]
  by_cases c : M ≤ j
  · rw [if_pos (nI_le c hj), (h.tn c).1]; rfl
  · have hM := h.1
    rw [if_neg (nI_ge (by omega) (by omega)), if_neg (show ¬ (160 : Int32) ≤ nI j from nI_ge (b := 160) (by omega) (by omega)), gd_t (inb_t (N := 160) (by omega) (by omega)), nI_c hj, (h.2.2.2 j (by omega)).2.1]
theorem placeC {f : Nat → Int32} {s M j : Nat} {σ : M2} (h : TokC f s M σ) (h3 : σ 36 3 = nI s) (hs : s ≤ 160) (hj : j < 2 ^ 31) : F8_place (nI j) σ = some (nI (Pn f s j), σ) := by
  unfold F8_place F8_place_30
  rw [if_neg (nI_pos hj), h.2.2.1, h3]
  by_cases c : M ≤ j
  · rw [if_pos (nI_le c hj), (h.tn c).2]
  · have hM := h.1
    rw [if_neg (nI_ge (by omega) (by omega)), if_neg (show ¬ (160 : Int32) ≤ nI j from nI_ge (b := 160) (by omega) (by omega)), gd_t (inb_t (N := 160) (by omega) (by omega)), nI_c hj, (h.2.2.2 j (by omega)).2.2]
def cC (o k : Nat) : Prop := o = 38 ∨ o = 39 ∨ (o = 36 ∧ k = 4)
theorem cutC {s : Nat} {σ0 : M2} {fu : Nat} (hs : s ≤ 160) (h3 : σ0 36 3 = nI s) (hfu : 161 < fu) : ∃ σ' M, F8_cut fu σ0 = some ((), σ') ∧ TokC (σ0 37) s M σ' ∧ Fr cC σ0 σ' := by
  have key : ∃ p, F8_cut fu σ0 = some p ∧ ∃ M, TokC (σ0 37) s M (p : Unit × M2).2 ∧ Fr cC σ0 p.2 := by
    unfold F8_cut F8_cut_9 F8_cut_53
    refine sl2 (R := Unit × M2) (fun q x1 x2 t => ∃ i M, q = s - i ∧ i ≤ s ∧ M ≤ i ∧ x1 = nI (An (σ0 37) s M) ∧ x2 = nI i ∧ i ≤ Pn (σ0 37) s M ∧ t 36 4 = nI M ∧ (∀ j, j < M → Pn (σ0 37) s j < s ∧ t 38 j = nI (Tn (σ0 37) s j) ∧ t 39 j = nI (Pn (σ0 37) s j)) ∧ Fr cC σ0 t) (fun p => ∃ M, TokC (σ0 37) s M p.2 ∧ Fr cC σ0 p.2) ?_ s fu 0 0 _ (by omega) ⟨0, 0, rfl, by omega, by omega, rfl, rfl, by omega, up_eq, fun j hj => by omega, Fr.rf.up (Or.inr (Or.inr ⟨rfl, rfl⟩))⟩
    intro k9 q x1 x2 t hI
    obtain ⟨i, M, rfl, hi, hM, rfl, rfl, hP, h4, hT, hf⟩ := hI
    have e3 : t 36 3 = nI s := by rw [hf 36 3 (by unfold cC; omega)]; exact h3
    have e37 : t 37 = σ0 37 := funext fun k => hf 37 k (by unfold cC; omega)
    have hA := An_le (f := σ0 37) (s := s) M
    have hPle := Pn_le (f := σ0 37) (s := s) (j := M)
    rw [e3]
    by_cases his : s ≤ i
    · left
      rw [if_pos (nI_le his (by omega))]
      exact ⟨_, rfl, M, ⟨by omega, by omega, h4, hT⟩, hf⟩
    · right
      rw [if_neg (nI_ge (by omega) (by omega))]
      by_cases hiA : i < An (σ0 37) s M
      · rw [if_pos (nI_lt hiA (by omega))]
        exact ⟨s - (i + 1), _, _, _, by omega, ⟨i + 1, M, rfl, by omega, by omega, rfl, by rw [nI_1], by omega, h4, hT, hf⟩, rfl⟩
      · rw [if_neg (nI_nlt (by omega) (by omega)), fat (N := 160) (by decide) (by omega) (by omega), bnd_s, e37]
        unfold F8_isBlank
        by_cases hb : blk (σ0 37 i)
        · have hne : Pn (σ0 37) s M ≠ i := fun e => by
            have h1 := sk_out (f := σ0 37) (s - An (σ0 37) s M) (An (σ0 37) s M) (by show Pn (σ0 37) s M < _; omega)
            exact h1 (by show blk (σ0 37 (Pn (σ0 37) s M)); rw [e]; exact hb)
          have hgo : ∃ m x0 x1 s_1, m < s - i ∧ (∃ i M, m = s - i ∧ i ≤ s ∧ M ≤ i ∧ x0 = nI (An (σ0 37) s M) ∧ x1 = nI i ∧ i ≤ Pn (σ0 37) s M ∧ s_1 36 4 = nI M ∧ (∀ j, j < M → Pn (σ0 37) s j < s ∧ s_1 38 j = nI (Tn (σ0 37) s j) ∧ s_1 39 j = nI (Pn (σ0 37) s j)) ∧ Fr cC σ0 s_1) ∧ k9 (nI (An (σ0 37) s M)) (nI i + 1) t = k9 x0 x1 s_1 :=
            ⟨s - (i + 1), _, _, _, by omega, ⟨i + 1, M, rfl, by omega, by omega, rfl, by rw [nI_1], by omega, h4, hT, hf⟩, rfl⟩
          by_cases b1 : σ0 37 i = 32
          · rw [if_pos b1, bnd_s, if_neg (by decide)]; exact hgo
          · have b2 : σ0 37 i = 10 := hb.resolve_left b1
            rw [if_neg b1, if_pos b2, bnd_s, if_neg (by decide)]; exact hgo
        · have hPi : Pn (σ0 37) s M = i := by
            rcases Nat.lt_or_ge i (Pn (σ0 37) s M) with z | z
            · exact absurd (sk_in (f := σ0 37) (s - An (σ0 37) s M) (An (σ0 37) s M) i (by omega) z) hb
            · omega
          obtain ⟨g1, g2⟩ := eT_le (f := σ0 37) (s := s) (i := i) (by omega)
          have eA : An (σ0 37) s (M + 1) = eT (σ0 37) s i := by rw [An_1 (by omega), hPi]
          have eT1 : Tn (σ0 37) s M = tkn (σ0 37) i (eT (σ0 37) s i) := by unfold Tn; rw [if_pos (by omega), hPi]
          have he := endOfC (i := i) (σ := t) (fu := fu) (by omega) hs e3 hfu
          have hk := tokenOfC (i := i) (e := eT (σ0 37) s i) (σ := t) (fu := fu) g1 (by omega) (by rw [e37]; exact fun z => eT_dig z) hfu
          rw [e37] at he hk
          have hPA := Pn_le (f := σ0 37) (s := s) (j := M + 1)
          rw [if_neg (fun e => hb (Or.inl e)), if_neg (fun e => hb (Or.inr e)), bnd_s, if_pos rfl, he, bnd_s, hk, bnd_s]
          unfold F8_keep
          rw [h4, fset (N := 160) (by decide) (by omega) (by omega), bnd_s, up_ne (by omega), h4, fset (N := 160) (by decide) (by omega) (by omega), bnd_s, bnd_s]
          refine ⟨s - (i + 1), _, _, _, by omega, ⟨i + 1, M + 1, rfl, by omega, by omega, by rw [eA], by rw [nI_1], by omega, ?_, fun j hj => ?_, ((hf.up (Or.inr (Or.inl rfl))).up (Or.inl rfl)).up (Or.inr (Or.inr ⟨rfl, rfl⟩))⟩, rfl⟩
          · rw [up_eq, up_ne (by omega), up_ne (by omega), h4, nI_1]
          · by_cases hjM : j = M
            · rw [hjM, up_ne (by omega), up_eq, up_ne (by omega), up_ne (by omega), up_eq, eT1, hPi]
              exact ⟨by omega, rfl, rfl⟩
            · rw [up_ne (by omega), up_ne (by omega), up_ne (by omega), up_ne (by omega), up_ne (by omega), up_ne (by omega)]
              exact hT j (by omega)
  obtain ⟨⟨⟨⟩, σ'⟩, k1, M, k2, k3⟩ := key
  exact ⟨σ', M, k1, k2, k3⟩
end
