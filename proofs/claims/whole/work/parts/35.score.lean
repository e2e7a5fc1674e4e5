/-! how well one does: scoreOf() on both sides -/
theorem min99 {told y : Int32} (h1 : 0 ≤ told.toInt) (h2 : told.toInt ≤ 99) (h3 : 0 ≤ y.toInt) (h4 : y.toInt ≤ 99) {τ : M2} : F12_within (told + y) 0 99 τ = some (if told + y < 99 then told + y else 99, τ) := by
  have h99 : (99 : Int32).toInt = 99 := rfl
  have hs : (told + y).toInt = told.toInt + y.toInt := by
    rw [Int32.toInt_add]
    exact Int.bmod_eq_of_le (by omega) (by omega)
  unfold F12_within
  rw [if_pos (by rw [Int32.le_iff_toInt_le, hs]; show (0 : Int) ≤ _; omega)]
  by_cases h : told + y < 99
  · rw [if_pos h, if_pos (by rw [Int32.lt_iff_toInt_lt] at h; rw [Int32.le_iff_toInt_le]; omega)]
  · rw [if_neg h]
    by_cases h5 : told + y ≤ 99
    · rw [if_pos h5]
      have : told + y = 99 := by
        apply Int32.toInt_inj.mp
        rw [Int32.lt_iff_toInt_lt] at h
        rw [Int32.le_iff_toInt_le] at h5
        omega
      rw [this]
    · rw [if_neg h5]
theorem in99_b {x : Int32} (h : in99 x) : 0 ≤ x.toInt ∧ x.toInt ≤ 99 := by
  obtain ⟨z, hz, rfl⟩ := h
  rw [nI_toInt (by omega)]
  omega
theorem score_rel {n r w c k : Nat} {σ τ : M2} {fu fu' : Nat} (h : RD n r w σ τ) (hc : c < n) (hk : k < r) (hfu : 161 < fu) (hfu' : 161 < fu') :
    ∃ told s σ' τ', F2_says fu (0 : Int32) (nI c) (nI k) (τ 18 c) σ = some (told, σ') ∧ F2_scoreOf (nI c) (nI k) told σ' = some (s, σ') ∧ F12_scoreOf fu' (nI c) (nI k) τ = some (s, τ') ∧ Fr sC σ σ' ∧ Fr sM τ τ' := by
  obtain ⟨told, σ', τ', v1, v2, v3, v4, v5, v6⟩ := says_rel (p := 0) (wins := τ 18 c) h (by omega) hc (Or.inr ⟨k, hk, rfl⟩) hfu hfu'
  have h' : RD n r w σ' τ' := h.fr (v3.mono fun _ _ => sC_dC) (v4.mono fun _ _ => sM_dM)
  obtain ⟨h1, h2, h3, h4, h5, h6, h7, h8, h9, h10, h11, h12⟩ := id h'
  obtain ⟨k1, k2, k3, k4, k5, k6⟩ := h8 c hc
  obtain ⟨q1, q2, q3, q4, ⟨z6, hz6, q6⟩, ⟨z7, hz7, q7⟩, -, -⟩ := h9 k hk
  have hm1 : τ 1 (3 * c) = τ' 1 (3 * c) := (v4 1 _ (by unfold sM; omega)).symm
  have hm2 : τ 1 (3 * c + 1) = τ' 1 (3 * c + 1) := (v4 1 _ (by unfold sM; omega)).symm
  have hm3 : τ 3 k = τ' 3 k := (v4 3 _ (by unfold sM; omega)).symm
  have hy := in99_b k6
  have hcl : (clo 0).toInt = 0 := rfl
  rw [hcl] at v5
  refine ⟨told, if σ' 6 k = 1 then ((σ' 2 c / 2) + σ' 3 c) + (if told + σ' 4 c < 99 then told + σ' 4 c else 99) else if σ' 6 k = 2 then (σ' 3 c + σ' 7 k) + (if told + σ' 4 c < 99 then told + σ' 4 c else 99) else if σ' 6 k = 3 then (99 - ((σ' 2 c / 2) + σ' 3 c)) + (((if told + σ' 4 c < 99 then told + σ' 4 c else 99) * σ' 7 k) / 2) else if σ' 6 k = 4 then ((σ' 3 c + σ' 7 k) - σ' 2 c) - (if told + σ' 4 c < 99 then told + σ' 4 c else 99) else if σ' 6 k = 5 then ((((7 * σ' 2 c) + (3 * σ' 3 c)) + σ' 7 k) - (((7 * σ' 2 c) + (3 * σ' 3 c)) + σ' 7 k) / 31 * 31) + (if told + σ' 4 c < 99 then told + σ' 4 c else 99) else σ' 2 c + (if told + σ' 4 c < 99 then told + σ' 4 c else 99), σ', τ', v1, ?_, ?_, v3, v4⟩
  · unfold F2_scoreOf
    rw [fat (N := 6) (by decide) (by omega) (by omega), bnd_s, fat (N := 6) (by decide) (by omega) (by omega), bnd_s, fat (N := 8) (by decide) (by omega) (by omega), bnd_s, fat (N := 8) (by decide) (by omega) (by omega), bnd_s, fat (N := 8) (by decide) (by omega) (by omega), bnd_s]
    generalize (if told + σ' 4 c < 99 then told + σ' 4 c else 99) = y
    unfold F3_doesIn F3_yardsCountIn F3_inSack
    rcases (show z6 = 0 ∨ z6 = 1 ∨ z6 = 2 ∨ z6 = 3 ∨ z6 = 4 ∨ z6 = 5 by omega) with rfl | rfl | rfl | rfl | rfl | rfl
    · rw [show nI 0 = (0 : Int32) from rfl] at q6; rw [q6]; simp [bnd]
    · rw [show nI 1 = (1 : Int32) from rfl] at q6; rw [q6]; simp [bnd]
    · rw [show nI 2 = (2 : Int32) from rfl] at q6; rw [q6]; simp [bnd]
    · rw [show nI 3 = (3 : Int32) from rfl] at q6; rw [q6]; simp [bnd]
    · rw [show nI 4 = (4 : Int32) from rfl] at q6; rw [q6]; simp [bnd, Int32.sub_eq_add_neg]
    · rw [show nI 5 = (5 : Int32) from rfl] at q6; rw [q6]; simp [bnd]
  · unfold F12_scoreOf
    rw [ix3, nI_1, ixp2, gd_t (inb_t (N := 24) (by omega) (by omega)), gd_t (inb_t (N := 24) (by omega) (by omega)), gd_t (inb_t (N := 6) (by omega) (by omega)), gd_t (inb_t (N := 8) (by omega) (by omega)), nI_c (by omega)]
    rw [show (0 : Int32) = nI 0 from rfl, v2, bnd_s, gd_t (inb_t (N := 24) (by omega) (by omega)), nI_c (by omega), nI_c (by omega), nI_c (by omega), nI_c (by omega), ← k3]
    rw [show nI 0 = (0 : Int32) from rfl, min99 v5 v6 hy.1 hy.2, bnd_s, hm1, hm2, hm3, ← k1, ← k2, ← q1, ← q2]
    generalize (if told + σ' 4 c < 99 then told + σ' 4 c else 99) = y
    rcases (show z6 = 0 ∨ z6 = 1 ∨ z6 = 2 ∨ z6 = 3 ∨ z6 = 4 ∨ z6 = 5 by omega) with rfl | rfl | rfl | rfl | rfl | rfl
    · rw [show nI 0 = (0 : Int32) from rfl] at q6; rw [q6]; simp
    · rw [show nI 1 = (1 : Int32) from rfl] at q6; rw [q6]; simp
    · rw [show nI 2 = (2 : Int32) from rfl] at q6; rw [q6]; simp
    · rw [show nI 3 = (3 : Int32) from rfl] at q6; rw [q6]; simp
    · rw [show nI 4 = (4 : Int32) from rfl] at q6; rw [q6]; simp
    · rw [show nI 5 = (5 : Int32) from rfl] at q6; rw [q6]; simp
