/-! a race's ribbons on both sides -/
theorem isOne2 {z : Nat} {σ : M2} {fu : Nat} (hz : z ≤ 5) (hfu : 9 < fu) : F3_isOne fu (nI z) 2 σ = some (if z = 2 ∨ z = 4 then 1 else 0, σ) := by
  obtain ⟨q, rfl⟩ : ∃ q, fu = q + 9 := ⟨fu - 9, by omega⟩
  rcases (show z = 0 ∨ z = 1 ∨ z = 2 ∨ z = 3 ∨ z = 4 ∨ z = 5 by omega) with rfl | rfl | rfl | rfl | rfl | rfl <;> rfl
def ribR (z m b : Nat) : Nat := if z = 2 ∨ z = 4 then (if m < 3 then 1 else b) else if z = 5 then m / 2 else b
def ribG (z m b : Nat) : Nat := if ribR z m b < m then ribR z m b else m
theorem ribG_le (z m b : Nat) : ribG z m b ≤ m := by
  unfold ribG
  by_cases h : ribR z m b < m
  · rw [if_pos h]; omega
  · rw [if_neg h]; exact Nat.le_refl _
theorem ribR_lt {z m b : Nat} (hm : m ≤ 8) (hb : b ≤ 3) : ribR z m b < 100 := by
  unfold ribR
  by_cases h : z = 2 ∨ z = 4
  · rw [if_pos h]
    by_cases h2 : m < 3
    · rw [if_pos h2]; omega
    · rw [if_neg h2]; omega
  · rw [if_neg h]
    by_cases h2 : z = 5
    · rw [if_pos h2]; omega
    · rw [if_neg h2]; omega
theorem nI_eqI {a b : Nat} (ha : a < 2 ^ 31) (hb : b < 2 ^ 31) (h : a ≠ b) : ¬ nI a = nI b := fun e => h ((nI_eq ha hb).mp e)
theorem half_nI {m : Nat} (hm : m < 2 ^ 31) : nI m / (2 : Int32) = nI (m / 2) := pk_div (d := 2) hm (by omega) (by omega)
theorem ribbonsIn_eq {z m b : Nat} {σ : M2} {fu : Nat} (hz : z ≤ 5) (hm : m ≤ 8) (hb : b ≤ 3) (hfu : 9 < fu) : F3_ribbonsIn fu (nI z) (nI b) (nI m) σ = some (nI (ribR z m b), σ) := by
  have h3 : ∀ x y : Option (Int32 × M2), (if (3 : Int32) ≤ nI m then x else y) = if m < 3 then y else x := by
    intro x y
    by_cases h : m < 3
    · rw [if_pos h]
      exact if_neg (nI_ge (b := 3) h (by omega))
    · rw [if_neg h]
      exact if_pos (nI_le (a := 3) (by omega) (by omega))
  unfold F3_ribbonsIn F3_ribbonsIn_15
  rw [isOne2 hz hfu, bnd_s, h3, half_nI (by omega)]
  unfold ribR
  rcases (show z = 0 ∨ z = 1 ∨ z = 2 ∨ z = 3 ∨ z = 4 ∨ z = 5 by omega) with rfl | rfl | rfl | rfl | rfl | rfl
  · simp [show ¬ nI 0 = 5 from by decide]
  · simp [show ¬ nI 1 = 5 from by decide]
  · by_cases h : m < 3 <;> simp [h, show ¬ nI 2 = 5 from by decide]
    rfl
  · simp [show ¬ nI 3 = 5 from by decide]
  · by_cases h : m < 3 <;> simp [h, show ¬ nI 4 = 5 from by decide]
    rfl
  · simp [show nI 5 = 5 from rfl]
theorem forMany_eq {z m b k : Nat} {τ : M2} {fu : Nat} (hk : k < 6) (hz : z ≤ 5) (hm : m ≤ 8) (hb : b ≤ 3) (hfu : 9 < fu) (h1 : onesV (τ 4 (2 * k)) = nI m) (h2 : τ 4 (2 * k + 1) = nI b) (h3 : τ 2 k = nI z) : F12_forMany fu (nI k) τ = some (nI (ribG z m b), τ) := by
  have hR := ribR_lt (z := z) hm hb
  have h81 : F12_forMany_81 fu (nI m) (nI (ribR z m b)) τ = some (nI (ribG z m b), τ) := by
    unfold F12_forMany_81 ribG
    by_cases h : ribR z m b < m
    · rw [if_pos h, if_pos (nI_le (by omega) (by omega))]
    · rw [if_neg h]
      by_cases h' : ribR z m b = m
      · rw [h', if_pos (nI_le (Nat.le_refl _) (by omega))]
      · rw [if_neg (nI_ge (by omega) (by omega))]
  unfold F12_forMany
  rw [ix2, nI_1, gd_t (inb_t (N := 12) (by omega) (by omega)), nI_c (by omega), ones_eq (by omega), bnd_s, gd_t (inb_t (N := 12) (by omega) (by omega)), gd_t (inb_t (N := 6) (by omega) (by omega)), nI_c (by omega), nI_c (by omega), h1, h2, h3, half_nI (by omega)]
  have h60 : (z = 2 ∨ z = 4) → F12_forMany_60 fu (nI m) (nI b) τ = some (nI (ribG z m b), τ) := by
    intro hz2
    unfold F12_forMany_60 F12_forMany_70
    rw [← h81]
    unfold ribR
    rw [if_pos hz2]
    by_cases h : m < 3
    · rw [if_pos h]
      exact if_neg (nI_ge (b := 3) h (by omega))
    · rw [if_neg h]
      exact if_pos (nI_le (a := 3) (by omega) (by omega))
  have hb' : ¬ (z = 2 ∨ z = 4) → ¬ z = 5 → ribR z m b = b := fun q1 q2 => by unfold ribR; rw [if_neg q1, if_neg q2]
  rcases (show z = 0 ∨ z = 1 ∨ z = 2 ∨ z = 3 ∨ z = 4 ∨ z = 5 by omega) with rfl | rfl | rfl | rfl | rfl | rfl
  · rw [if_neg (by decide), if_neg (by decide), if_neg (by decide), if_neg (by decide), ← h81, hb' (by omega) (by omega)]
  · rw [if_neg (by decide), if_neg (by decide), if_neg (by decide), if_neg (by decide), ← h81, hb' (by omega) (by omega)]
  · rw [if_pos (by decide)]; exact h60 (by omega)
  · rw [if_neg (by decide), if_pos (by decide), ← h81, hb' (by omega) (by omega)]
  · rw [if_neg (by decide), if_neg (by decide), if_pos (by decide)]; exact h60 (by omega)
  · rw [if_neg (by decide), if_neg (by decide), if_neg (by decide), if_pos (by decide), ← h81]
    rfl
def gC (o k : Nat) : Prop := lC o k ∨ o = 42 ∨ o = 44 ∨ (o = 41 ∧ (k = 8 ∨ k = 9))
def gM (o k : Nat) : Prop := lM o k ∨ o = 18 ∨ o = 21 ∨ (o = 0 ∧ (k = 34 ∨ k = 36))
theorem gC_dC {o k : Nat} (h : gC o k) : dC o k := by
  rcases h with h | h
  · exact lC_dC h
  · exact Or.inl (by omega)
theorem gM_dM {o k : Nat} (h : gM o k) : dM o k := by
  rcases h with h | h
  · exact lM_dM h
  · rcases h with h | h | h
    · exact Or.inl (by omega)
    · exact Or.inl (by omega)
    · exact Or.inr (by omega)
def wb (x : Int32) : Prop := ∃ z : Nat, z < 256 ∧ x = nI z
theorem or_bit : ∀ z, z < 256 → ∀ c, c < 8 → ∃ y, y < 256 ∧ nI z ||| ((1 : Int32) <<< (nI c &&& 31)) = nI y := by
  have key : ∀ z, z < 256 → ∀ c, c < 8 → (z ||| (1 <<< c)) < 256 ∧ nI z ||| ((1 : Int32) <<< (nI c &&& 31)) = nI (z ||| (1 <<< c)) := by decide +kernel
  intro z hz c hc
  exact ⟨_, (key z hz c hc).1, (key z hz c hc).2⟩
/-- the day as it goes, on both sides -/
def DS (σ τ : M2) : Prop := (∀ q, q < 8 → σ 42 q = τ 18 q) ∧ σ 41 8 = τ 0 34 ∧ σ 41 9 = τ 0 36
theorem give_rel {n r w k m : Nat} {σ0 τ0 : M2} {fu fu' G : Nat} (h : RD n r w σ0 τ0) (hk : k < r) (hL : Line m n σ0 τ0) (hG : G ≤ m) (hD : DS σ0 τ0) (h21 : τ0 21 k = 0) (hfu : 161 < fu) (hfu' : 161 < fu') :
    ∃ σ' τ', F2_giveRibbons_37 fu (nI k) (nI G) 0 0 σ0 = some ((), σ') ∧ F12_raceOf_20 fu' (nI k) (nI G) 0 τ0 = some ((), τ') ∧ DS σ' τ' ∧ (σ' 44 k = τ' 21 k ∧ wb (σ' 44 k)) ∧ (∀ j, j ≠ k → σ' 44 j = σ0 44 j ∧ τ' 21 j = τ0 21 j) ∧ Fr gC σ0 σ' ∧ Fr gM τ0 τ' := by
  have hn8 : n ≤ 8 := h.1
  have hr6 : r ≤ 6 := h.2.1
  obtain ⟨hmn, hL⟩ := hL
  unfold F2_giveRibbons_37 F12_raceOf_20
  have key := pl21 (R := Unit × M2) (R' := Unit × M2) (fun q x4 x5 σ x3 τ => ∃ i, q = G - i ∧ i ≤ G ∧ x5 = nI i ∧ x3 = nI i ∧ (x4 = τ 21 k ∧ wb x4) ∧ DS σ τ ∧ (∀ j, σ 44 j = σ0 44 j) ∧ (∀ j, j ≠ k → τ 21 j = τ0 21 j) ∧ (∀ j, σ 43 j = σ0 43 j) ∧ (∀ j, τ 20 j = τ0 20 j) ∧ Fr gC σ0 σ ∧ Fr gM τ0 τ)
    (fun r r' => DS r.2 r'.2 ∧ (r.2 44 k = r'.2 21 k ∧ wb (r.2 44 k)) ∧ (∀ j, j ≠ k → r.2 44 j = σ0 44 j ∧ r'.2 21 j = τ0 21 j) ∧ Fr gC σ0 r.2 ∧ Fr gM τ0 r'.2) (b := fun (k37 : Int32 → Int32 → M2 → Option (Unit × M2)) (x4 : Int32) (x5 : Int32) (σ : M2) => if nI G ≤ x5 then bnd (F11_set 44 (nI k) x4 σ) (fun r2 s3 => some ((), s3)) else bnd (F11_at 43 x5 σ) (fun r5 s6 => bnd (F11_at 42 r5 s6) (fun r8 s9 => bnd (F2_says fu (1 : Int32) r5 (nI k) r8 s9) (fun r11 s12 => bnd (F11_set 42 r5 (r8 + (1 : Int32)) (up s12 41 8 ((s9 41 8) + r11))) (fun r14 s15 => k37 (x4 ||| ((1 : Int32) <<< (r5 &&& 31))) (x5 + 1) (up s15 41 9 ((s15 41 9) + (1 : Int32))))))))
    (b' := fun (k20 : Int32 → M2 → Option (Unit × M2)) (x3 : Int32) (σ : M2) => if nI G ≤ x3 then some ((), σ) else gd (inb x3 8) (gd (inb (σ 20 x3.toNatClampNeg) 8) (bnd (F12_asksOf fu' (1 : Int32) (σ 20 x3.toNatClampNeg) (nI k) (σ 18 (σ 20 x3.toNatClampNeg).toNatClampNeg) σ) (fun r4 s5 => gd (inb (nI k) 6) (k20 (x3 + 1) (up (up (up (up s5 0 34 ((σ 0 34) + r4)) 18 (σ 20 x3.toNatClampNeg).toNatClampNeg (((up s5 0 34 ((σ 0 34) + r4)) 18 (σ 20 x3.toNatClampNeg).toNatClampNeg) + (1 : Int32))) 21 (nI k).toNatClampNeg (((up (up s5 0 34 ((σ 0 34) + r4)) 18 (σ 20 x3.toNatClampNeg).toNatClampNeg (((up s5 0 34 ((σ 0 34) + r4)) 18 (σ 20 x3.toNatClampNeg).toNatClampNeg) + (1 : Int32))) 21 (nI k).toNatClampNeg) ||| ((1 : Int32) <<< ((σ 20 x3.toNatClampNeg) &&& 31)))) 0 36 (((up (up (up s5 0 34 ((σ 0 34) + r4)) 18 (σ 20 x3.toNatClampNeg).toNatClampNeg (((up s5 0 34 ((σ 0 34) + r4)) 18 (σ 20 x3.toNatClampNeg).toNatClampNeg) + (1 : Int32))) 21 (nI k).toNatClampNeg (((up (up s5 0 34 ((σ 0 34) + r4)) 18 (σ 20 x3.toNatClampNeg).toNatClampNeg (((up s5 0 34 ((σ 0 34) + r4)) 18 (σ 20 x3.toNatClampNeg).toNatClampNeg) + (1 : Int32))) 21 (nI k).toNatClampNeg) ||| ((1 : Int32) <<< ((σ 20 x3.toNatClampNeg) &&& 31)))) 0 36) + (1 : Int32)))))))) ?_ G fu fu' 0 0 σ0 0 τ0 (by omega) (by omega) ⟨0, rfl, by omega, rfl, rfl, ⟨h21.symm, 0, by omega, rfl⟩, hD, fun _ => rfl, fun _ _ => rfl, fun _ => rfl, fun _ => rfl, Fr.rf, Fr.rf⟩
  · obtain ⟨⟨⟨⟩, σ'⟩, ⟨⟨⟩, τ'⟩, a1, a2, a3⟩ := key
    exact ⟨σ', τ', a1, a2, a3⟩
  · intro k37 k20 q x4 x5 σ x3 τ hI
    obtain ⟨i, rfl, hi, rfl, rfl, ⟨rfl, hwb⟩, ⟨d1, d2, d3⟩, w1, w2, l1, l2, hf, hg⟩ := hI
    by_cases hGi : G ≤ i
    · left
      obtain rfl : i = G := by omega
      rw [if_pos (nI_le (Nat.le_refl _) (by omega)), if_pos (nI_le (Nat.le_refl _) (by omega)), fset (N := 6) (by decide) (by omega) (by omega), bnd_s]
      refine ⟨_, _, rfl, rfl, ⟨fun q hq => ?_, ?_, ?_⟩, ⟨(up_eq : up σ 44 k (τ 21 k) 44 k = τ 21 k), (show wb (up σ 44 k (τ 21 k) 44 k) by rw [up_eq]; exact hwb)⟩, fun j hj => ⟨?_, w2 j hj⟩, hf.up (Or.inr (Or.inr (Or.inl rfl))), hg⟩
      · show up σ 44 k (τ 21 k) 42 q = _
        rw [up_ne (by omega)]; exact d1 q hq
      · show up σ 44 k (τ 21 k) 41 8 = _
        rw [up_ne (by omega)]; exact d2
      · show up σ 44 k (τ 21 k) 41 9 = _
        rw [up_ne (by omega)]; exact d3
      · show up σ 44 k (τ 21 k) 44 j = _
        rw [up_ne (fun e => hj e.2)]; exact w1 j
    · right
      have h' : RD n r w σ τ := h.fr (hf.mono fun _ _ => gC_dC) (hg.mono fun _ _ => gM_dM)
      obtain ⟨c, hc, c1, c2, -⟩ := hL i (by omega)
      have e43 : σ 43 i = nI c := by rw [l1]; exact c1
      have e20 : τ 20 i = nI c := by rw [l2]; exact c2
      obtain ⟨v, σ1, τ1, v1, v2, v3, v4, -, -⟩ := says_rel (p := 1) (wins := τ 18 c) (fu := fu) (fu' := fu') h' (by omega) hc (Or.inr ⟨k, hk, rfl⟩) hfu hfu'
      have s41 : ∀ a, σ1 41 a = σ 41 a := fun a => v3 41 a (by unfold sC; omega)
      have s42 : ∀ a, σ1 42 a = σ 42 a := fun a => v3 42 a (by unfold sC; omega)
      have s43 : ∀ a, σ1 43 a = σ 43 a := fun a => v3 43 a (by unfold sC; omega)
      have s44 : ∀ a, σ1 44 a = σ 44 a := fun a => v3 44 a (by unfold sC; omega)
      have m0 : ∀ a, τ1 0 a = τ 0 a := fun a => v4 0 a (by unfold sM; omega)
      have m18 : ∀ a, τ1 18 a = τ 18 a := fun a => v4 18 a (by unfold sM; omega)
      have m20 : ∀ a, τ1 20 a = τ 20 a := fun a => v4 20 a (by unfold sM; omega)
      have m21 : ∀ a, τ1 21 a = τ 21 a := fun a => v4 21 a (by unfold sM; omega)
      have ec : σ 42 c = τ 18 c := d1 c (by omega)
      rw [if_neg (nI_ge (by omega) (by omega)), if_neg (nI_ge (by omega) (by omega)), fat (N := 8) (by decide) (by omega) (by omega), bnd_s, e43, fat (N := 8) (by decide) (by omega) (by omega), bnd_s, ec]
      rw [gd_t (inb_t (N := 8) (by omega) (by omega)), nI_c (by omega), nI_c (by omega), e20, gd_t (inb_t (N := 8) (by omega) (by omega)), nI_c (by omega)]
      have v1' : F2_says fu (1 : Int32) (nI c) (nI k) (τ 18 c) σ = some (v, σ1) := v1
      have v2' : F12_asksOf fu' (1 : Int32) (nI c) (nI k) (τ 18 c) τ = some (v, τ1) := v2
      rw [v1', bnd_s, v2', bnd_s, gd_t (inb_t (N := 6) (by omega) (by omega)), fset (N := 8) (by decide) (by omega) (by omega), bnd_s]
      refine ⟨G - (i + 1), _, _, _, _, _, by omega, ⟨i + 1, rfl, by omega, by rw [nI_1], by rw [nI_1], ⟨?_, ?_⟩, ⟨fun q hq => ?_, ?_, ?_⟩, fun j => ?_, fun j hj => ?_, fun j => ?_, fun j => ?_, ?_, ?_⟩, rfl, rfl⟩
      · simp only [up_at]; simp [m21]
      · obtain ⟨z, hz, ez⟩ := hwb
        obtain ⟨y, hy, ey⟩ := or_bit z hz c (by omega)
        rw [ez, ey]
        exact ⟨y, hy, rfl⟩
      · simp only [up_at]; simp [s42, m18]
        by_cases hqc : q = c
        · simp [hqc]
        · simp [hqc]; exact d1 q hq
      · simp only [up_at]; simp [d2]
      · simp only [up_at]; simp [s41, m0, d3]
      · simp only [up_at]; simp [s44, w1]
      · simp only [up_at]; simp [m21, hj]; exact w2 j hj
      · simp only [up_at]; simp [s43, l1]
      · simp only [up_at]; simp [m20, l2]
      · exact (((hf.tr (v3.mono fun o k q => Or.inl (Or.inl q))).up (Or.inr (Or.inr (Or.inr ⟨rfl, Or.inl rfl⟩)))).up (Or.inr (Or.inl rfl))).up (Or.inr (Or.inr (Or.inr ⟨rfl, Or.inr rfl⟩)))
      · exact ((((hg.tr (v4.mono fun o k q => Or.inl (Or.inl q))).up (Or.inr (Or.inr (Or.inr ⟨rfl, Or.inl rfl⟩)))).up (Or.inr (Or.inl rfl))).up (Or.inr (Or.inr (Or.inl rfl)))).up (Or.inr (Or.inr (Or.inr ⟨rfl, Or.inr rfl⟩)))
