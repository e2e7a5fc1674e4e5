section
/-! a race, a day's end, where the ribbons' number may be shifted -/
def DSd (d : Int32) (σ τ : M2) : Prop := (∀ q, q < 8 → σ 42 q = τ 18 q) ∧ σ 41 8 = τ 0 34 ∧ σ 41 9 = τ 0 36 + d
theorem addc (a d : Int32) : a + d + 1 = a + 1 + d := by rw [Int32.add_assoc, Int32.add_comm d, ← Int32.add_assoc]
theorem giveD {d : Int32} {n r w k m : Nat} {σ0 τ0 : M2} {fu fu' G : Nat} (h : RD n r w σ0 τ0) (hk : k < r) (hL : Line m n σ0 τ0) (hG : G ≤ m) (hD : DSd d σ0 τ0) (h21 : τ0 21 k = 0) (hfu : 161 < fu) (hfu' : 161 < fu') :
    ∃ σ' τ', F2_giveRibbons_37 fu (nI k) (nI G) 0 0 σ0 = some ((), σ') ∧ F12_raceOf_20 fu' (nI k) (nI G) 0 τ0 = some ((), τ') ∧ DSd d σ' τ' ∧ (σ' 44 k = τ' 21 k ∧ wb (σ' 44 k)) ∧ (∀ j, j ≠ k → σ' 44 j = σ0 44 j ∧ τ' 21 j = τ0 21 j) ∧ Fr gC σ0 σ' ∧ Fr gM τ0 τ' := by
  have hn8 : n ≤ 8 := h.1
  have hr6 : r ≤ 6 := h.2.1
  obtain ⟨hmn, hL⟩ := hL
  unfold F2_giveRibbons_37 F12_raceOf_20
  have key := pl21 (R := Unit × M2) (R' := Unit × M2) (fun q x4 x5 σ x3 τ => ∃ i, q = G - i ∧ i ≤ G ∧ x5 = nI i ∧ x3 = nI i ∧ (x4 = τ 21 k ∧ wb x4) ∧ DSd d σ τ ∧ (∀ j, σ 44 j = σ0 44 j) ∧ (∀ j, j ≠ k → τ 21 j = τ0 21 j) ∧ (∀ j, σ 43 j = σ0 43 j) ∧ (∀ j, τ 20 j = τ0 20 j) ∧ Fr gC σ0 σ ∧ Fr gM τ0 τ)
    (fun r r' => DSd d r.2 r'.2 ∧ (r.2 44 k = r'.2 21 k ∧ wb (r.2 44 k)) ∧ (∀ j, j ≠ k → r.2 44 j = σ0 44 j ∧ r'.2 21 j = τ0 21 j) ∧ Fr gC σ0 r.2 ∧ Fr gM τ0 r'.2) (b := fun (k37 : Int32 → Int32 → M2 → Option (Unit × M2)) (x4 : Int32) (x5 : Int32) (σ : M2) => if nI G ≤ x5 then bnd (F11_set 44 (nI k) x4 σ) (fun r2 s3 => some ((), s3)) else bnd (F11_at 43 x5 σ) (fun r5 s6 => bnd (F11_at 42 r5 s6) (fun r8 s9 => bnd (F2_says fu (1 : Int32) r5 (nI k) r8 s9) (fun r11 s12 => bnd (F11_set 42 r5 (r8 + (1 : Int32)) (up s12 41 8 ((s9 41 8) + r11))) (fun r14 s15 => k37 (x4 ||| ((1 : Int32) <<< (r5 &&& 31))) (x5 + 1) (up s15 41 9 ((s15 41 9) + (1 : Int32))))))))
    (b' := fun (k20 : Int32 → M2 → Option (Unit × M2)) (x3 : Int32) (σ : M2) => if nI G ≤ x3 then some ((), σ) else gd (inb x3 8) (gd (inb (σ 20 x3.toNatClampNeg) 8) (bnd (F12_asksOf fu' (1 : Int32) (σ 20 x3.toNatClampNeg) (nI k) (σ 18 (σ 20 x3.toNatClampNeg).toNatClampNeg) σ) (fun r4 s5 => gd (inb (nI k) 6) (k20 (x3 + 1) (up (up (up (up s5 0 34 ((σ 0 34) + r4)) 18 (σ 20 x3.toNatClampNeg).toNatClampNeg (((up s5 0 34 ((σ 0 34) + r4)) 18 (σ 20 x3.toNatClampNeg).toNatClampNeg) + (1 : Int32))) 21 (nI k).toNatClampNeg (((up (up s5 0 34 ((σ 0 34) + r4)) 18 (σ 20 x3.toNatClampNeg).toNatClampNeg (((up s5 0 34 ((σ 0 34) + r4)) 18 (σ 20 x3.toNatClampNeg).toNatClampNeg) + (1 : Int32))) 21 (nI k).toNatClampNeg) ||| ((1 : Int32) <<< ((σ 20 x3.toNatClampNeg) &&& 31)))) 0 36 (((up (up (up s5 0 34 ((σ 0 34) + r4)) 18 (σ 20 x3.toNatClampNeg).toNatClampNeg (((up s5 0 34 ((σ 0 34) + r4)) 18 (σ 20 x3.toNatClampNeg).toNatClampNeg) + (1 : Int32))) 21 (nI k).toNatClampNeg (((up (up s5 0 34 ((σ 0 34) + r4)) 18 (σ 20 x3.toNatClampNeg).toNatClampNeg (((up s5 0 34 ((σ 0 34) + r4)) 18 (σ 20 x3.toNatClampNeg).toNatClampNeg) + (1 : Int32))) 21 (nI k).toNatClampNeg) ||| ((1 : Int32) <<< ((σ 20 x3.toNatClampNeg) &&& 31)))) 0 36) + (1 : Int32)))))))) ?_ G fu fu' 0 0 σ0 0 τ0 (by omega) (by omega) ⟨0, rfl, by omega, rfl, rfl, ⟨h21.symm, 0, by omega, rfl⟩, hD, fun _ => rfl, fun _ _ => rfl, fun _ => rfl, fun _ => rfl, Fr.rf, Fr.rf⟩
  · obtain ⟨⟨⟨⟩, σ'⟩, ⟨⟨⟩, τ'⟩, a1, a2, a3⟩ := key
    exact ⟨σ', τ', a1, a2, a3⟩
  · intro k37 k20 q x4 x5 σ x3 τ hI
    obtain ⟨i, rfl, hi, rfl, rfl, ⟨rfl, hwb⟩, ⟨d1, d2, d3⟩, w1, w2, l1, l2, hf, hg⟩ := hI
    by_cases hGi : G ≤ i
    · left
      obtain rfl : i = G := by omega
      rw [if_pos (nI_le (Nat.le_refl _) (by omega)), if_pos (nI_le (Nat.le_refl _) (by omega)), fset (N := 6) (by decide) (by omega) (by omega), bnd_s]
      refine ⟨_, _, rfl, rfl, ⟨fun q hq => ?_, ?_, ?_⟩, ⟨(up_eq : up σ 44 k (τ 21 k) 44 k = τ 21 k), (show wb (up σ 44 k (τ 21 k) 44 k) by rw [up_eq]; exact hwb)⟩, fun j hj => ⟨?_, w2 j hj⟩, hf.up (Or.inr (Or.inr (Or.inl rfl))), hg⟩
      · show up σ 44 k (τ 21 k) 42 q = _
        rw [up_ne (by omega)]; exact d1 q hq
      · show up σ 44 k (τ 21 k) 41 8 = _
        rw [up_ne (by omega)]; exact d2
      · show up σ 44 k (τ 21 k) 41 9 = _
        rw [up_ne (by omega)]; exact d3
      · show up σ 44 k (τ 21 k) 44 j = _
        rw [up_ne (fun e => hj e.2)]; exact w1 j
    · right
      have h' : RD n r w σ τ := h.fr (hf.mono fun _ _ => gC_dC) (hg.mono fun _ _ => gM_dM)
      obtain ⟨c, hc, c1, c2, -⟩ := hL i (by omega)
      have e43 : σ 43 i = nI c := by rw [l1]; exact c1
      have e20 : τ 20 i = nI c := by rw [l2]; exact c2
      obtain ⟨v, σ1, τ1, v1, v2, v3, v4, -, -⟩ := says_rel (p := 1) (wins := τ 18 c) (fu := fu) (fu' := fu') h' (by omega) hc (Or.inr ⟨k, hk, rfl⟩) hfu hfu'
      have s41 : ∀ a, σ1 41 a = σ 41 a := fun a => v3 41 a (by unfold sC; omega)
      have s42 : ∀ a, σ1 42 a = σ 42 a := fun a => v3 42 a (by unfold sC; omega)
      have s43 : ∀ a, σ1 43 a = σ 43 a := fun a => v3 43 a (by unfold sC; omega)
      have s44 : ∀ a, σ1 44 a = σ 44 a := fun a => v3 44 a (by unfold sC; omega)
      have m0 : ∀ a, τ1 0 a = τ 0 a := fun a => v4 0 a (by unfold sM; omega)
      have m18 : ∀ a, τ1 18 a = τ 18 a := fun a => v4 18 a (by unfold sM; omega)
      have m20 : ∀ a, τ1 20 a = τ 20 a := fun a => v4 20 a (by unfold sM; omega)
      have m21 : ∀ a, τ1 21 a = τ 21 a := fun a => v4 21 a (by unfold sM; omega)
      have ec : σ 42 c = τ 18 c := d1 c (by omega)
      rw [if_neg (nI_ge (by omega) (by omega)), if_neg (nI_ge (by omega) (by omega)), fat (N := 8) (by decide) (by omega) (by omega), bnd_s, e43, fat (N := 8) (by decide) (by omega) (by omega), bnd_s, ec]
      rw [gd_t (inb_t (N := 8) (by omega) (by omega)), nI_c (by omega), nI_c (by omega), e20, gd_t (inb_t (N := 8) (by omega) (by omega)), nI_c (by omega)]
      have v1' : F2_says fu (1 : Int32) (nI c) (nI k) (τ 18 c) σ = some (v, σ1) := v1
      have v2' : F12_asksOf fu' (1 : Int32) (nI c) (nI k) (τ 18 c) τ = some (v, τ1) := v2
      rw [v1', bnd_s, v2', bnd_s, gd_t (inb_t (N := 6) (by omega) (by omega)), fset (N := 8) (by decide) (by omega) (by omega), bnd_s]
      refine ⟨G - (i + 1), _, _, _, _, _, by omega, ⟨i + 1, rfl, by omega, by rw [nI_1], by rw [nI_1], ⟨?_, ?_⟩, ⟨fun q hq => ?_, ?_, ?_⟩, fun j => ?_, fun j hj => ?_, fun j => ?_, fun j => ?_, ?_, ?_⟩, rfl, rfl⟩
      · simp only [up_at]; simp [m21]
      · obtain ⟨z, hz, ez⟩ := hwb
        obtain ⟨y, hy, ey⟩ := or_bit z hz c (by omega)
        rw [ez, ey]
        exact ⟨y, hy, rfl⟩
      · simp only [up_at]; simp [s42, m18]
        by_cases hqc : q = c
        · simp [hqc]
        · simp [hqc]; exact d1 q hq
      · simp only [up_at]; simp [d2]
      · simp only [up_at]; simp [s41, m0, d3]; exact addc _ _
      · simp only [up_at]; simp [s44, w1]
      · simp only [up_at]; simp [m21, hj]; exact w2 j hj
      · simp only [up_at]; simp [s43, l1]
      · simp only [up_at]; simp [m20, l2]
      · exact (((hf.tr (v3.mono fun o k q => Or.inl (Or.inl q))).up (Or.inr (Or.inr (Or.inr ⟨rfl, Or.inl rfl⟩)))).up (Or.inr (Or.inl rfl))).up (Or.inr (Or.inr (Or.inr ⟨rfl, Or.inr rfl⟩)))
      · exact ((((hg.tr (v4.mono fun o k q => Or.inl (Or.inl q))).up (Or.inr (Or.inr (Or.inr ⟨rfl, Or.inl rfl⟩)))).up (Or.inr (Or.inl rfl))).up (Or.inr (Or.inr (Or.inl rfl)))).up (Or.inr (Or.inr (Or.inr ⟨rfl, Or.inr rfl⟩)))
theorem raceD {d : Int32} {n r w k : Nat} {σ τ : M2} {fu fu' : Nat} (h : RD n r w σ τ) (hk : k < r) (hD : DSd d σ τ) (hfu : 161 < fu) (hfu' : 161 < fu') :
    ∃ m σ1 σ' τ', F2_lineUp fu (nI k) σ = some (nI m, σ1) ∧ F2_giveRibbons fu (nI k) (nI m) σ1 = some ((), σ') ∧ F12_raceOf fu' (nI k) τ = some ((), τ') ∧ DSd d σ' τ' ∧ (σ' 44 k = τ' 21 k ∧ wb (σ' 44 k)) ∧ (∀ j, j ≠ k → σ' 44 j = σ 44 j ∧ τ' 21 j = τ 21 j) ∧ Fr gC σ σ' ∧ Fr gM τ τ' := by
  have hn8 : n ≤ 8 := h.1
  have hr6 : r ≤ 6 := h.2.1
  obtain ⟨m, σ1, τ1, a1, a2, a3, a4, a5, a6, a7⟩ := line_rel (fu := fu) (fu' := fu') h hk (fun q hq => hD.1 q (by omega)) hfu hfu'
  have hf1 : Fr dC σ σ1 := a6.mono fun _ _ => lC_dC
  have hg1 : Fr dM τ (up τ1 21 k 0) := (a7.mono fun _ _ => lM_dM).up (Or.inl (by omega))
  have h1 : RD n r w σ1 (up τ1 21 k 0) := h.fr hf1 hg1
  obtain ⟨q1, q2, q3, q4, ⟨z6, hz6, q6⟩, ⟨z7, hz7, q7⟩, ⟨z8, hz8, q8⟩, ⟨z9, hz9, q9⟩⟩ := h1.2.2.2.2.2.2.2.2.1 k hk
  have e8 : σ1 8 k = σ 8 k := a6 8 k (by unfold lC sC; omega)
  have hm : onesV (σ1 8 k) = nI m := by
    rw [a3, ← e8, q8]
    exact cnt_ones n hn8 z8 hz8
  have hmn : m ≤ n := a4.1
  have hL : Line m n σ1 (up τ1 21 k 0) := ⟨hmn, fun j hj => by
    obtain ⟨q, b1, b2, b3, b4⟩ := a4.2 j hj
    exact ⟨q, b1, b2, by rw [up_ne (by omega)]; exact b3, by rw [up_ne (by omega)]; exact b4⟩⟩
  have hD1 : DSd d σ1 (up τ1 21 k 0) := by
    refine ⟨fun q hq => ?_, ?_, ?_⟩
    · rw [up_ne (by omega), a6 42 q (by unfold lC sC; omega), a7 18 q (by unfold lM sM; omega)]; exact hD.1 q hq
    · rw [up_ne (by omega), a6 41 8 (by unfold lC sC; omega), a7 0 34 (by unfold lM sM; omega)]; exact hD.2.1
    · rw [up_ne (by omega), a6 41 9 (by unfold lC sC; omega), a7 0 36 (by unfold lM sM; omega)]; exact hD.2.2
  obtain ⟨σ', τ', b1, b2, b3, b4, b5, b6, b7⟩ := giveD (G := ribG z6 m z9) (fu := fu) (fu' := fu') h1 hk hL (ribG_le z6 m z9) hD1 up_eq hfu hfu'
  refine ⟨m, σ1, σ', τ', a1, ?_, ?_, b3, b4, fun j hj => ⟨?_, ?_⟩, ?_, ?_⟩
  · unfold F2_giveRibbons
    rw [fat (N := 6) (by decide) (by omega) (by omega), bnd_s, fat (N := 6) (by decide) (by omega) (by omega), bnd_s, q6, q9, ribbonsIn_eq hz6 (by omega) hz9 (by omega), bnd_s]
    have e : (if nI (ribR z6 m z9) < nI m then nI (ribR z6 m z9) else nI m) = nI (ribG z6 m z9) := by
      have hR := ribR_lt (z := z6) (m := m) (b := z9) (by omega) hz9
      unfold ribG
      by_cases hl : ribR z6 m z9 < m
      · rw [if_pos hl, if_pos (nI_lt hl (by omega))]
      · rw [if_neg hl, if_neg (nI_nlt (by omega) (by omega))]
    rw [e]
    exact b1
  · unfold F12_raceOf
    rw [a2, bnd_s, gd_t (inb_t (N := 6) (by omega) (by omega)), nI_c (by omega), forMany_eq (z := z6) (m := m) (b := z9) (by omega) hz6 (by omega) hz9 (by omega) (by rw [← q3]; exact hm) (by rw [← q4]; exact q9) (by rw [← q1]; exact q6), bnd_s]
    exact b2
  · rw [(b5 j hj).1]; exact a6 44 j (by unfold lC sC; omega)
  · rw [(b5 j hj).2, up_ne (fun e => hj e.2)]; exact a7 21 j (by unfold lM sM; omega)
  · exact (a6.mono fun o k q => Or.inl q).tr b6
  · have u : Fr gM τ (up τ1 21 k 0) := (a7.mono fun o k q => Or.inl q).up (Or.inr (Or.inr (Or.inl rfl)))
    exact u.tr b7
theorem endD {d : Int32} {n r w : Nat} {σ0 τ0 : M2} {fu fu' : Nat} (h : RD n r w σ0 τ0) (hD : DSd d σ0 τ0) (h35 : τ0 0 35 = 0) (hfu : 161 < fu) (hfu' : 161 < fu') :
    ∃ σ' τ', F2_end fu σ0 = some ((), σ') ∧ F12_goes_60 fu' 0 τ0 = some ((), τ') ∧ DSd d σ' τ' ∧ σ' 41 10 = τ' 0 35 ∧ σ' 41 11 = emp (σ' 42) n ∧ Fr eC σ0 σ' ∧ Fr eM τ0 τ' := by
  have hn8 : n ≤ 8 := h.1
  unfold F2_end F2_end_12 F12_goes_60
  have key := pl11 (R := Unit × M2) (R' := Unit × M2) (fun q x1 σ x τ => ∃ c, q = n - c ∧ c ≤ n ∧ x1 = nI c ∧ x = nI c ∧ DSd d σ τ ∧ (∀ j, σ 42 j = σ0 42 j) ∧ σ 41 10 = τ 0 35 ∧ σ 41 11 = emp (σ0 42) c ∧ Fr eC σ0 σ ∧ Fr eM τ0 τ)
    (fun r r' => DSd d r.2 r'.2 ∧ r.2 41 10 = r'.2 0 35 ∧ r.2 41 11 = emp (r.2 42) n ∧ Fr eC σ0 r.2 ∧ Fr eM τ0 r'.2) (b := fun (k12 : Int32 → M2 → Option (Unit × M2)) (x1 : Int32) (σ : M2) => if (σ 1 3) ≤ x1 then some ((), σ) else bnd (F11_at 42 x1 σ) (fun r2 s3 => if r2 = 0 then bnd (F2_says fu (2 : Int32) x1 (-1 : Int32) (0 : Int32) s3) (fun r6 s7 => F2_end_73 fu k12 x1 (up (up (up s7 41 8 ((s3 41 8) + r6)) 41 10 (((up s7 41 8 ((s3 41 8) + r6)) 41 10) + (1 : Int32))) 41 11 (((up (up s7 41 8 ((s3 41 8) + r6)) 41 10 (((up s7 41 8 ((s3 41 8) + r6)) 41 10) + (1 : Int32))) 41 11) ||| ((1 : Int32) <<< (x1 &&& 31))))) else F2_end_73 fu k12 x1 s3))
    (b' := fun (k60 : Int32 → M2 → Option (Unit × M2)) (x1 : Int32) (σ : M2) => if (σ 0 0) ≤ x1 then some ((), σ) else gd (inb x1 8) (if (σ 18 x1.toNatClampNeg) = 0 then bnd (F12_asksOf fu' (2 : Int32) x1 (-1 : Int32) (0 : Int32) (up σ 0 35 ((σ 0 35) + (1 : Int32)))) (fun r4 s5 => F12_goes_104 fu' k60 x1 (up s5 0 34 (((up σ 0 35 ((σ 0 35) + (1 : Int32))) 0 34) + r4))) else F12_goes_104 fu' k60 x1 σ)) ?_ n fu fu' 0 (up (up σ0 41 10 (0 : Int32)) 41 11 (0 : Int32)) 0 τ0 (by omega) (by omega) ⟨0, rfl, by omega, rfl, rfl, ⟨fun q hq => ?_, ?_, ?_⟩, fun j => ?_, ?_, ?_, (Fr.rf.up (Or.inr ⟨rfl, Or.inr (Or.inl rfl)⟩)).up (Or.inr ⟨rfl, Or.inr (Or.inr rfl)⟩), Fr.rf⟩
  · obtain ⟨⟨⟨⟩, σ'⟩, ⟨⟨⟩, τ'⟩, a1, a2, a3⟩ := key
    exact ⟨σ', τ', a1, a2, a3⟩
  · intro k12 k60 q x1 σ x τ hI
    obtain ⟨c, rfl, hc, rfl, rfl, ⟨d1, d2, d3⟩, w1, c10, c11, hf, hg⟩ := hI
    have h' : RD n r w σ τ := h.fr (hf.mono fun _ _ => eC_dC) (hg.mono fun _ _ => eM_dM)
    rw [h'.2.2.2.1, h'.2.2.2.2.1]
    by_cases hcn : n ≤ c
    · left
      obtain rfl : c = n := by omega
      rw [if_pos (nI_le (Nat.le_refl _) (by omega)), if_pos (nI_le (Nat.le_refl _) (by omega))]
      refine ⟨_, _, rfl, rfl, ⟨d1, d2, d3⟩, c10, ?_, hf, hg⟩
      show σ 41 11 = emp (σ 42) c
      rw [show σ 42 = σ0 42 from funext w1]
      exact c11
    · right
      have ec : σ 42 c = τ 18 c := d1 c (by omega)
      rw [if_neg (nI_ge (by omega) (by omega)), if_neg (nI_ge (by omega) (by omega)), fat (N := 8) (by decide) (by omega) (by omega), bnd_s, gd_t (inb_t (N := 8) (by omega) (by omega)), nI_c (by omega), ec]
      by_cases h0 : τ 18 c = 0
      · rw [if_pos h0, if_pos h0]
        have hg2 : Fr dM τ (up τ 0 35 ((τ 0 35) + (1 : Int32))) := Fr.rf.up (Or.inr (by omega))
        obtain ⟨v, σ1, τ1, v1, v2, v3, v4, -, -⟩ := says_rel (p := 2) (rr := -1) (wins := 0) (fu := fu) (fu' := fu') (h'.fr Fr.rf hg2) (by omega) (c := c) (by omega) (Or.inl rfl) hfu hfu'
        have s41 : ∀ a, σ1 41 a = σ 41 a := fun a => v3 41 a (by unfold sC; omega)
        have s42 : ∀ a, σ1 42 a = σ 42 a := fun a => v3 42 a (by unfold sC; omega)
        have m0 : ∀ a, τ1 0 a = (up τ 0 35 ((τ 0 35) + (1 : Int32))) 0 a := fun a => v4 0 a (by unfold sM; omega)
        have m18 : ∀ a, τ1 18 a = τ 18 a := fun a => by rw [v4 18 a (by unfold sM; omega), up_ne (by omega)]
        have v1' : F2_says fu (2 : Int32) (nI c) (-1 : Int32) (0 : Int32) σ = some (v, σ1) := v1
        have v2' : F12_asksOf fu' (2 : Int32) (nI c) (-1 : Int32) (0 : Int32) (up τ 0 35 ((τ 0 35) + (1 : Int32))) = some (v, τ1) := v2
        rw [v1', bnd_s, v2', bnd_s]
        unfold F2_end_73 F12_goes_104
        refine ⟨n - (c + 1), _, _, _, _, by omega, ⟨c + 1, rfl, by omega, by rw [nI_1], by rw [nI_1], ⟨fun q hq => ?_, ?_, ?_⟩, fun j => ?_, ?_, ?_, ?_, ?_⟩, rfl, rfl⟩
        · simp only [up_at]; simp [s42, m18]; exact d1 q hq
        · simp only [up_at]; simp [d2]
        · simp only [up_at]; simp [s41, m0, up_at, d3]
        · simp only [up_at]; simp [s42, w1]
        · simp only [up_at]; simp [s41, m0, up_at, c10]
        · simp only [up_at]; simp [s41, c11]
          show _ = (if σ0 42 c = 0 then emp (σ0 42) c ||| ((1 : Int32) <<< (nI c &&& 31)) else emp (σ0 42) c)
          rw [if_pos (by rw [← w1, ec]; exact h0)]
        · exact (((hf.tr (v3.mono fun o k q => Or.inl q)).up (Or.inr ⟨rfl, Or.inl rfl⟩)).up (Or.inr ⟨rfl, Or.inr (Or.inl rfl)⟩)).up (Or.inr ⟨rfl, Or.inr (Or.inr rfl)⟩)
        · exact ((hg.up (Or.inr ⟨rfl, Or.inr rfl⟩)).tr (v4.mono fun o k q => Or.inl q)).up (Or.inr ⟨rfl, Or.inl rfl⟩)
      · rw [if_neg h0, if_neg h0]
        unfold F2_end_73 F12_goes_104
        refine ⟨n - (c + 1), _, _, _, _, by omega, ⟨c + 1, rfl, by omega, by rw [nI_1], by rw [nI_1], ⟨d1, d2, d3⟩, w1, c10, ?_, hf, hg⟩, rfl, rfl⟩
        rw [c11]
        show _ = (if σ0 42 c = 0 then emp (σ0 42) c ||| ((1 : Int32) <<< (nI c &&& 31)) else emp (σ0 42) c)
        rw [if_neg (by rw [← w1, ec]; exact h0)]
  · rw [up_ne (by omega), up_ne (by omega)]; exact hD.1 q hq
  · rw [up_ne (by omega), up_ne (by omega)]; exact hD.2.1
  · rw [up_ne (by omega), up_ne (by omega)]; exact hD.2.2
  · rw [up_ne (by omega), up_ne (by omega)]
  · rw [up_ne (by omega), up_eq]; exact h35.symm
  · rw [up_eq]; rfl
end
