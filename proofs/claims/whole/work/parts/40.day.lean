/-! the day on both sides -/
theorem race_rel {n r w k : Nat} {σ τ : M2} {fu fu' : Nat} (h : RD n r w σ τ) (hk : k < r) (hD : DS σ τ) (hfu : 161 < fu) (hfu' : 161 < fu') :
    ∃ m σ1 σ' τ', F2_lineUp fu (nI k) σ = some (nI m, σ1) ∧ F2_giveRibbons fu (nI k) (nI m) σ1 = some ((), σ') ∧ F12_raceOf fu' (nI k) τ = some ((), τ') ∧ DS σ' τ' ∧ (σ' 44 k = τ' 21 k ∧ wb (σ' 44 k)) ∧ (∀ j, j ≠ k → σ' 44 j = σ 44 j ∧ τ' 21 j = τ 21 j) ∧ Fr gC σ σ' ∧ Fr gM τ τ' := by
  have hn8 : n ≤ 8 := h.1
  have hr6 : r ≤ 6 := h.2.1
  obtain ⟨m, σ1, τ1, a1, a2, a3, a4, a5, a6, a7⟩ := line_rel (fu := fu) (fu' := fu') h hk (fun q hq => hD.1 q (by omega)) hfu hfu'
  have hf1 : Fr dC σ σ1 := a6.mono fun _ _ => lC_dC
  have hg1 : Fr dM τ (up τ1 21 k 0) := (a7.mono fun _ _ => lM_dM).up (Or.inl (by omega))
  have h1 : RD n r w σ1 (up τ1 21 k 0) := h.fr hf1 hg1
  obtain ⟨q1, q2, q3, q4, ⟨z6, hz6, q6⟩, ⟨z7, hz7, q7⟩, ⟨z8, hz8, q8⟩, ⟨z9, hz9, q9⟩⟩ := h1.2.2.2.2.2.2.2.2.1 k hk
  have e8 : σ1 8 k = σ 8 k := a6 8 k (by unfold lC sC; omega)
  have hm : onesV (σ1 8 k) = nI m := by
    rw [a3, ← e8, q8]
    exact cnt_ones n hn8 z8 hz8
  have hmn : m ≤ n := a4.1
  have hL : Line m n σ1 (up τ1 21 k 0) := ⟨hmn, fun j hj => by
    obtain ⟨q, b1, b2, b3, b4⟩ := a4.2 j hj
    exact ⟨q, b1, b2, by rw [up_ne (by omega)]; exact b3, by rw [up_ne (by omega)]; exact b4⟩⟩
  have hD1 : DS σ1 (up τ1 21 k 0) := by
    refine ⟨fun q hq => ?_, ?_, ?_⟩
    · rw [up_ne (by omega), a6 42 q (by unfold lC sC; omega), a7 18 q (by unfold lM sM; omega)]; exact hD.1 q hq
    · rw [up_ne (by omega), a6 41 8 (by unfold lC sC; omega), a7 0 34 (by unfold lM sM; omega)]; exact hD.2.1
    · rw [up_ne (by omega), a6 41 9 (by unfold lC sC; omega), a7 0 36 (by unfold lM sM; omega)]; exact hD.2.2
  obtain ⟨σ', τ', b1, b2, b3, b4, b5, b6, b7⟩ := give_rel (G := ribG z6 m z9) (fu := fu) (fu' := fu') h1 hk hL (ribG_le z6 m z9) hD1 up_eq hfu hfu'
  refine ⟨m, σ1, σ', τ', a1, ?_, ?_, b3, b4, fun j hj => ⟨?_, ?_⟩, ?_, ?_⟩
  · unfold F2_giveRibbons
    rw [fat (N := 6) (by decide) (by omega) (by omega), bnd_s, fat (N := 6) (by decide) (by omega) (by omega), bnd_s, q6, q9, ribbonsIn_eq hz6 (by omega) hz9 (by omega), bnd_s]
    have e : (if nI (ribR z6 m z9) < nI m then nI (ribR z6 m z9) else nI m) = nI (ribG z6 m z9) := by
      have hR := ribR_lt (z := z6) (m := m) (b := z9) (by omega) hz9
      unfold ribG
      by_cases hl : ribR z6 m z9 < m
      · rw [if_pos hl, if_pos (nI_lt hl (by omega))]
      · rw [if_neg hl, if_neg (nI_nlt (by omega) (by omega))]
    rw [e]
    exact b1
  · unfold F12_raceOf
    rw [a2, bnd_s, gd_t (inb_t (N := 6) (by omega) (by omega)), nI_c (by omega), forMany_eq (z := z6) (m := m) (b := z9) (by omega) hz6 (by omega) hz9 (by omega) (by rw [← q3]; exact hm) (by rw [← q4]; exact q9) (by rw [← q1]; exact q6), bnd_s]
    exact b2
  · rw [(b5 j hj).1]; exact a6 44 j (by unfold lC sC; omega)
  · rw [(b5 j hj).2, up_ne (fun e => hj e.2)]; exact a7 21 j (by unfold lM sM; omega)
  · exact (a6.mono fun o k q => Or.inl q).tr b6
  · have u : Fr gM τ (up τ1 21 k 0) := (a7.mono fun o k q => Or.inl q).up (Or.inr (Or.inr (Or.inl rfl)))
    exact u.tr b7
def zw (σ : M2) (o : Nat) : M2 := up (up (up (up (up (up (up (up σ o 0 0) o 1 0) o 2 0) o 3 0) o 4 0) o 5 0) o 6 0) o 7 0
theorem begin_eq {σ : M2} {fu : Nat} (hfu : 9 < fu) : F2_begin fu σ = some ((), zw (up (up σ 41 8 0) 41 9 0) 42) := by
  obtain ⟨q, rfl⟩ : ∃ q, fu = q + 9 := ⟨fu - 9, by omega⟩
  rfl
theorem begins_eq {τ : M2} {fu : Nat} (hfu : 9 < fu) : F12_begins fu τ = some ((), zw τ 18) := by
  obtain ⟨q, rfl⟩ : ∃ q, fu = q + 9 := ⟨fu - 9, by omega⟩
  rfl
theorem zw_at {σ : M2} {o q : Nat} (hq : q < 8) : zw σ o o q = 0 := by
  unfold zw
  rcases (show q = 0 ∨ q = 1 ∨ q = 2 ∨ q = 3 ∨ q = 4 ∨ q = 5 ∨ q = 6 ∨ q = 7 by omega) with rfl | rfl | rfl | rfl | rfl | rfl | rfl | rfl <;> simp [up_at]
theorem zw_ne {σ : M2} {o a k : Nat} (h : a ≠ o) : zw σ o a k = σ a k := by
  unfold zw
  rw [up_ne (fun e => h e.1), up_ne (fun e => h e.1), up_ne (fun e => h e.1), up_ne (fun e => h e.1), up_ne (fun e => h e.1), up_ne (fun e => h e.1), up_ne (fun e => h e.1), up_ne (fun e => h e.1)]
/-- who has won none, as bits -/
def emp (f : Nat → Int32) : Nat → Int32
  | 0 => 0
  | c + 1 => if f c = 0 then emp f c ||| ((1 : Int32) <<< (nI c &&& 31)) else emp f c
def eC (o k : Nat) : Prop := sC o k ∨ (o = 41 ∧ (k = 8 ∨ k = 10 ∨ k = 11))
def eM (o k : Nat) : Prop := sM o k ∨ (o = 0 ∧ (k = 34 ∨ k = 35))
theorem eC_dC {o k : Nat} (h : eC o k) : dC o k := by
  rcases h with h | h
  · exact sC_dC h
  · exact Or.inl (by omega)
theorem eM_dM {o k : Nat} (h : eM o k) : dM o k := by
  rcases h with h | h
  · exact sM_dM h
  · exact Or.inr (by omega)
theorem end_rel {n r w : Nat} {σ0 τ0 : M2} {fu fu' : Nat} (h : RD n r w σ0 τ0) (hD : DS σ0 τ0) (h35 : τ0 0 35 = 0) (hfu : 161 < fu) (hfu' : 161 < fu') :
    ∃ σ' τ', F2_end fu σ0 = some ((), σ') ∧ F12_goes_60 fu' 0 τ0 = some ((), τ') ∧ DS σ' τ' ∧ σ' 41 10 = τ' 0 35 ∧ σ' 41 11 = emp (σ' 42) n ∧ Fr eC σ0 σ' ∧ Fr eM τ0 τ' := by
  have hn8 : n ≤ 8 := h.1
  unfold F2_end F2_end_12 F12_goes_60
  have key := pl11 (R := Unit × M2) (R' := Unit × M2) (fun q x1 σ x τ => ∃ c, q = n - c ∧ c ≤ n ∧ x1 = nI c ∧ x = nI c ∧ DS σ τ ∧ (∀ j, σ 42 j = σ0 42 j) ∧ σ 41 10 = τ 0 35 ∧ σ 41 11 = emp (σ0 42) c ∧ Fr eC σ0 σ ∧ Fr eM τ0 τ)
    (fun r r' => DS r.2 r'.2 ∧ r.2 41 10 = r'.2 0 35 ∧ r.2 41 11 = emp (r.2 42) n ∧ Fr eC σ0 r.2 ∧ Fr eM τ0 r'.2) (b := fun (k12 : Int32 → M2 → Option (Unit × M2)) (x1 : Int32) (σ : M2) => if (σ 1 3) ≤ x1 then some ((), σ) else bnd (F11_at 42 x1 σ) (fun r2 s3 => if r2 = 0 then bnd (F2_says fu (2 : Int32) x1 (-1 : Int32) (0 : Int32) s3) (fun r6 s7 => F2_end_73 fu k12 x1 (up (up (up s7 41 8 ((s3 41 8) + r6)) 41 10 (((up s7 41 8 ((s3 41 8) + r6)) 41 10) + (1 : Int32))) 41 11 (((up (up s7 41 8 ((s3 41 8) + r6)) 41 10 (((up s7 41 8 ((s3 41 8) + r6)) 41 10) + (1 : Int32))) 41 11) ||| ((1 : Int32) <<< (x1 &&& 31))))) else F2_end_73 fu k12 x1 s3))
    (b' := fun (k60 : Int32 → M2 → Option (Unit × M2)) (x1 : Int32) (σ : M2) => if (σ 0 0) ≤ x1 then some ((), σ) else gd (inb x1 8) (if (σ 18 x1.toNatClampNeg) = 0 then bnd (F12_asksOf fu' (2 : Int32) x1 (-1 : Int32) (0 : Int32) (up σ 0 35 ((σ 0 35) + (1 : Int32)))) (fun r4 s5 => F12_goes_104 fu' k60 x1 (up s5 0 34 (((up σ 0 35 ((σ 0 35) + (1 : Int32))) 0 34) + r4))) else F12_goes_104 fu' k60 x1 σ)) ?_ n fu fu' 0 (up (up σ0 41 10 (0 : Int32)) 41 11 (0 : Int32)) 0 τ0 (by omega) (by omega) ⟨0, rfl, by omega, rfl, rfl, ⟨fun q hq => ?_, ?_, ?_⟩, fun j => ?_, ?_, ?_, (Fr.rf.up (Or.inr ⟨rfl, Or.inr (Or.inl rfl)⟩)).up (Or.inr ⟨rfl, Or.inr (Or.inr rfl)⟩), Fr.rf⟩
  · obtain ⟨⟨⟨⟩, σ'⟩, ⟨⟨⟩, τ'⟩, a1, a2, a3⟩ := key
    exact ⟨σ', τ', a1, a2, a3⟩
  · intro k12 k60 q x1 σ x τ hI
    obtain ⟨c, rfl, hc, rfl, rfl, ⟨d1, d2, d3⟩, w1, c10, c11, hf, hg⟩ := hI
    have h' : RD n r w σ τ := h.fr (hf.mono fun _ _ => eC_dC) (hg.mono fun _ _ => eM_dM)
    rw [h'.2.2.2.1, h'.2.2.2.2.1]
    by_cases hcn : n ≤ c
    · left
      obtain rfl : c = n := by omega
      rw [if_pos (nI_le (Nat.le_refl _) (by omega)), if_pos (nI_le (Nat.le_refl _) (by omega))]
      refine ⟨_, _, rfl, rfl, ⟨d1, d2, d3⟩, c10, ?_, hf, hg⟩
      show σ 41 11 = emp (σ 42) c
      rw [show σ 42 = σ0 42 from funext w1]
      exact c11
    · right
      have ec : σ 42 c = τ 18 c := d1 c (by omega)
      rw [if_neg (nI_ge (by omega) (by omega)), if_neg (nI_ge (by omega) (by omega)), fat (N := 8) (by decide) (by omega) (by omega), bnd_s, gd_t (inb_t (N := 8) (by omega) (by omega)), nI_c (by omega), ec]
      by_cases h0 : τ 18 c = 0
      · rw [if_pos h0, if_pos h0]
        have hg2 : Fr dM τ (up τ 0 35 ((τ 0 35) + (1 : Int32))) := Fr.rf.up (Or.inr (by omega))
        obtain ⟨v, σ1, τ1, v1, v2, v3, v4, -, -⟩ := says_rel (p := 2) (rr := -1) (wins := 0) (fu := fu) (fu' := fu') (h'.fr Fr.rf hg2) (by omega) (c := c) (by omega) (Or.inl rfl) hfu hfu'
        have s41 : ∀ a, σ1 41 a = σ 41 a := fun a => v3 41 a (by unfold sC; omega)
        have s42 : ∀ a, σ1 42 a = σ 42 a := fun a => v3 42 a (by unfold sC; omega)
        have m0 : ∀ a, τ1 0 a = (up τ 0 35 ((τ 0 35) + (1 : Int32))) 0 a := fun a => v4 0 a (by unfold sM; omega)
        have m18 : ∀ a, τ1 18 a = τ 18 a := fun a => by rw [v4 18 a (by unfold sM; omega), up_ne (by omega)]
        have v1' : F2_says fu (2 : Int32) (nI c) (-1 : Int32) (0 : Int32) σ = some (v, σ1) := v1
        have v2' : F12_asksOf fu' (2 : Int32) (nI c) (-1 : Int32) (0 : Int32) (up τ 0 35 ((τ 0 35) + (1 : Int32))) = some (v, τ1) := v2
        rw [v1', bnd_s, v2', bnd_s]
        unfold F2_end_73 F12_goes_104
        refine ⟨n - (c + 1), _, _, _, _, by omega, ⟨c + 1, rfl, by omega, by rw [nI_1], by rw [nI_1], ⟨fun q hq => ?_, ?_, ?_⟩, fun j => ?_, ?_, ?_, ?_, ?_⟩, rfl, rfl⟩
        · simp only [up_at]; simp [s42, m18]; exact d1 q hq
        · simp only [up_at]; simp [d2]
        · simp only [up_at]; simp [s41, m0, up_at, d3]
        · simp only [up_at]; simp [s42, w1]
        · simp only [up_at]; simp [s41, m0, up_at, c10]
        · simp only [up_at]; simp [s41, c11]
          show _ = (if σ0 42 c = 0 then emp (σ0 42) c ||| ((1 : Int32) <<< (nI c &&& 31)) else emp (σ0 42) c)
          rw [if_pos (by rw [← w1, ec]; exact h0)]
        · exact (((hf.tr (v3.mono fun o k q => Or.inl q)).up (Or.inr ⟨rfl, Or.inl rfl⟩)).up (Or.inr ⟨rfl, Or.inr (Or.inl rfl)⟩)).up (Or.inr ⟨rfl, Or.inr (Or.inr rfl)⟩)
        · exact ((hg.up (Or.inr ⟨rfl, Or.inr rfl⟩)).tr (v4.mono fun o k q => Or.inl q)).up (Or.inr ⟨rfl, Or.inl rfl⟩)
      · rw [if_neg h0, if_neg h0]
        unfold F2_end_73 F12_goes_104
        refine ⟨n - (c + 1), _, _, _, _, by omega, ⟨c + 1, rfl, by omega, by rw [nI_1], by rw [nI_1], ⟨d1, d2, d3⟩, w1, c10, ?_, hf, hg⟩, rfl, rfl⟩
        rw [c11]
        show _ = (if σ0 42 c = 0 then emp (σ0 42) c ||| ((1 : Int32) <<< (nI c &&& 31)) else emp (σ0 42) c)
        rw [if_neg (by rw [← w1, ec]; exact h0)]
  · rw [up_ne (by omega), up_ne (by omega)]; exact hD.1 q hq
  · rw [up_ne (by omega), up_ne (by omega)]; exact hD.2.1
  · rw [up_ne (by omega), up_ne (by omega)]; exact hD.2.2
  · rw [up_ne (by omega), up_ne (by omega)]
  · rw [up_ne (by omega), up_eq]; exact h35.symm
  · rw [up_eq]; rfl
/-- all that a day's end shows -/
def DR (n r : Nat) (left : Int32) (σ τ : M2) : Prop := DS σ τ ∧ σ 41 10 = τ 0 35 ∧ σ 41 11 = emp (σ 42) n ∧ ∀ j, j < r → ¬ nI j = left → σ 44 j = τ 21 j
theorem run_rel2 {n r w : Nat} {left : Int32} {σ0 τ0 : M2} {fu fu' : Nat} (h : RD n r w σ0 τ0) (hturn : ∀ k, k < 6 → τ0 22 k = nI k) (hdrop : τ0 0 39 = left) (hfu : 161 < fu) (hfu' : 161 < fu') :
    ∃ σ' τ', F2_runWithout fu left σ0 = some ((), σ') ∧ F12_goes fu' τ0 = some ((), τ') ∧ DR n r left σ' τ' ∧ Fr dC σ0 σ' ∧ Fr dM τ0 τ' ∧ (∀ j, j < r → ¬ nI j = left → wb (σ' 44 j)) := by
  have hn8 : n ≤ 8 := h.1
  have hr6 : r ≤ 6 := h.2.1
  unfold F2_runWithout F12_goes
  rw [begin_eq (by omega), bnd_s, begins_eq (by omega), bnd_s]
  have hf0 : Fr dC σ0 (zw (up (up σ0 41 8 0) 41 9 0) 42) := fun o k q => by
    rw [zw_ne (fun e => q (Or.inl (by omega))), up_ne (fun e => q (Or.inl (by omega))), up_ne (fun e => q (Or.inl (by omega)))]
  have hg0 : Fr dM τ0 (up (up (up (zw τ0 18) 0 34 (0 : Int32)) 0 35 (0 : Int32)) 0 36 (0 : Int32)) := fun o k q => by
    rw [up_ne (fun e => q (Or.inr (by omega))), up_ne (fun e => q (Or.inr (by omega))), up_ne (fun e => q (Or.inr (by omega))), zw_ne (fun e => q (Or.inl (by omega)))]
  unfold F2_runWithout_6 F12_goes_21
  have key := pl11 (R := Unit × M2) (R' := Unit × M2) (fun q x2 σ x τ => ∃ k, q = r - k ∧ k ≤ r ∧ x2 = nI k ∧ x = nI k ∧ DS σ τ ∧ τ 0 35 = 0 ∧ (∀ j, j < k → ¬ nI j = left → σ 44 j = τ 21 j ∧ wb (σ 44 j)) ∧ Fr dC σ0 σ ∧ Fr dM τ0 τ)
    (fun r' r'' => DR n r left r'.2 r''.2 ∧ Fr dC σ0 r'.2 ∧ Fr dM τ0 r''.2 ∧ (∀ j, j < r → ¬ nI j = left → wb (r'.2 44 j))) (b := fun (k6 : Int32 → M2 → Option (Unit × M2)) (x2 : Int32) (σ : M2) => if (σ 5 4) ≤ x2 then bnd (F2_end fu σ) (fun r2 s3 => some ((), s3)) else if x2 = left then F2_runWithout_32 fu k6 left x2 σ else bnd (F2_lineUp fu x2 σ) (fun r6 s7 => bnd (F2_giveRibbons fu x2 r6 s7) (fun r9 s10 => F2_runWithout_32 fu k6 left x2 s10)))
    (b' := fun (k21 : Int32 → M2 → Option (Unit × M2)) (x1 : Int32) (σ : M2) => if (σ 0 2) ≤ x1 then F12_goes_60 fu' (0 : Int32) σ else gd (inb x1 6) (if (σ 22 x1.toNatClampNeg) = (σ 0 39) then F12_goes_52 fu' k21 x1 σ else bnd (F12_raceOf fu' (σ 22 x1.toNatClampNeg) σ) (fun r4 s5 => F12_goes_52 fu' k21 x1 s5))) ?_ r fu fu' 0 _ 0 _ (by omega) (by omega) ⟨0, rfl, by omega, rfl, rfl, ⟨fun q hq => ?_, ?_, ?_⟩, ?_, fun j hj => by omega, hf0, hg0⟩
  · obtain ⟨⟨⟨⟩, σ'⟩, ⟨⟨⟩, τ'⟩, a1, a2, a3⟩ := key
    exact ⟨σ', τ', a1, a2, a3⟩
  · intro k6 k21 q x2 σ x τ hI
    obtain ⟨k, rfl, hk, rfl, rfl, hD, h35, hW, hf, hg⟩ := hI
    have h' : RD n r w σ τ := h.fr hf hg
    have et : ∀ a, a < 6 → τ 22 a = nI a := fun a ha => by rw [hg 22 a (dM_no (by omega))]; exact hturn a ha
    have ed : τ 0 39 = left := by rw [hg 0 39 (dM_no (by omega))]; exact hdrop
    rw [h'.2.2.2.2.2.1, h'.2.2.2.2.2.2.1]
    by_cases hkr : r ≤ k
    · left
      obtain rfl : k = r := by omega
      rw [if_pos (nI_le (Nat.le_refl _) (by omega)), if_pos (nI_le (Nat.le_refl _) (by omega))]
      obtain ⟨σ', τ', b1, b2, b3, b4, b5, b6, b7⟩ := end_rel (fu := fu) (fu' := fu') h' hD h35 hfu hfu'
      rw [b1, bnd_s, b2]
      refine ⟨_, _, rfl, rfl, ⟨b3, b4, b5, fun j hj hl => ?_⟩, hf.tr (b6.mono fun _ _ => eC_dC), hg.tr (b7.mono fun _ _ => eM_dM), fun j hj hl => (by show wb (σ' 44 j); rw [b6 44 j (by unfold eC sC; omega)]; exact (hW j hj hl).2)⟩
      show σ' 44 j = τ' 21 j
      rw [b6 44 j (by unfold eC sC; omega), b7 21 j (by unfold eM sM; omega)]
      exact (hW j hj hl).1
    · right
      rw [if_neg (nI_ge (by omega) (by omega)), if_neg (nI_ge (by omega) (by omega)), gd_t (inb_t (N := 6) (by omega) (by omega)), nI_c (by omega), et k (by omega), ed]
      unfold F2_runWithout_32 F12_goes_52
      by_cases hl : nI k = left
      · rw [if_pos hl, if_pos hl]
        refine ⟨r - (k + 1), _, _, _, _, by omega, ⟨k + 1, rfl, by omega, by rw [nI_1], by rw [nI_1], hD, h35, fun j hj hjl => ?_, hf, hg⟩, rfl, rfl⟩
        rcases Nat.lt_or_ge j k with z | z
        · exact hW j z hjl
        · obtain rfl : j = k := by omega
          exact absurd hl hjl
      · rw [if_neg hl, if_neg hl]
        obtain ⟨m, σ1, σ2, τ2, a1, a2, a3, a4, a5, a6, a7, a8⟩ := race_rel (fu := fu) (fu' := fu') h' (k := k) (by omega) hD hfu hfu'
        rw [a1, bnd_s, a2, bnd_s, a3, bnd_s]
        refine ⟨r - (k + 1), _, _, _, _, by omega, ⟨k + 1, rfl, by omega, by rw [nI_1], by rw [nI_1], a4, ?_, fun j hj hjl => ?_, hf.tr (a7.mono fun _ _ => gC_dC), hg.tr (a8.mono fun _ _ => gM_dM)⟩, rfl, rfl⟩
        · rw [a8 0 35 (by unfold gM lM sM; omega)]; exact h35
        · by_cases z : j = k
          · rw [z]; exact a5
          · rw [(a6 j z).1, (a6 j z).2]; exact hW j (by omega) hjl
  · rw [zw_at hq, up_ne (by omega), up_ne (by omega), up_ne (by omega), zw_at hq]
  · rw [zw_ne (by omega), up_ne (by omega), up_eq, up_ne (by omega), up_ne (by omega), up_eq]
  · rw [zw_ne (by omega), up_eq, up_eq]
  · rw [up_ne (by omega), up_eq]
theorem run_rel {n r w : Nat} {left : Int32} {σ0 τ0 : M2} {fu fu' : Nat} (h : RD n r w σ0 τ0) (hturn : ∀ k, k < 6 → τ0 22 k = nI k) (hdrop : τ0 0 39 = left) (hfu : 161 < fu) (hfu' : 161 < fu') :
    ∃ σ' τ', F2_runWithout fu left σ0 = some ((), σ') ∧ F12_goes fu' τ0 = some ((), τ') ∧ DR n r left σ' τ' ∧ Fr dC σ0 σ' ∧ Fr dM τ0 τ' := by
  obtain ⟨σ', τ', a1, a2, a3, a4, a5, -⟩ := run_rel2 (fu := fu) (fu' := fu') h hturn hdrop hfu hfu'
  exact ⟨σ', τ', a1, a2, a3, a4, a5⟩
