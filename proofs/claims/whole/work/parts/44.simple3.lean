/-! comes, does, day, feed -/
theorem dC_xC {o k : Nat} (h : dC o k) : xC o k := Or.inl h
theorem dM_xM {o k : Nat} (h : dM o k) : xM o k := Or.inl h
theorem gx_dC {o k : Nat} (h : o = 42 ∨ o = 41) : dC o k := Or.inl (by omega)
theorem begin_fr {σ : M2} : Fr dC σ (zw (up (up σ 41 8 0) 41 9 0) 42) := fun o k q => by
  rw [zw_ne (fun e => q (Or.inl (by omega))), up_ne (fun e => q (Or.inl (by omega))), up_ne (fun e => q (Or.inl (by omega)))]
theorem begins_fr {τ : M2} : Fr dM τ (zw τ 18) := fun o k q => by
  rw [zw_ne (fun e => q (Or.inl (by omega)))]
theorem m_comes {fu fu' : Nat} (hfu : 161 < fu) (hfu' : 161 < fu') (rr k : Int32) : Both (F11_comes fu rr k) (F12_comes fu' rr k) := by
  intro σ τ hR
  obtain ⟨n, r, t, w, hA⟩ := id hR
  obtain ⟨h, hrest⟩ := id hA
  obtain ⟨a1, a2, a3, a4, a5, a6, a7, a8, a9, a10, a11, a12⟩ := id h
  unfold F11_comes F12_comes
  rw [isRaceC a6, isRaceM a7, bnd_s, bnd_s]
  by_cases c0 : wi rr 0 (nI r - 1) = 0
  · rw [if_pos c0, if_pos c0]; exact ⟨_, _, _, rfl, rfl, hR⟩
  rw [if_neg c0, if_neg c0, fwi, gwi, bnd_s, bnd_s]
  by_cases c1 : wi k 0 7 = 0
  · rw [if_pos c1, if_pos c1]; exact ⟨_, _, _, rfl, rfl, hR⟩
  rw [if_neg c1, if_neg c1, begin_eq (by omega), begins_eq (by omega), bnd_s, bnd_s]
  obtain ⟨j, hj, rfl⟩ := wi_n (by omega) c0
  obtain ⟨q, hq, rfl⟩ := wi_m (n := 7) (by omega) c1
  obtain ⟨m, σ', τ', b1, b2, b3, b4, b5, b6, b7⟩ := line_rel (fu := fu) (fu' := fu') (h.fr begin_fr begins_fr) hj (fun z hz => by rw [zw_at (by omega), zw_at (by omega)]) hfu hfu'
  have hm8 : m ≤ 8 := Nat.le_trans b4.1 a1
  have hx : RA n r t w σ' τ' := hA.fr ((begin_fr.tr (b6.mono fun _ _ => lC_dC)).mono fun _ _ => dC_xC) ((begins_fr.tr (b7.mono fun _ _ => lM_dM)).mono fun _ _ => dM_xM)
  rw [b1, bnd_s, b2, bnd_s, b5]
  by_cases c2 : m ≤ q
  · rw [if_pos (nI_le c2 (by omega)), if_pos (nI_le c2 (by omega))]
    exact ⟨_, _, _, rfl, rfl, n, r, t, w, hx⟩
  · rw [if_neg (nI_ge (by omega) (by omega)), if_neg (nI_ge (by omega) (by omega)), fat (N := 8) (by decide) (by omega) (by omega), bnd_s, gd_t (inb_t (N := 8) (by omega) (by omega)), nI_c (by omega)]
    obtain ⟨c, hc, e1, e2, -⟩ := b4.2 q (by omega)
    rw [e1, e2]
    exact ⟨_, _, _, rfl, rfl, n, r, t, w, hx⟩
theorem m_does {fu fu' : Nat} (hfu : 161 < fu) (hfu' : 161 < fu') (c rr : Int32) : Both (F11_does fu c rr) (F12_does fu' c rr) := by
  intro σ τ hR
  obtain ⟨n, r, t, w, hA⟩ := id hR
  obtain ⟨h, hrest⟩ := id hA
  obtain ⟨a1, a2, a3, a4, a5, a6, a7, a8, a9, a10, a11, a12⟩ := id h
  unfold F11_does F12_does
  rw [isChildC a4, isChildM a5, bnd_s, bnd_s]
  by_cases c0 : wi c 0 (nI n - 1) = 0
  · rw [if_pos c0, if_pos c0]; exact ⟨_, _, _, rfl, rfl, hR⟩
  rw [if_neg c0, if_neg c0, isRaceC a6, isRaceM a7, bnd_s, bnd_s]
  by_cases c1 : wi rr 0 (nI r - 1) = 0
  · rw [if_pos c1, if_pos c1]; exact ⟨_, _, _, rfl, rfl, hR⟩
  rw [if_neg c1, if_neg c1, begins_eq (by omega), bnd_s]
  obtain ⟨j, hj, rfl⟩ := wi_n (by omega) c0
  obtain ⟨q, hq, rfl⟩ := wi_n (by omega) c1
  obtain ⟨told, s, σ', τ', b1, b2, b3, b4, b5⟩ := score_rel (fu := fu) (fu' := fu') (h.fr Fr.rf begins_fr) hj hq hfu hfu'
  rw [zw_at (by omega)] at b1
  rw [b1, bnd_s, b2, bnd_s, b3, bnd_s]
  exact ⟨_, _, _, rfl, rfl, n, r, t, w, hA.fr (b4.mono fun _ _ => sC_xC) ((begins_fr.tr (b5.mono fun _ _ => sM_dM)).mono fun _ _ => dM_xM)⟩
theorem run_eq {fu : Nat} {σ : M2} : F2_run fu σ = bnd (F2_runWithout fu (-1 : Int32) σ) (fun r1 s2 => some ((), s2)) := rfl
/-- a day as it is, in the relation -/
theorem day_rel {n r t w : Nat} {σ τ : M2} {fu fu' : Nat} (hA : RA n r t w σ τ) (hfu : 161 < fu) (hfu' : 161 < fu') : ∃ σ' τ', F2_run fu σ = some ((), σ') ∧ F12_goes fu' τ = some ((), τ') ∧ DR n r (-1) σ' τ' ∧ Fr dC σ σ' ∧ Fr dM τ τ' := by
  obtain ⟨σ', τ', b1, b2, b3, b4, b5⟩ := run_rel (left := -1) (fu := fu) (fu' := fu') hA.1 hA.2.2.2.2.2.2.1 hA.2.2.2.2.2.2.2.1 hfu hfu'
  exact ⟨σ', τ', by rw [run_eq, b1, bnd_s], b2, b3, b4, b5⟩
theorem emp_ext {f g : Nat → Int32} : ∀ n, (∀ q, q < n → f q = g q) → emp f n = emp g n
  | 0, _ => rfl
  | n + 1, h => by
    show (if f n = 0 then emp f n ||| ((1 : Int32) <<< (nI n &&& 31)) else emp f n) = (if g n = 0 then emp g n ||| ((1 : Int32) <<< (nI n &&& 31)) else emp g n)
    rw [h n (by omega), emp_ext n (fun q hq => h q (by omega))]
theorem noneWon_eq {n : Nat} {τ : M2} {fu : Nat} (hn : n ≤ 8) (h : τ 0 0 = nI n) (hfu : 9 < fu) : F12_noneWon fu τ = some (emp (τ 18) n, τ) := by
  unfold F12_noneWon F12_noneWon_4
  obtain ⟨r, h1, h2⟩ := sl2 (R := Int32 × M2) (fun q x1 x2 σ => ∃ c, q = n - c ∧ c ≤ n ∧ x2 = nI c ∧ x1 = emp (τ 18) c ∧ σ = τ) (fun r => r = (emp (τ 18) n, τ)) (b := fun (k4 : Int32 → Int32 → M2 → Option (Int32 × M2)) (x1 : Int32) (x2 : Int32) (σ : M2) => if (σ 0 0) ≤ x2 then some (x1, σ) else gd (inb x2 8) (if (σ 18 x2.toNatClampNeg) = 0 then F12_noneWon_29 fu k4 x2 ((1 : Int32) <<< (x2 &&& 31)) x1 σ else F12_noneWon_29 fu k4 x2 (0 : Int32) x1 σ)) (fun k q x1 x2 σ hI => by
    obtain ⟨c, rfl, hc, rfl, rfl, rfl⟩ := hI
    rw [h]
    by_cases hcn : n ≤ c
    · left
      obtain rfl : c = n := by omega
      rw [if_pos (nI_le (Nat.le_refl _) (by omega))]
      exact ⟨_, rfl, rfl⟩
    · right
      rw [if_neg (nI_ge (by omega) (by omega)), gd_t (inb_t (N := 8) (by omega) (by omega)), nI_c (by omega)]
      unfold F12_noneWon_29
      by_cases h0 : σ 18 c = 0
      · rw [if_pos h0]
        refine ⟨n - (c + 1), _, _, _, by omega, ⟨c + 1, rfl, by omega, by rw [nI_1], ?_, rfl⟩, rfl⟩
        show _ = (if σ 18 c = 0 then emp (σ 18) c ||| ((1 : Int32) <<< (nI c &&& 31)) else emp (σ 18) c)
        rw [if_pos h0]
      · rw [if_neg h0]
        refine ⟨n - (c + 1), _, _, _, by omega, ⟨c + 1, rfl, by omega, by rw [nI_1], ?_, rfl⟩, rfl⟩
        show _ = (if σ 18 c = 0 then emp (σ 18) c ||| ((1 : Int32) <<< (nI c &&& 31)) else emp (σ 18) c)
        rw [if_neg h0, Int32.or_zero]) n fu 0 0 τ (by omega) ⟨0, rfl, by omega, rfl, rfl, rfl⟩
  rw [h1, h2]
theorem m_day {fu fu' : Nat} (hfu : 161 < fu) (hfu' : 161 < fu') (what : Int32) : Both (F11_day fu what) (F12_day fu' what) := by
  intro σ τ hR
  obtain ⟨n, r, t, w, hA⟩ := id hR
  obtain ⟨h, hrest⟩ := id hA
  obtain ⟨a1, a2, a3, a4, a5, a6, a7, a8, a9, a10, a11, a12⟩ := id h
  have h9 : (9 : Int32) + nI n = nI (9 + n) := nI_add 9 n
  have hten : ∀ j, j < 9 → nI (10 + j) - (10 : Int32) = nI j := fun j _ => by
    rw [show (10 : Int32) = nI 10 from rfl, pk_sub (by omega), Nat.add_sub_cancel_left]
  -- the two tests of what
  have hcase : (¬ wi what 0 3 = 0 ∧ ∃ q, q ≤ 3 ∧ what = nI q) ∨ (wi what 0 3 = 0 ∧ ∃ j, j < n ∧ what = nI (10 + j)) ∨ (wi what 0 3 = 0 ∧ wi (what - 10) 0 (nI n - 1) = 0 ∧ wi what 10 (9 + nI n) = 0) := by
    by_cases c0 : wi what 0 3 = 0
    · right
      by_cases c1 : wi (what - 10) 0 (nI n - 1) = 0
      · right
        refine ⟨c0, c1, ?_⟩
        by_cases c2 : wi what 10 (9 + nI n) = 0
        · exact c2
        · exfalso
          obtain ⟨d1, d2⟩ := wi_1 c2
          rw [h9] at d2
          have e10 : (10 : Int32).toInt = 10 := rfl
          rw [Int32.lt_iff_toInt_lt] at d1 d2
          rw [nI_toInt (by omega)] at d2
          obtain ⟨z, hz, rfl⟩ := nI_of (x := what) (by rw [Int32.lt_iff_toInt_lt]; have e0 : (0 : Int32).toInt = 0 := rfl; omega)
          rw [nI_toInt hz] at d1 d2
          obtain ⟨j, rfl⟩ : ∃ j, z = 10 + j := ⟨z - 10, by omega⟩
          rw [hten j (by omega), wi_in (by omega) (by omega)] at c1
          exact absurd c1 (by decide)
      · left
        obtain ⟨j, hj, e⟩ := wi_n (by omega) c1
        refine ⟨c0, j, hj, ?_⟩
        have : what = nI j + 10 := by rw [← e, Int32.sub_add_cancel]
        rw [this, show (10 : Int32) = nI 10 from rfl, nI_add, Nat.add_comm]
    · exact Or.inl ⟨c0, wi_m (n := 3) (by omega) c0⟩
  obtain ⟨σ', τ', b1, b2, ⟨⟨d1, d2, d3⟩, d4, d5, d6⟩, b4, b5⟩ := day_rel (fu := fu) (fu' := fu') hA hfu hfu'
  have hR' : R σ' τ' := ⟨n, r, t, w, hA.fr (b4.mono fun _ _ => dC_xC) (b5.mono fun _ _ => dM_xM)⟩
  have hnw := noneWon_eq (τ := τ') (fu := fu') a1 (by rw [b5 0 0 (dM_no (by omega))]; exact a5) (by omega)
  unfold F11_day F12_day
  rw [fwi, gwi, bnd_s, bnd_s]
  rcases hcase with ⟨c0, q, hq, rfl⟩ | ⟨c0, j, hj, rfl⟩ | ⟨c0, c1, c2⟩
  · rw [if_neg c0, if_neg c0]
    unfold F11_day_24 F12_day_29
    rw [b1, b2, bnd_s, bnd_s]
    rcases (show q = 0 ∨ q = 1 ∨ q = 2 ∨ q = 3 by omega) with rfl | rfl | rfl | rfl
    · simp only [if_pos (show nI 0 = (0 : Int32) by decide)]
      rw [hnw, bnd_s, d5, emp_ext n (fun q hq => d1 q (by omega))]
      exact ⟨_, _, _, rfl, rfl, hR'⟩
    · simp only [if_neg (show ¬ nI 1 = (0 : Int32) by decide), if_pos (show nI 1 = (1 : Int32) by decide)]
      rw [d4]
      exact ⟨_, _, _, rfl, rfl, hR'⟩
    · simp only [if_neg (show ¬ nI 2 = (0 : Int32) by decide), if_neg (show ¬ nI 2 = (1 : Int32) by decide), if_pos (show nI 2 = (2 : Int32) by decide)]
      rw [d2]
      exact ⟨_, _, _, rfl, rfl, hR'⟩
    · simp only [if_neg (show ¬ nI 3 = (0 : Int32) by decide), if_neg (show ¬ nI 3 = (1 : Int32) by decide), if_neg (show ¬ nI 3 = (2 : Int32) by decide), if_pos (show nI 3 = (3 : Int32) by decide)]
      rw [d3]
      exact ⟨_, _, _, rfl, rfl, hR'⟩
  · have g2 : ¬ wi (nI (10 + j)) 10 (9 + nI n) = 0 := by
      rw [h9]
      unfold wi
      rw [if_neg (show ¬ nI (10 + j) < (10 : Int32) from nI_nlt (a := 10 + j) (b := 10) (by omega) (by omega)), if_neg (nI_nlt (by omega) (by omega))]
      decide
    rw [if_pos c0, if_pos c0, isChildC a4, bnd_s, hten j (by omega), wi_in (by omega) hj, if_neg (by decide), gwi, bnd_s, a5, if_neg g2]
    unfold F11_day_24 F12_day_29
    have ne : ∀ q, q < 10 → ¬ nI (10 + j) = nI q := fun q hq => nI_eqI (by omega) (by omega) (by omega)
    rw [b1, b2, bnd_s, bnd_s]
    simp only [if_neg (show ¬ nI (10 + j) = (0 : Int32) from ne 0 (by omega)), if_neg (show ¬ nI (10 + j) = (1 : Int32) from ne 1 (by omega)), if_neg (show ¬ nI (10 + j) = (2 : Int32) from ne 2 (by omega)), if_neg (show ¬ nI (10 + j) = (3 : Int32) from ne 3 (by omega))]
    rw [hten j (by omega), fat (N := 8) (by decide) (by omega) (by omega), bnd_s, gd_t (inb_t (N := 8) (by omega) (by omega)), nI_c (by omega), d1 j (by omega)]
    exact ⟨_, _, _, rfl, rfl, hR'⟩
  · rw [if_pos c0, if_pos c0, isChildC a4, bnd_s, if_pos c1, gwi, bnd_s, a5, if_pos c2]
    exact ⟨_, _, _, rfl, rfl, hR⟩
