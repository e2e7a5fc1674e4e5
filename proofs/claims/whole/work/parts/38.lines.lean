/-! lineUp() and runs() -/
theorem line_step {n r w k m c : Nat} {σ τ : M2} {fu fu' : Nat} {k7 : Int32 → M2 → Option (Unit × M2)} (h : RD n r w σ τ) (hk : k < r) (hc : c < n) (hwon : ∀ q, q < n → σ 42 q = τ 18 q) (hL : Line m c σ τ) (hran : τ 0 33 = nI m) (hfu : 161 < fu) (hfu' : 161 < fu') :
    ∃ told s σ1 σ2 τ1 τ2, F2_says fu (0 : Int32) (nI c) (nI k) (σ 42 c) σ = some (told, σ1) ∧ F2_scoreOf (nI c) (nI k) told σ1 = some (s, σ1) ∧ F2_comesBehind fu (nI m) (nI c) s σ1 = some ((), σ2) ∧ F12_scoreOf fu' (nI c) (nI k) τ = some (s, τ1) ∧
      F12_runs_48 fu' k7 (nI k) (nI c) ((up τ1 19 c s) 0 33) (up τ1 19 c s) = k7 (nI (c + 1)) τ2 ∧ Line (m + 1) (c + 1) σ2 τ2 ∧ τ2 0 33 = nI (m + 1) ∧ Fr lC σ σ2 ∧ Fr lM τ τ2 := by
  have hn8 : n ≤ 8 := h.1
  obtain ⟨hmc, hL⟩ := hL
  obtain ⟨told, s, σ1, τ1, v1, v2, v3, v4, v5⟩ := score_rel (fu := fu) (fu' := fu') h hc hk hfu hfu'
  obtain ⟨σ2, b1, b2, b3, b4⟩ := behind_eq (m := m) (c := c) (s := s) (σ0 := σ1) (fu := fu) (by omega) (by omega)
  have e43 : ∀ j, σ1 43 j = σ 43 j := fun j => v4 43 j (by unfold sC; omega)
  have e45 : ∀ j, σ1 45 j = σ 45 j := fun j => v4 45 j (by unfold sC; omega)
  have e20 : ∀ j, (up τ1 19 c s) 20 j = τ 20 j := fun j => by rw [up_ne (by omega)]; exact v5 20 j (by unfold sM; omega)
  have e19 : ∀ q, q < c → (up τ1 19 c s) 19 q = τ 19 q := fun q hq => by rw [up_ne (by omega)]; exact v5 19 q (by unfold sM; omega)
  have e33 : (up τ1 19 c s) 0 33 = nI m := by rw [up_ne (by omega), v5 0 33 (by unfold sM; omega)]; exact hran
  obtain ⟨τ2, r1, r2, r3, r4⟩ := runs48_eq (m := m) (c := c) (x1 := nI k) (τ0 := up τ1 19 c s) (fu := fu') (k7 := k7) (by omega) (by omega) (fun j hj => by
    obtain ⟨q, q1, -, q3, -⟩ := hL j hj
    exact ⟨q, q1, by rw [e20]; exact q3⟩) e33 (by omega)
  refine ⟨told, s, σ1, σ2, τ1, τ2, ?_, v2, b1, v3, ?_, ⟨by omega, ?_⟩, r3, ?_, ?_⟩
  · rw [hwon c hc]; exact v1
  · rw [e33]; exact r1
  · have hp : pos (fun j => (up τ1 19 c s) 19 ((up τ1 19 c s) 20 j).toNatClampNeg) ((up τ1 19 c s) 19 c) m = pos (σ1 45) s m := by
      rw [up_eq]
      refine pos_ext m fun j hj => ?_
      obtain ⟨q, q1, q2, q3, q4⟩ := hL j hj
      show (up τ1 19 c s) 19 ((up τ1 19 c s) 20 j).toNatClampNeg = σ1 45 j
      rw [e20, q3, nI_c (by omega), e19 q q1, e45, q4]
    rw [hp] at r2
    have e19' : ∀ a, τ2 19 a = (up τ1 19 c s) 19 a := fun a => r4 19 a (by omega)
    intro j hj
    rcases insAt_cases (pos_le (σ1 45) s m) hj (fun _ => True) with hx | ⟨q', hq', hx⟩
    · refine ⟨c, by omega, ?_, ?_, ?_⟩
      · rw [b2, hx]
      · rw [r2, hx]
      · rw [b3, hx, e19', up_eq]
    · obtain ⟨q, q1, q2, q3, q4⟩ := hL q' hq'
      refine ⟨q, by omega, ?_, ?_, ?_⟩
      · rw [b2, hx, e43, q2]
      · rw [r2, hx, e20, q3]
      · rw [b3, hx, e45, q4, e19', e19 q q1]
  · exact (v4.mono fun o k q => Or.inl q).tr (b4.mono fun o k q => Or.inr q)
  · have u1 : Fr lM τ (up τ1 19 c s) := (v5.mono fun o k q => Or.inl q).up (Or.inr (Or.inl rfl))
    exact u1.tr (r4.mono fun o k q => Or.inr (Or.inr q))
theorem line_rel {n r w k : Nat} {σ0 τ0 : M2} {fu fu' : Nat} (h : RD n r w σ0 τ0) (hk : k < r) (hwon : ∀ q, q < n → σ0 42 q = τ0 18 q) (hfu : 161 < fu) (hfu' : 161 < fu') :
    ∃ m σ' τ', F2_lineUp fu (nI k) σ0 = some (nI m, σ') ∧ F12_runs fu' (nI k) τ0 = some ((), τ') ∧ m = cnt (σ0 8 k) n ∧ Line m n σ' τ' ∧ τ' 0 33 = nI m ∧ Fr lC σ0 σ' ∧ Fr lM τ0 τ' := by
  obtain ⟨h1, h2, h3, h4, h5, h6, h7, h8, h9, h10, h11, h12⟩ := id h
  obtain ⟨q1, q2, q3, q4, -, -, -, -⟩ := h9 k hk
  unfold F2_lineUp F12_runs F2_lineUp_17 F12_runs_7
  rw [fat (N := 6) (by decide) (by omega) (by omega), bnd_s]
  have hg0 : Fr lM τ0 (up τ0 0 33 (0 : Int32)) := Fr.rf.up (Or.inr (Or.inr (Or.inr ⟨rfl, rfl⟩)))
  have key := pl21 (R := Int32 × M2) (R' := Unit × M2) (fun q x3 x4 σ x2 τ => ∃ c m, q = n - c ∧ c ≤ n ∧ x3 = nI m ∧ x4 = nI c ∧ x2 = nI c ∧ m = cnt (σ0 8 k) c ∧ Line m c σ τ ∧ τ 0 33 = nI m ∧ Fr lC σ0 σ ∧ Fr lM τ0 τ)
    (fun r r' => ∃ m, r.1 = nI m ∧ m = cnt (σ0 8 k) n ∧ Line m n r.2 r'.2 ∧ r'.2 0 33 = nI m ∧ Fr lC σ0 r.2 ∧ Fr lM τ0 r'.2) (b := fun (k17 : Int32 → Int32 → M2 → Option (Int32 × M2)) (x3 : Int32) (x4 : Int32) (σ : M2) => if (σ 1 3) ≤ x4 then some (x3, σ) else bnd (F11_has (σ0 8 k) x4 σ) (fun r2 s3 => if r2 = 0 then F2_lineUp_72 fu k17 (nI k) (σ0 8 k) x3 x4 s3 else bnd (F11_at 42 x4 s3) (fun r6 s7 => bnd (F2_says fu (0 : Int32) x4 (nI k) r6 s7) (fun r9 s10 => bnd (F2_scoreOf x4 (nI k) r9 s10) (fun r12 s13 => bnd (F2_comesBehind fu x3 x4 r12 s13) (fun r15 s16 => F2_lineUp_72 fu k17 (nI k) (σ0 8 k) (x3 + (1 : Int32)) x4 s16))))))
    (b' := fun (k7 : Int32 → M2 → Option (Unit × M2)) (x2 : Int32) (σ : M2) => if (σ 0 0) ≤ x2 then some ((), σ) else gd (inb ((2 : Int32) * nI k) 12) (if (((σ 4 ((2 : Int32) * nI k).toNatClampNeg) >>> (x2 &&& 31)) &&& (1 : Int32)) = (1 : Int32) then bnd (F12_scoreOf fu' x2 (nI k) σ) (fun r4 s5 => gd (inb x2 8) (F12_runs_48 fu' k7 (nI k) x2 ((up s5 19 x2.toNatClampNeg r4) 0 33) (up s5 19 x2.toNatClampNeg r4))) else F12_runs_111 fu' k7 (nI k) x2 σ)) ?_ n fu fu' (nI 0) (nI 0) σ0 (nI 0) (up τ0 0 33 (0 : Int32)) (by omega) (by omega) ⟨0, 0, rfl, by omega, rfl, rfl, rfl, rfl, ⟨by omega, fun j hj => by omega⟩, up_eq, Fr.rf, hg0⟩
  · obtain ⟨⟨x, σ'⟩, ⟨⟨⟩, τ'⟩, a1, a2, m, rfl, a4, a5, a6, a7, a8⟩ := key
    exact ⟨m, σ', τ', a1, a2, a4, a5, a6, a7, a8⟩
  · intro k17 k7 q x3 x4 σ x2 τ hI
    obtain ⟨c, m, rfl, hc, rfl, rfl, rfl, hmc, hL, h33, hf, hg⟩ := hI
    have h' : RD n r w σ τ := h.fr (hf.mono fun _ _ => lC_dC) (hg.mono fun _ _ => lM_dM)
    have hwon' : ∀ q, q < n → σ 42 q = τ 18 q := fun q hq => by
      rw [hf 42 q (by unfold lC sC; omega), hg 18 q (by unfold lM sM; omega)]; exact hwon q hq
    have e13 : σ 1 3 = nI n := h'.2.2.2.1
    have e00 : τ 0 0 = nI n := h'.2.2.2.2.1
    have e4 : τ 4 (2 * k) = σ0 8 k := by rw [hg 4 _ (by unfold lM sM; omega), q3]
    rw [e13, e00]
    by_cases hcn : n ≤ c
    · left
      obtain rfl : c = n := by omega
      rw [if_pos (nI_le (Nat.le_refl _) (by omega)), if_pos (nI_le (Nat.le_refl _) (by omega))]
      exact ⟨_, _, rfl, rfl, m, rfl, hmc, hL, h33, hf, hg⟩
    · right
      have hcl : c < n := by omega
      rw [if_neg (nI_ge hcl (by omega)), if_neg (nI_ge hcl (by omega)), ix2, gd_t (inb_t (N := 12) (by omega) (by omega)), nI_c (by omega), e4]
      by_cases hb : bit (σ0 8 k) c
      · obtain ⟨told, s, σ1, σ2, τ1, τ2, w1, w2, w3, w4, w5, w6, w7, w8, w9⟩ := line_step (fu := fu) (fu' := fu') (k7 := k7) h' hk hcl hwon' hL h33 hfu hfu'
        refine ⟨n - (c + 1), nI (m + 1), nI (c + 1), σ2, nI (c + 1), τ2, by omega, ⟨c + 1, m + 1, rfl, by omega, rfl, rfl, rfl, ?_, w6, w7, hf.tr w8, hg.tr w9⟩, ?_, ?_⟩
        · rw [cnt_t hb, hmc]
        · rw [has_t hb, bnd_s, if_neg (by decide), fat (N := 8) (by decide) (by omega) (by omega), bnd_s, w1, bnd_s, w2, bnd_s, w3, bnd_s]
          unfold F2_lineUp_72
          rw [nI_1, nI_1]
        · have hb' : (σ0 8 k >>> (nI c &&& 31)) &&& 1 = 1 := hb
          rw [if_pos hb', w4, bnd_s, gd_t (inb_t (N := 8) (by omega) (by omega)), nI_c (by omega)]
          exact w5
      · refine ⟨n - (c + 1), nI m, nI (c + 1), σ, nI (c + 1), τ, by omega, ⟨c + 1, m, rfl, by omega, rfl, rfl, rfl, ?_, ⟨by have := hL.1; omega, fun j hj => ?_⟩, h33, hf, hg⟩, ?_, ?_⟩
        · rw [cnt_f hb]; exact hmc
        · obtain ⟨q, a1, a2⟩ := hL.2 j hj
          exact ⟨q, by omega, a2⟩
        · rw [has_f hb, bnd_s, if_pos rfl]
          unfold F2_lineUp_72
          rw [nI_1]
        · have hb' : ¬ (σ0 8 k >>> (nI c &&& 31)) &&& 1 = 1 := hb
          rw [if_neg hb']
          unfold F12_runs_111
          rw [nI_1]
