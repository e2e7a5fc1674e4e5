/-! let, spare, needs: the outer loops -/
theorem changed_rel {n r t w : Nat} {σ0 τ0 : M2} {fu fu' : Nat} {what cb mb : Int32} (hA : RA n r t w σ0 τ0) (hcm : (cb = 0 ∧ mb = 1) ∨ (cb = 1 ∧ mb = 0)) (hfu : 161 < fu) (hfu' : 161 < fu') :
    ∃ v σ' τ', F11_changingRunners fu what cb σ0 = some (v, σ') ∧ F12_changed fu' mb τ0 = some ((), τ') ∧ F12_toldBest what τ' = some (v, τ') ∧ RA n r t w σ' τ' := by
  have hmis := hA.2.2.2.2.2.2
  obtain ⟨σ1, σ2, τ2, s1, s2, s3, s4, s5, s6, s7⟩ := start_rel (fu := fu) (fu' := fu') hA.1 hmis.1 hmis.2.1 hfu hfu'
  have hr6 : r ≤ 6 := hA.1.2.1
  unfold F11_changingRunners F12_changed
  rw [s1, bnd_s, s2, bnd_s, s3, bnd_s]
  unfold F11_changingRunners_20 F12_changed_6
  have key := pl11 (R := Int32 × M2) (R' := Unit × M2) (fun q x2 σ x τ => ∃ k, q = r - k ∧ k ≤ r ∧ x2 = nI k ∧ x = nI k ∧ BR σ τ ∧ RD n r w σ τ ∧ Fr yC σ0 σ ∧ Fr yM τ0 τ)
    (fun p p' => F12_toldBest what p'.2 = some (p.1, p'.2) ∧ RA n r t w p.2 p'.2) (b := fun (k20 : Int32 → M2 → Option (Int32 × M2)) (x3 : Int32) (σ : M2) => if (σ 5 4) ≤ x3 then bnd (F0_tells what σ) (fun r2 s3 => some (r2, s3)) else bnd (F11_at 8 x3 σ) (fun r5 s6 => F11_changingRunners_47 fu k20 what cb x3 r5 (0 : Int32) s6))
    (b' := fun (k6 : Int32 → M2 → Option (Unit × M2)) (x2 : Int32) (σ : M2) => if (σ 0 2) ≤ x2 then some ((), σ) else gd (inb ((2 : Int32) * x2) 12) (F12_changed_26 fu' k6 mb x2 (σ 4 ((2 : Int32) * x2).toNatClampNeg) (0 : Int32) σ)) ?_ r fu fu' 0 σ2 0 τ2 (by omega) (by omega) ⟨0, rfl, by omega, rfl, rfl, s4, s5, s6, s7⟩
  · obtain ⟨⟨v, σ'⟩, ⟨⟨⟩, τ'⟩, a1, a2, a3, a4⟩ := key
    exact ⟨v, σ', τ', a1, a2, a3, a4⟩
  · intro k33 k19 q x2 σ x τ hI
    obtain ⟨k, rfl, hk, rfl, rfl, hB, hd, hf, hg⟩ := hI
    rw [hd.2.2.2.2.2.1, hd.2.2.2.2.2.2.1]
    by_cases hkr : r ≤ k
    · left
      obtain rfl : k = r := by omega
      rw [if_pos (nI_le (Nat.le_refl _) (by omega)), if_pos (nI_le (Nat.le_refl _) (by omega))]
      obtain ⟨v, v1, v2⟩ := tells_rel (what := what) hB
      rw [v1, bnd_s]
      exact ⟨_, _, rfl, rfl, v2, hA.fr (hf.mono fun _ _ => yC_xC) (hg.mono fun _ _ => yM_xM)⟩
    · right
      rw [if_neg (nI_ge (by omega) (by omega)), if_neg (nI_ge (by omega) (by omega)), fat (N := 6) (by decide) (by omega) (by omega), bnd_s, ix2, gd_t (inb_t (N := 12) (by omega) (by omega)), nI_c (by omega)]
      obtain ⟨σ', τ', u1, u2, u3, u4, u5, u6⟩ := changed_in (k := k) (fu := fu) (fu' := fu') (what := what) (cb := cb) (mb := mb) (k20 := k33) (k6 := k19) hd (by omega) (fun q hq => by rw [hg 22 q (yM_no (by omega))]; exact hmis.1 q hq) (by rw [hg 0 39 (yM_no (by omega))]; exact hmis.2.1) hB hcm hfu hfu'
      rw [u1, u2]
      exact ⟨r - (k + 1), _, _, _, _, by omega, ⟨k + 1, rfl, by omega, rfl, rfl, u3, u4, hf.tr u5, hg.tr u6⟩, rfl, rfl⟩
theorem m_let {fu fu' : Nat} (hfu : 161 < fu) (hfu' : 161 < fu') (what : Int32) : Both (F11_let fu what) (F12_let fu' what) := by
  intro σ0 τ0 hR
  obtain ⟨n, r, t, w, hA⟩ := id hR
  unfold F11_let F12_let
  rw [fwi, gwi, bnd_s, bnd_s]
  by_cases c0 : wi what 0 2 = 0
  · rw [if_pos c0, if_pos c0]; exact ⟨_, _, _, rfl, rfl, hR⟩
  rw [if_neg c0, if_neg c0]
  obtain ⟨v, σ', τ', v1, v2, v3, v4⟩ := changed_rel (fu := fu) (fu' := fu') (what := what) (cb := 0) (mb := 1) hA (Or.inl ⟨rfl, rfl⟩) hfu hfu'
  rw [v1, bnd_s, v2, bnd_s, v3, bnd_s]
  exact ⟨_, _, _, rfl, rfl, n, r, t, w, v4⟩
theorem m_spare {fu fu' : Nat} (hfu : 161 < fu) (hfu' : 161 < fu') (what : Int32) : Both (F11_spare fu what) (F12_spare fu' what) := by
  intro σ0 τ0 hR
  obtain ⟨n, r, t, w, hA⟩ := id hR
  unfold F11_spare F12_spare
  rw [fwi, gwi, bnd_s, bnd_s]
  by_cases c0 : wi what 0 2 = 0
  · rw [if_pos c0, if_pos c0]; exact ⟨_, _, _, rfl, rfl, hR⟩
  rw [if_neg c0, if_neg c0]
  obtain ⟨v, σ', τ', v1, v2, v3, v4⟩ := changed_rel (fu := fu) (fu' := fu') (what := what) (cb := 1) (mb := 0) hA (Or.inr ⟨rfl, rfl⟩) hfu hfu'
  rw [v1, bnd_s, v2, bnd_s, v3, bnd_s]
  exact ⟨_, _, _, rfl, rfl, n, r, t, w, v4⟩
theorem m_needs {fu fu' : Nat} (hfu : 161 < fu) (hfu' : 161 < fu') (c wins : Int32) : Both (F11_needs fu c wins) (F12_needs fu' c wins) := by
  intro σ0 τ0 hR
  obtain ⟨n, r, t, w, hA⟩ := id hR
  obtain ⟨h, hrest⟩ := id hA
  have hmis := hA.2.2.2.2.2.2
  obtain ⟨a1, a2, a3, a4, a5, a6, a7, a8, a9, a10, a11, a12⟩ := id h
  unfold F11_needs F12_needs
  rw [isChildC a4, isChildM a5, bnd_s, bnd_s]
  by_cases c0 : wi c 0 (nI n - 1) = 0
  · rw [if_pos c0, if_pos c0]; exact ⟨_, _, _, rfl, rfl, hR⟩
  rw [if_neg c0, if_neg c0, fwi, gwi, bnd_s, bnd_s]
  by_cases c1 : wi wins 0 6 = 0
  · rw [if_pos c1, if_pos c1]; exact ⟨_, _, _, rfl, rfl, hR⟩
  rw [if_neg c1, if_neg c1]
  obtain ⟨j, hj, rfl⟩ := wi_n (by omega) c0
  rw [fat (N := 8) (by decide) (by omega) (by omega), bnd_s, ix3, ixp2, gd_t (inb_t (N := 24) (by omega) (by omega)), nI_c (by omega)]
  unfold F11_needs_42 F12_needs_41
  have key := ep22 (R := Int32 × M2) (R' := Int32 × M2) (fun q x4 x5 σ y4 y5 τ => ∃ v, q = 100 - v ∧ v ≤ 100 ∧ x5 = nI v ∧ y5 = nI v ∧ x4 = y4 ∧ RD n r w σ τ ∧ Fr (fun o q => yC o q ∨ (o = 4 ∧ q = j)) σ0 σ ∧ Fr (fun o q => yM o q ∨ (o = 1 ∧ q = 3 * j + 2)) τ0 τ)
    (fun o o' => ∃ v σ' τ', o = some (v, σ') ∧ o' = some (v, τ') ∧ R σ' τ') (b := fun (k42 : Int32 → Int32 → M2 → Option (Int32 × M2)) (x4 : Int32) (x5 : Int32) (σ : M2) => if (99 : Int32) < x5 then F11_needs_100 fu (nI j) (σ0 4 j) x4 σ else if x4 = (-1 : Int32) then bnd (F11_set 4 (nI j) x5 σ) (fun r3 s4 => bnd (F2_run fu s4) (fun r6 s7 => bnd (F11_at 42 (nI j) s7) (fun r9 s10 => if r9 < wins then F11_needs_94 fu k42 (nI j) wins (σ0 4 j) x4 x5 s10 else F11_needs_94 fu k42 (nI j) wins (σ0 4 j) x5 x5 s10))) else F11_needs_100 fu (nI j) (σ0 4 j) x4 σ)
    (b' := fun (k41 : Int32 → Int32 → M2 → Option (Int32 × M2)) (x4 : Int32) (x5 : Int32) (σ : M2) => if (99 : Int32) < x5 then F12_needs_94 fu' (nI j) (τ0 1 (3 * j + 2)) x4 σ else if x4 = (-1 : Int32) then gd (inb (((3 : Int32) * nI j) + (2 : Int32)) 24) (bnd (F12_goes fu' (up σ 1 (((3 : Int32) * nI j) + (2 : Int32)).toNatClampNeg x5)) (fun r4 s5 => gd (inb (nI j) 8) (if (s5 18 (nI j).toNatClampNeg) < wins then F12_needs_86 fu' k41 (nI j) wins (τ0 1 (3 * j + 2)) x5 (-1 : Int32) s5 else F12_needs_86 fu' k41 (nI j) wins (τ0 1 (3 * j + 2)) x5 x5 s5))) else F12_needs_94 fu' (nI j) (τ0 1 (3 * j + 2)) x4 σ) ?_ 100 fu fu' (-1) 0 σ0 (-1) 0 τ0 (by omega) (by omega) ⟨0, rfl, by omega, rfl, rfl, rfl, h, Fr.rf, Fr.rf⟩
  · obtain ⟨v, σ', τ', k1, k2, k3⟩ := key
    exact ⟨v, σ', τ', k1, k2, k3⟩
  · intro k42 k41 q x4 x5 σ y4 y5 τ hI
    obtain ⟨v, rfl, hv, rfl, rfl, rfl, hd, hf, hg⟩ := hI
    have fin : ∃ u σ' τ', F11_needs_100 fu (nI j) (σ0 4 j) x4 σ = some (u, σ') ∧ F12_needs_94 fu' (nI j) (τ0 1 (3 * j + 2)) x4 τ = some (u, τ') ∧ R σ' τ' := by
      unfold F11_needs_100 F12_needs_94
      rw [fset (N := 8) (by decide) (by omega) (by omega), bnd_s, ix3, ixp2, gd_t (inb_t (N := 24) (by omega) (by omega)), nI_c (by omega)]
      have f1 : Fr yC σ0 (up σ 4 j (σ0 4 j)) := fr_back hf rfl
      have f2 : Fr yM τ0 (up τ 1 (3 * j + 2) (τ0 1 (3 * j + 2))) := fr_back hg rfl
      exact ⟨_, _, _, rfl, rfl, n, r, t, w, hA.fr (f1.mono fun _ _ => yC_xC) (f2.mono fun _ _ => yM_xM)⟩
    by_cases hv4 : v = 100
    · left
      subst hv4
      rw [if_pos (by decide), if_pos (by decide)]
      exact fin
    · have h3 : ¬ (99 : Int32) < nI v := nI_nlt (a := 99) (b := v) (by omega) (by omega)
      rw [if_neg h3, if_neg h3]
      by_cases hx : x4 = -1
      · right
        rw [if_pos hx, if_pos hx, fset (N := 8) (by decide) (by omega) (by omega), bnd_s, ix3, ixp2, gd_t (inb_t (N := 24) (by omega) (by omega)), nI_c (by omega)]
        have hd' := hd.setK hj (k := 2) (by omega) (x := nI v) ⟨v, by omega, rfl⟩
        obtain ⟨σ3, τ3, u1, u2, ⟨⟨d1, d2, d3⟩, d4, d5, d6⟩, u4, u5⟩ := run_rel (left := -1) (fu := fu) (fu' := fu') hd' (fun q hq => by rw [up_ne (by omega), hg 22 q (by rintro (z | z); exact yM_no (by omega) z; omega)]; exact hmis.1 q hq) (by rw [up_ne (by omega), hg 0 39 (by rintro (z | z); exact yM_no (by omega) z; omega)]; exact hmis.2.1) hfu hfu'
        have u1' : F2_run fu (up σ 4 j (nI v)) = some ((), σ3) := run_def u1
        have u2' : F12_goes fu' (up τ 1 (3 * j + 2) (nI v)) = some ((), τ3) := u2
        have f1 : Fr (fun o q => yC o q ∨ (o = 4 ∧ q = j)) σ0 σ3 := (hf.up (Or.inr ⟨rfl, rfl⟩)).tr (u4.mono fun o q z => Or.inl (Or.inl z))
        have f2 : Fr (fun o q => yM o q ∨ (o = 1 ∧ q = 3 * j + 2)) τ0 τ3 := (hg.up (Or.inr ⟨rfl, rfl⟩)).tr (u5.mono fun o q z => Or.inl (Or.inl z))
        have hd3 : RD n r w σ3 τ3 := hd'.fr u4 u5
        rw [u1', bnd_s, u2', bnd_s, fat (N := 8) (by decide) (by omega) (by omega), bnd_s, gd_t (inb_t (N := 8) (by omega) (by omega)), nI_c (by omega), d1 j (by omega)]
        unfold F11_needs_94 F12_needs_86
        by_cases hw : τ3 18 j < wins
        · rw [if_pos hw, if_pos hw]
          exact ⟨100 - (v + 1), _, _, _, _, _, _, by omega, ⟨v + 1, rfl, by omega, by rw [nI_1], by rw [nI_1], hx, hd3, f1, f2⟩, rfl, rfl⟩
        · rw [if_neg hw, if_neg hw]
          exact ⟨100 - (v + 1), _, _, _, _, _, _, by omega, ⟨v + 1, rfl, by omega, by rw [nI_1], by rw [nI_1], rfl, hd3, f1, f2⟩, rfl, rfl⟩
      · left
        rw [if_neg hx, if_neg hx]
        exact fin
