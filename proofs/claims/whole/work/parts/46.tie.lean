/-! tie, let, spare, needs -/
theorem fr_back {P : Nat → Nat → Prop} {σ σ1 : M2} {a b : Nat} {x : Int32} (h : Fr (fun o q => P o q ∨ (o = a ∧ q = b)) σ σ1) (hx : σ a b = x) : Fr P σ (up σ1 a b x) := fun o q hp => by
  by_cases e : o = a ∧ q = b
  · rw [e.1, e.2, up_eq]; exact hx.symm
  · rw [up_ne e]
    exact h o q (fun z => z.elim hp e)
theorem run_def {fu : Nat} {σ σ1 : M2} (h : F2_runWithout fu (-1 : Int32) σ = some ((), σ1)) : F2_run fu σ = some ((), σ1) := by rw [run_eq, h, bnd_s]
theorem ten_ix {k v : Nat} : ((10 : Int32) * nI k + nI v) = nI (10 * k + v) := by rw [show (10 : Int32) = nI 10 from rfl, pk_mul, nI_add]
theorem tie_in {n r w k : Nat} {σ0 τ0 : M2} {fu fu' : Nat} {what : Int32} {k33 : Int32 → M2 → Option (Int32 × M2)} {k19 : Int32 → M2 → Option (Int32 × M2)} (h : RD n r w σ0 τ0) (hk : k < r) (hturn : ∀ k, k < 6 → τ0 22 k = nI k) (hdrop : τ0 0 39 = -1) (hB : BR σ0 τ0) (hfu : 161 < fu) (hfu' : 161 < fu') :
    ∃ σ' τ', F11_tie_59 fu k33 what (nI k) (σ0 9 k) 0 σ0 = k33 (nI (k + 1)) σ' ∧ F12_tie_41 fu' k19 what (nI k) (τ0 4 (2 * k + 1)) 0 τ0 = k19 (nI (k + 1)) τ' ∧ BR σ' τ' ∧ RD n r w σ' τ' ∧ Fr yC σ0 σ' ∧ Fr yM τ0 τ' := by
  have hr6 : r ≤ 6 := h.2.1
  unfold F11_tie_59 F12_tie_41
  refine ep11 (R := Int32 × M2) (R' := Int32 × M2) (fun q x4 σ x τ => ∃ v, q = 4 - v ∧ v ≤ 4 ∧ x4 = nI v ∧ x = nI v ∧ BR σ τ ∧ RD n r w σ τ ∧ Fr (fun o q => yC o q ∨ (o = 9 ∧ q = k)) σ0 σ ∧ Fr (fun o q => yM o q ∨ (o = 4 ∧ q = 2 * k + 1)) τ0 τ)
    (fun o o' => ∃ σ' τ', o = k33 (nI (k + 1)) σ' ∧ o' = k19 (nI (k + 1)) τ' ∧ BR σ' τ' ∧ RD n r w σ' τ' ∧ Fr yC σ0 σ' ∧ Fr yM τ0 τ') ?_ 4 fu fu' 0 σ0 0 τ0 (by omega) (by omega) ⟨0, rfl, by omega, rfl, rfl, hB, h, Fr.rf, Fr.rf⟩
  intro k59 k41 q x4 σ x τ hI
  obtain ⟨v, rfl, hv, rfl, rfl, hB, hd, hf, hg⟩ := hI
  rw [ix2, nI_1 (2 * k), gd_t (inb_t (N := 12) (by omega) (by omega)), gd_t (inb_t (N := 12) (by omega) (by omega)), nI_c (by omega)]
  by_cases hv4 : v = 4
  · left
    subst hv4
    rw [if_pos (by decide), if_pos (by decide), fset (N := 6) (by decide) (by omega) (by omega), bnd_s, nI_1]
    obtain ⟨b1, b2, b3⟩ := hB
    have f1 : Fr yC σ0 (up σ 9 k (σ0 9 k)) := fr_back hf rfl
    have f2 : Fr yM τ0 (up τ 4 (2 * k + 1) (τ0 4 (2 * k + 1))) := fr_back hg rfl
    exact ⟨_, _, rfl, rfl, ⟨by rw [up_ne (by omega), up_ne (by omega)]; exact b1, by rw [up_ne (by omega), up_ne (by omega)]; exact b2, by rw [up_ne (by omega), up_ne (by omega)]; exact b3⟩, h.fr2 (f1.mono fun _ _ => yC_xC) (f2.mono fun _ _ => yM_xM), f1, f2⟩
  · right
    have h3 : ¬ (3 : Int32) < nI v := nI_nlt (a := 3) (b := v) (by omega) (by omega)
    rw [if_neg h3, if_neg h3, fset (N := 6) (by decide) (by omega) (by omega), bnd_s, ten_ix]
    have hd' := hd.setB hk (x := nI v) ⟨v, by omega, rfl⟩
    have hB' : BR (up σ 9 k (nI v)) (up τ 4 (2 * k + 1) (nI v)) := by
      obtain ⟨b1, b2, b3⟩ := hB
      exact ⟨by rw [up_ne (by omega), up_ne (by omega)]; exact b1, by rw [up_ne (by omega), up_ne (by omega)]; exact b2, by rw [up_ne (by omega), up_ne (by omega)]; exact b3⟩
    have e22 : ∀ q, τ 22 q = τ0 22 q := fun q => hg 22 q (by rintro (z | z); exact yM_no (by omega) z; omega)
    have e39 : τ 0 39 = τ0 0 39 := hg 0 39 (by rintro (z | z); exact yM_no (by omega) z; omega)
    obtain ⟨σ3, σ4, τ4, u1, u2, u3, u4, u5, u6, u7⟩ := try_rel (left := -1) (x := nI (10 * k + v)) (fu := fu) (fu' := fu') hd' (fun q hq => by rw [up_ne (by omega), e22]; exact hturn q hq) (by rw [up_ne (by omega), e39]; exact hdrop) hB' hfu hfu'
    rw [run_def u1, bnd_s, u2, bnd_s, u3, bnd_s]
    refine ⟨4 - (v + 1), _, _, _, _, by omega, ⟨v + 1, rfl, by omega, by rw [nI_1], by rw [nI_1], u4, u5, (hf.up (Or.inr ⟨rfl, rfl⟩)).tr (u6.mono fun o q z => Or.inl z), (hg.up (Or.inr ⟨rfl, rfl⟩)).tr (u7.mono fun o q z => Or.inl z)⟩, rfl, rfl⟩
theorem m_tie {fu fu' : Nat} (hfu : 161 < fu) (hfu' : 161 < fu') (what : Int32) : Both (F11_tie fu what) (F12_tie fu' what) := by
  intro σ0 τ0 hR
  obtain ⟨n, r, t, w, hA⟩ := id hR
  obtain ⟨h, hrest⟩ := id hA
  have hmis := hA.2.2.2.2.2.2
  unfold F11_tie F12_tie
  rw [fwi, gwi, bnd_s, bnd_s]
  by_cases c0 : wi what 0 2 = 0
  · rw [if_pos c0, if_pos c0]; exact ⟨_, _, _, rfl, rfl, hR⟩
  rw [if_neg c0, if_neg c0]
  obtain ⟨σ1, σ2, τ2, s1, s2, s3, s4, s5, s6, s7⟩ := start_rel (fu := fu) (fu' := fu') h hmis.1 hmis.2.1 hfu hfu'
  rw [s1, bnd_s, s2, bnd_s, s3, bnd_s]
  have hr6 : r ≤ 6 := h.2.1
  unfold F11_tie_33 F12_tie_19
  have key := pl11 (R := Int32 × M2) (R' := Int32 × M2) (fun q x2 σ x τ => ∃ k, q = r - k ∧ k ≤ r ∧ x2 = nI k ∧ x = nI k ∧ BR σ τ ∧ RD n r w σ τ ∧ Fr yC σ0 σ ∧ Fr yM τ0 τ)
    (fun p p' => p.1 = p'.1 ∧ R p.2 p'.2) (b := fun (k33 : Int32 → M2 → Option (Int32 × M2)) (x2 : Int32) (σ : M2) => if (σ 5 4) ≤ x2 then bnd (F0_tells what σ) (fun r2 s3 => some (r2, s3)) else bnd (F11_at 9 x2 σ) (fun r5 s6 => F11_tie_59 fu k33 what x2 r5 (0 : Int32) s6))
    (b' := fun (k19 : Int32 → M2 → Option (Int32 × M2)) (x2 : Int32) (σ : M2) => if (σ 0 2) ≤ x2 then bnd (F12_toldBest what σ) (fun r2 s3 => some (r2, s3)) else gd (inb (((2 : Int32) * x2) + (1 : Int32)) 12) (F12_tie_41 fu' k19 what x2 (σ 4 (((2 : Int32) * x2) + (1 : Int32)).toNatClampNeg) (0 : Int32) σ)) ?_ r fu fu' 0 σ2 0 τ2 (by omega) (by omega) ⟨0, rfl, by omega, rfl, rfl, s4, s5, s6, s7⟩
  · obtain ⟨⟨v, σ'⟩, ⟨v', τ'⟩, a1, a2, a3, a4⟩ := key
    have a3 : v = v' := a3
    subst a3
    exact ⟨v, σ', τ', a1, a2, a4⟩
  · intro k33 k19 q x2 σ x τ hI
    obtain ⟨k, rfl, hk, rfl, rfl, hB, hd, hf, hg⟩ := hI
    rw [hd.2.2.2.2.2.1, hd.2.2.2.2.2.2.1]
    by_cases hkr : r ≤ k
    · left
      obtain rfl : k = r := by omega
      rw [if_pos (nI_le (Nat.le_refl _) (by omega)), if_pos (nI_le (Nat.le_refl _) (by omega))]
      obtain ⟨v, v1, v2⟩ := tells_rel (what := what) hB
      rw [v1, bnd_s, v2, bnd_s]
      exact ⟨_, _, rfl, rfl, rfl, n, k, t, w, hA.fr (hf.mono fun _ _ => yC_xC) (hg.mono fun _ _ => yM_xM)⟩
    · right
      rw [if_neg (nI_ge (by omega) (by omega)), if_neg (nI_ge (by omega) (by omega)), fat (N := 6) (by decide) (by omega) (by omega), bnd_s, ix2, nI_1 (2 * k), gd_t (inb_t (N := 12) (by omega) (by omega)), nI_c (by omega)]
      obtain ⟨σ', τ', u1, u2, u3, u4, u5, u6⟩ := tie_in (k := k) (fu := fu) (fu' := fu') (what := what) (k33 := k33) (k19 := k19) hd (by omega) (fun q hq => by rw [hg 22 q (yM_no (by omega))]; exact hmis.1 q hq) (by rw [hg 0 39 (yM_no (by omega))]; exact hmis.2.1) hB hfu hfu'
      rw [u1, u2]
      exact ⟨r - (k + 1), _, _, _, _, by omega, ⟨k + 1, rfl, by omega, rfl, rfl, u3, u4, hf.tr u5, hg.tr u6⟩, rfl, rfl⟩
theorem xor_bit : ∀ n, n ≤ 8 → ∀ z, z < 2 ^ n → ∀ c, c < n → ∃ y, y < 2 ^ n ∧ nI z ^^^ ((1 : Int32) <<< (nI c &&& 31)) = nI y := by
  have key : ∀ n, n ≤ 8 → ∀ z, z < 2 ^ n → ∀ c, c < n → (z ^^^ (1 <<< c)) < 2 ^ n ∧ nI z ^^^ ((1 : Int32) <<< (nI c &&& 31)) = nI (z ^^^ (1 <<< c)) := by decide +kernel
  intro n hn z hz c hc
  exact ⟨_, (key n hn z hz c hc).1, (key n hn z hz c hc).2⟩
theorem changed_in {n r w k : Nat} {σ0 τ0 : M2} {fu fu' : Nat} {what cb mb : Int32} {k20 : Int32 → M2 → Option (Int32 × M2)} {k6 : Int32 → M2 → Option (Unit × M2)} (h : RD n r w σ0 τ0) (hk : k < r) (hturn : ∀ k, k < 6 → τ0 22 k = nI k) (hdrop : τ0 0 39 = -1) (hB : BR σ0 τ0) (hcm : (cb = 0 ∧ mb = 1) ∨ (cb = 1 ∧ mb = 0)) (hfu : 161 < fu) (hfu' : 161 < fu') :
    ∃ σ' τ', F11_changingRunners_47 fu k20 what cb (nI k) (σ0 8 k) 0 σ0 = k20 (nI (k + 1)) σ' ∧ F12_changed_26 fu' k6 mb (nI k) (τ0 4 (2 * k)) 0 τ0 = k6 (nI (k + 1)) τ' ∧ BR σ' τ' ∧ RD n r w σ' τ' ∧ Fr yC σ0 σ' ∧ Fr yM τ0 τ' := by
  have hr6 : r ≤ 6 := h.2.1
  have hn8 : n ≤ 8 := h.1
  obtain ⟨q1, q2, q3, q4, -, -, ⟨z, hz, q8⟩, -⟩ := h.2.2.2.2.2.2.2.2.1 k hk
  unfold F11_changingRunners_47 F12_changed_26
  refine ep11 (R := Int32 × M2) (R' := Unit × M2) (fun q x4 σ x τ => ∃ c, q = n - c ∧ c ≤ n ∧ x4 = nI c ∧ x = nI c ∧ BR σ τ ∧ RD n r w σ τ ∧ Fr (fun o q => yC o q ∨ (o = 8 ∧ q = k)) σ0 σ ∧ Fr (fun o q => yM o q ∨ (o = 4 ∧ q = 2 * k)) τ0 τ)
    (fun o o' => ∃ σ' τ', o = k20 (nI (k + 1)) σ' ∧ o' = k6 (nI (k + 1)) τ' ∧ BR σ' τ' ∧ RD n r w σ' τ' ∧ Fr yC σ0 σ' ∧ Fr yM τ0 τ') ?_ n fu fu' 0 σ0 0 τ0 (by omega) (by omega) ⟨0, rfl, by omega, rfl, rfl, hB, h, Fr.rf, Fr.rf⟩
  intro k47 k26 q x4 σ x τ hI
  obtain ⟨c, rfl, hc, rfl, rfl, hB, hd, hf, hg⟩ := hI
  rw [hd.2.2.2.1, hd.2.2.2.2.1, ix2, gd_t (inb_t (N := 12) (by omega) (by omega)), nI_c (by omega)]
  by_cases hcn : n ≤ c
  · left
    obtain rfl : c = n := by omega
    rw [if_pos (nI_le (Nat.le_refl _) (by omega)), if_pos (nI_le (Nat.le_refl _) (by omega)), fset (N := 6) (by decide) (by omega) (by omega), bnd_s, nI_1]
    obtain ⟨b1, b2, b3⟩ := hB
    have f1 : Fr yC σ0 (up σ 8 k (σ0 8 k)) := fr_back hf rfl
    have f2 : Fr yM τ0 (up τ 4 (2 * k) (τ0 4 (2 * k))) := fr_back hg rfl
    exact ⟨_, _, rfl, rfl, ⟨by rw [up_ne (by omega), up_ne (by omega)]; exact b1, by rw [up_ne (by omega), up_ne (by omega)]; exact b2, by rw [up_ne (by omega), up_ne (by omega)]; exact b3⟩, h.fr2 (f1.mono fun _ _ => yC_xC) (f2.mono fun _ _ => yM_xM), f1, f2⟩
  · right
    rw [if_neg (nI_ge (by omega) (by omega)), if_neg (nI_ge (by omega) (by omega)), ← q3]
    -- the turn where the runner changes
    have go : ∃ m x s y t, m < n - c ∧ (∃ c', m = n - c' ∧ c' ≤ n ∧ x = nI c' ∧ y = nI c' ∧ BR s t ∧ RD n r w s t ∧ Fr (fun o q => yC o q ∨ (o = 8 ∧ q = k)) σ0 s ∧ Fr (fun o q => yM o q ∨ (o = 4 ∧ q = 2 * k)) τ0 t) ∧ (bnd (F11_set 8 (nI k) (σ0 8 k ^^^ ((1 : Int32) <<< (nI c &&& 31))) σ) (fun r2 s3 => bnd (F2_run fu s3) (fun r5 s6 => bnd (F0_weigh (((10 : Int32) * nI k) + nI c) s6) (fun r8 s9 => F11_changingRunners_122 fu k20 k47 what cb (nI k) (σ0 8 k) (nI c) s9)))) = k47 x s ∧ (bnd (F12_tried fu' (((10 : Int32) * nI k) + nI c) (up τ 4 (2 * k) (σ0 8 k ^^^ ((1 : Int32) <<< (nI c &&& 31))))) (fun r3 s4 => F12_changed_78 fu' k6 k26 mb (nI k) (σ0 8 k) (nI c) s4)) = k26 y t := by
      obtain ⟨y, hy, ey⟩ := xor_bit n hn8 z hz c (by omega)
      rw [q8, ey, fset (N := 6) (by decide) (by omega) (by omega), bnd_s, ten_ix]
      have hd' := hd.setR hk (x := nI y) ⟨y, hy, rfl⟩
      have hB' : BR (up σ 8 k (nI y)) (up τ 4 (2 * k) (nI y)) := by
        obtain ⟨b1, b2, b3⟩ := hB
        exact ⟨by rw [up_ne (by omega), up_ne (by omega)]; exact b1, by rw [up_ne (by omega), up_ne (by omega)]; exact b2, by rw [up_ne (by omega), up_ne (by omega)]; exact b3⟩
      have e22 : ∀ q, τ 22 q = τ0 22 q := fun q => hg 22 q (by rintro (z | z); exact yM_no (by omega) z; omega)
      have e39 : τ 0 39 = τ0 0 39 := hg 0 39 (by rintro (z | z); exact yM_no (by omega) z; omega)
      obtain ⟨σ3, σ4, τ4, u1, u2, u3, u4, u5, u6, u7⟩ := try_rel (left := -1) (x := nI (10 * k + c)) (fu := fu) (fu' := fu') hd' (fun q hq => by rw [up_ne (by omega), e22]; exact hturn q hq) (by rw [up_ne (by omega), e39]; exact hdrop) hB' hfu hfu'
      rw [run_def u1, bnd_s, u2, bnd_s, u3, bnd_s]
      unfold F11_changingRunners_122 F12_changed_78
      exact ⟨n - (c + 1), _, _, _, _, by omega, ⟨c + 1, rfl, by omega, by rw [nI_1], by rw [nI_1], u4, u5, (hf.up (Or.inr ⟨rfl, rfl⟩)).tr (u6.mono fun o q z => Or.inl z), (hg.up (Or.inr ⟨rfl, rfl⟩)).tr (u7.mono fun o q z => Or.inl z)⟩, rfl, rfl⟩
    have stay : ∃ m x s y t, m < n - c ∧ (∃ c', m = n - c' ∧ c' ≤ n ∧ x = nI c' ∧ y = nI c' ∧ BR s t ∧ RD n r w s t ∧ Fr (fun o q => yC o q ∨ (o = 8 ∧ q = k)) σ0 s ∧ Fr (fun o q => yM o q ∨ (o = 4 ∧ q = 2 * k)) τ0 t) ∧ F11_changingRunners_122 fu k20 k47 what cb (nI k) (σ0 8 k) (nI c) σ = k47 x s ∧ F12_changed_78 fu' k6 k26 mb (nI k) (σ0 8 k) (nI c) τ = k26 y t := by
      unfold F11_changingRunners_122 F12_changed_78
      exact ⟨n - (c + 1), _, _, _, _, by omega, ⟨c + 1, rfl, by omega, by rw [nI_1], by rw [nI_1], hB, hd, hf, hg⟩, rfl, rfl⟩
    unfold F11_changingRunners_76 F12_changed_50
    rw [ix2, gd_t (inb_t (N := 12) (by omega) (by omega)), nI_c (by omega)]
    by_cases hb : bit (σ0 8 k) c
    · have hb' : (σ0 8 k >>> (nI c &&& 31)) &&& 1 = 1 := hb
      rw [has_t hb, bnd_s, hb']
      rcases hcm with ⟨rfl, rfl⟩ | ⟨rfl, rfl⟩
      · rw [if_neg (by decide), if_neg (by decide), if_neg (by decide), if_neg (by decide)]; exact stay
      · rw [if_pos rfl, if_pos rfl, if_pos rfl, if_pos rfl]; exact go
    · have hb' : (σ0 8 k >>> (nI c &&& 31)) &&& 1 = 0 := (bit_or _).resolve_right hb
      rw [has_f hb, bnd_s, hb']
      rcases hcm with ⟨rfl, rfl⟩ | ⟨rfl, rfl⟩
      · rw [if_neg (by decide), if_pos rfl, if_neg (by decide), if_pos rfl]; exact go
      · rw [if_pos rfl, if_neg (by decide), if_pos rfl, if_neg (by decide)]; exact stay
