section
/-! the class's way through all orders; order -/
theorem chk_0 : chk 0 0 = true := by decide +kernel
theorem first_0 : first 0 = true := by decide +kernel
theorem chk_any {r N : Nat} (h6 : r ≤ 6) (hN : N < r ^ r) (hp : isP r N = true) : chk r N = true := by
  rcases Nat.eq_zero_or_pos r with rfl | h
  · have e : (0 : Nat) ^ 0 = 1 := rfl
    rw [e] at hN
    obtain rfl : N = 0 := by omega
    exact chk_0
  · exact chk_all h h6 hN hp
def oC (o k : Nat) : Prop := yC o k ∨ o = 49 ∨ (51 ≤ o ∧ o ≤ 57)
theorem oC_xC {o k : Nat} (h : oC o k) : xC o k := by
  rcases h with h | h
  · exact yC_xC h
  · exact Or.inr (by omega)
theorem oC_no {o k : Nat} (h : o < 12 ∨ o = 48 ∨ o = 50 ∨ 58 ≤ o) : ¬ oC o k := by
  rintro (z | z)
  · exact yC_no (by omega) z
  · omega
def rC (o k : Nat) : Prop := dC o k ∨ (51 ≤ o ∧ o ≤ 57)
theorem rC_oC {o k : Nat} (h : rC o k) : oC o k := by
  rcases h with h | h
  · exact Or.inl (Or.inl h)
  · exact Or.inr (Or.inr h)
theorem rC_no {o k : Nat} (h : o < 12 ∨ (47 ≤ o ∧ o ≤ 50) ∨ 58 ≤ o) : ¬ rC o k := by
  rintro (z | z)
  · exact dC_no (by omega) z
  · omega
theorem kp_sh : ∀ k, k < 6 → csh (51 + k) = (0, 8) ∧ crf 50 k = 51 + k := by decide
theorem keepC {k : Nat} {σ : M2} {fu : Nat} (hk : k < 6) (hfu : 161 < fu) : F4_keepAhead fu (nI k) σ = some ((), up (cpr σ 42 (51 + k) 8) 57 k (σ 41 8)) := by
  obtain ⟨e1, e2⟩ := kp_sh k hk
  unfold F4_keepAhead
  rw [if_neg (nI_pos (by omega)), if_neg (show ¬ (6 : Int32) ≤ nI k from nI_ge (b := 6) (by omega) (by omega)), gd_t (inb_t (N := 6) (by omega) (by omega)), nI_c (by omega), e2, copyRow_eq (N := 8) (by decide) e1 (by omega) (by omega) (by omega), bnd_s, fset (N := 6) (by decide) hk (by omega), bnd_s, cpr_ne (by omega)]
/-- the day ahead of place j, as it is kept -/
def savC (fu' : Nat) (τs : M2) (p : Nat → Nat) (σ : M2) (j : Nat) : Prop := (∀ q, q < 8 → σ (51 + j) q = (wjn fu' τs p j).1 q) ∧ σ 57 j = (wjn fu' τs p j).2
theorem savC.fr {fu' : Nat} {τs : M2} {p : Nat → Nat} {σ σ' : M2} {j : Nat} (h : savC fu' τs p σ j) (e1 : ∀ q, σ' (51 + j) q = σ (51 + j) q) (e2 : σ' 57 j = σ 57 j) : savC fu' τs p σ' j := ⟨fun q hq => by rw [e1]; exact h.1 q hq, by rw [e2]; exact h.2⟩
theorem runFromC {n r w pl : Nat} {σ0 τs σ : M2} {p : Nat → Nat} {fu fu' : Nat} (h : RD n r w σ0 τs) (hp : ∀ k, k < r → p k < r) (hf : Fr oC σ0 σ) (ho : ∀ k, k < r → σ 49 k = nI (p k)) (hpl : pl ≤ r) (hpl6 : pl < 6) (hs : ∀ j, j ≤ pl → savC fu' τs p σ j) (hfu : 161 < fu) (hfu' : 161 < fu') :
    ∃ σ', F4_runFrom fu (nI pl) σ = some ((), σ') ∧ (σ' 41 10, σ' 41 8) = rsl fu' τs p r ∧ (∀ j, j < r → savC fu' τs p σ' j) ∧ Fr rC σ σ' := by
  have h6 : r ≤ 6 := h.2.1
  obtain ⟨e1, e2⟩ := kp_sh pl hpl6
  have key : ∃ q, F4_runFrom fu (nI pl) σ = some q ∧ ((q.2 41 10, q.2 41 8) = rsl fu' τs p r ∧ (∀ j, j < r → savC fu' τs p q.2 j) ∧ Fr rC σ q.2) := by
    unfold F4_runFrom F4_runFrom_51
    rw [if_neg (nI_pos (by omega)), if_neg (show ¬ (6 : Int32) ≤ nI pl from nI_ge (b := 6) (by omega) (by omega)), if_neg (show ¬ (6 : Int32) ≤ nI pl from nI_ge (b := 6) (by omega) (by omega)), gd_t (inb_t (N := 6) (by omega) (by omega)), nI_c (by omega), e2, copyRow_eq (N := 8) e1 (by decide) (by omega) (by omega) (by omega), bnd_s, cpr_ne (by omega)]
    unfold F4_runFrom_53
    refine sl1 (R := Unit × M2) (fun m x2 s => ∃ k, m = r - k ∧ pl ≤ k ∧ k ≤ r ∧ x2 = nI k ∧ (∀ q, q < 8 → s 42 q = (wjn fu' τs p k).1 q) ∧ s 41 8 = (wjn fu' τs p k).2 ∧ (∀ j, j < k → savC fu' τs p s j) ∧ Fr rC σ s) (fun q => (q.2 41 10, q.2 41 8) = rsl fu' τs p r ∧ (∀ j, j < r → savC fu' τs p q.2 j) ∧ Fr rC σ q.2) ?_ (r - pl) fu (nI pl) _ (by omega) ⟨pl, rfl, Nat.le_refl _, hpl, rfl, fun q hq => ?_, ?_, fun j hj => ?_, ?_⟩
    · intro k53 m x2 s hI
      obtain ⟨k, rfl, hk1, hk, rfl, hW, hJ, hsv, hfs⟩ := hI
      have hd : RD n r w s τs := h.fr2 ((hf.tr (hfs.mono fun _ _ => rC_oC)).mono fun _ _ => oC_xC) Fr.rf
      rw [hd.2.2.2.2.2.1]
      by_cases hkr : r ≤ k
      · left
        obtain rfl : k = r := by omega
        rw [if_pos (nI_le (Nat.le_refl _) (by omega))]
        obtain ⟨σ', a1, a2, a3⟩ := edC (fu := fu) (fu' := fu') hd hW hJ hfu hfu'
        rw [a1, bnd_s]
        exact ⟨_, rfl, a2, fun j hj => (hsv j hj).fr (fun q => a3 _ _ (by unfold eC sC; omega)) (a3 _ _ (by unfold eC sC; omega)), hfs.tr (a3.mono fun _ _ z => Or.inl (eC_dC z))⟩
      · right
        have hk6 : k < 6 := by omega
        have e49 : up (cpr s 42 (51 + k) 8) 57 k (s 41 8) 49 k = nI (p k) := by
          rw [up_ne (by omega), cpr_ne (by omega), hfs 49 k (rC_no (by omega))]; exact ho k (by omega)
        have hfs1 : Fr rC σ (up (cpr s 42 (51 + k) 8) 57 k (s 41 8)) := (hfs.tr (cpr_fr.mono fun o _ z => Or.inr (by omega))).up (Or.inr (by omega))
        have hd1 : RD n r w (up (cpr s 42 (51 + k) 8) 57 k (s 41 8)) τs := h.fr2 ((hf.tr (hfs1.mono fun _ _ => rC_oC)).mono fun _ _ => oC_xC) Fr.rf
        obtain ⟨m, σ1, σ', a1, a2, a3, a4, a5⟩ := stpC (W := (wjn fu' τs p k).1) (J := (wjn fu' τs p k).2) (fu := fu) (fu' := fu') hd1 (hp k (by omega)) (fun q hq => by rw [up_ne (by omega), cpr_ne (by omega)]; exact hW q hq) (by rw [up_ne (by omega), cpr_ne (by omega)]; exact hJ) hfu hfu'
        rw [if_neg (nI_ge (by omega) (by omega)), keepC hk6 hfu, bnd_s, fat (N := 6) (by decide) hk6 (by omega), bnd_s, e49, a1, bnd_s, a2, bnd_s]
        refine ⟨r - (k + 1), _, _, by omega, ⟨k + 1, rfl, by omega, by omega, by rw [nI_1], a3, a4, fun j hj => ?_, hfs1.tr (a5.mono fun _ _ z => Or.inl (gC_dC z))⟩, rfl⟩
        have g1 : ∀ q, σ' (51 + j) q = up (cpr s 42 (51 + k) 8) 57 k (s 41 8) (51 + j) q := fun q => a5 _ _ (by unfold gC lC sC; omega)
        have g2 : σ' 57 j = up (cpr s 42 (51 + k) 8) 57 k (s 41 8) 57 j := a5 _ _ (by unfold gC lC sC; omega)
        by_cases hjk : j = k
        · subst hjk
          refine ⟨fun q hq => ?_, ?_⟩
          · rw [g1, up_ne (by omega), cpr_in hq]; exact hW q hq
          · rw [g2, up_eq]; exact hJ
        · exact (hsv j (by omega)).fr (fun q => by rw [g1, up_ne (by omega), cpr_ne (by omega)]) (by rw [g2, up_ne (by omega), cpr_ne (by omega)])
    · rw [up_ne (by omega), cpr_in hq]; exact (hs pl (Nat.le_refl _)).1 q hq
    · rw [up_eq]; exact (hs pl (Nat.le_refl _)).2
    · exact (hs j (by omega)).fr (fun q => by rw [up_ne (by omega), cpr_ne (by omega)]) (by rw [up_ne (by omega), cpr_ne (by omega)])
    · exact (cpr_fr.mono fun o k z => Or.inl (Or.inl (by omega))).up (Or.inl (Or.inl (by omega)))
  obtain ⟨⟨⟨⟩, σ'⟩, k1, k2, k3, k4⟩ := key
  exact ⟨σ', k1, k2, k3, k4⟩
def dcl (p : Nat → Nat) : Nat → Nat
  | 0 => 0
  | k + 1 => dcl p k * 10 + p k + 1
theorem dcl_dsm {r N : Nat} (h6 : r ≤ 6) : dcl (dg r N) r = dsm r N r := by
  rcases (show r = 0 ∨ r = 1 ∨ r = 2 ∨ r = 3 ∨ r = 4 ∨ r = 5 ∨ r = 6 by omega) with rfl | rfl | rfl | rfl | rfl | rfl | rfl <;> simp [dcl, dsm, dg] <;> omega
theorem digC {r N : Nat} {σ : M2} {fu : Nat} (h6 : r ≤ 6) (h5 : σ 5 4 = nI r) (ho : ∀ k, k < r → σ 49 k = nI (dg r N k)) (hfu : 161 < fu) : F4_digits fu σ = some (nI (dsm r N r), σ) := by
  unfold F4_digits F4_digits_4
  refine el2 (R := Int32 × M2) (fun m x1 x2 s => ∃ k, m = r - k ∧ k ≤ r ∧ x1 = nI (dcl (dg r N) k) ∧ x2 = nI k ∧ s = σ) (fun q => q = some (nI (dsm r N r), σ)) ?_ r fu 0 0 σ (by omega) ⟨0, rfl, by omega, rfl, rfl, rfl⟩
  intro k4 m x1 x2 s hI
  obtain ⟨k, rfl, hk, rfl, rfl, rfl⟩ := hI
  rw [h5]
  by_cases hkr : r ≤ k
  · left
    obtain rfl : k = r := by omega
    rw [if_pos (nI_le (Nat.le_refl _) (by omega)), dcl_dsm h6]
  · right
    rw [if_neg (nI_ge (by omega) (by omega)), fat (N := 6) (by decide) (by omega) (by omega), bnd_s, ho k (by omega), show (10 : Int32) = nI 10 from rfl, pk_mul, nI_add, nI_1]
    exact ⟨r - (k + 1), _, _, _, by omega, ⟨k + 1, rfl, by omega, rfl, by rw [nI_1], rfl⟩, rfl⟩
theorem weigh40 {n r w : Nat} {σ0 τs σ : M2} {fu fu' : Nat} {fin : Int32 × Int32 × Int32} (h : RD n r w σ0 τs) (hf : Fr oC σ0 σ) (ho : ordC r (n0 r) σ) (h0 : first r = true) (hs : savC fu' τs (dg r (n0 r)) σ 0) (hfin : bf r (fun N => nI (dsm r N r)) (fun N => rsl fu' τs (dg r N) r) (r ^ r - n0 r) (n0 r) (bC σ) = fin) (hfu : 46656 < fu) (hfu' : 161 < fu') :
    ∃ σ', F4_weighAll_40 fu 0 0 σ = some ((), σ') ∧ bC σ' = fin ∧ Fr oC σ0 σ' := by
  have h6 : r ≤ 6 := h.2.1
  have hpw := pow66 h6
  unfold first at h0
  rw [Bool.and_eq_true, Bool.and_eq_true, Bool.and_eq_true] at h0
  obtain ⟨f1, f2, f3, -⟩ := h0
  have f2 := Nat.le_of_ble_eq_true f2
  have f3 := Nat.eq_of_beq_eq_true f3
  have key : ∃ q, F4_weighAll_40 fu 0 0 σ = some q ∧ (bC q.2 = fin ∧ Fr oC σ0 q.2) := by
    unfold F4_weighAll_40
    refine sl2 (R := Unit × M2) (fun m x2 x3 s => (∃ N pl, m = r ^ r - N ∧ x2 = nI pl ∧ x3 = nI (rk r N) ∧ isP r N = true ∧ N < r ^ r ∧ pl ≤ r ∧ pl < 6 ∧ Fr oC σ0 s ∧ ordC r N s ∧ (∀ j, j ≤ pl → savC fu' τs (dg r N) s j) ∧ bf r (fun N => nI (dsm r N r)) (fun N => rsl fu' τs (dg r N) r) (r ^ r - N) N (bC s) = fin) ∨ (m = 0 ∧ x2 = -1 ∧ bC s = fin ∧ Fr oC σ0 s)) (fun q => bC q.2 = fin ∧ Fr oC σ0 q.2) ?_ (r ^ r - n0 r) fu 0 0 σ (by omega) (Or.inl ⟨n0 r, 0, rfl, rfl, by rw [f3]; rfl, f1, f2, by omega, by omega, hf, ho, fun j hj => (show j = 0 by omega) ▸ hs, hfin⟩)
    intro k40 m x2 x3 s hI
    rcases hI with ⟨N, pl, rfl, rfl, rfl, hp, hN, hpl, hpl6, hfs, hord, hsv, hbf⟩ | ⟨rfl, rfl, hb, hfs⟩
    · right
      have hord2 : ∀ k, k < r → s 49 k = nI (dg r N k) := fun k hk => by rw [hord k (by omega), cmem_in hk]
      obtain ⟨s1, a1, a2, a3, a4⟩ := runFromC (fu := fu) (fu' := fu') h (fun k hk => dg_lt (N := N) (k := k) (by omega)) hfs hord2 hpl hpl6 hsv (by omega) hfu'
      have hfs1 : Fr oC σ0 s1 := hfs.tr (a4.mono fun _ _ => rC_oC)
      have e5 : ∀ t : M2, Fr oC σ0 t → t 5 4 = nI r := fun t ht => by rw [ht 5 4 (oC_no (by omega))]; exact h.2.2.2.2.2.1
      have hord3 : ordC r N s1 := fun k hk => by rw [a4 49 k (rC_no (by omega))]; exact hord k hk
      obtain ⟨s2, b1, b2, b3⟩ := wghC (x := nI (dsm r N r)) (σ := s1)
      have hfs2 : Fr oC σ0 s2 := hfs1.tr (b3.mono fun _ _ z => Or.inl (Or.inr z))
      obtain ⟨g0, v, s3, g1, g2, g3⟩ := goOn_next (fu := fu) h6 hN hp (σ := s2) (fun k hk => by rw [b3 49 k (by omega)]; exact hord3 k hk) (e5 s2 hfs2) (chk_any h6 hN hp) (by omega)
      have hfs3 : Fr oC σ0 s3 := hfs2.tr (g2.mono fun _ _ z => Or.inr (Or.inl z))
      have eb1 : bC s1 = bC s := by unfold bC; rw [a4 47 0 (rC_no (by omega)), a4 47 1 (rC_no (by omega)), a4 47 2 (rC_no (by omega))]
      have eb3 : bC s3 = wgh (bC s) (nI (dsm r N r)) (rsl fu' τs (dg r N) r) := by
        have : bC s3 = bC s2 := by unfold bC; rw [g2 47 0 (by omega), g2 47 1 (by omega), g2 47 2 (by omega)]
        rw [this, b2, eb1, a2]
      rw [if_neg (show ¬ (720 : Int32) ≤ nI (rk r N) from nI_ge (b := 720) g0 (by omega)), if_neg (nI_pos (by omega)), a1, bnd_s, digC h6 (e5 s1 hfs1) (fun k hk => by rw [hord3 k (by omega), cmem_in hk]) (by omega), bnd_s, b1, bnd_s, g1, bnd_s]
      rw [bf_next hN hp] at hbf
      rcases g3 with ⟨g4, rfl⟩ | ⟨g4, g5, pl', rfl, g6, g7, g8, g9⟩
      · refine ⟨0, _, _, _, by omega, Or.inr ⟨rfl, rfl, ?_, hfs3⟩, rfl⟩
        rw [← g4, Nat.sub_self] at hbf
        rw [eb3]
        exact hbf
      · obtain ⟨n1, n2, -⟩ := nx_le hN
        refine ⟨r ^ r - nx r N, _, _, _, by omega, Or.inl ⟨nx r N, pl', rfl, rfl, by rw [nI_1, g7], g5, g4, by omega, by omega, hfs3, g8, fun j hj => ?_, by rw [eb3]; exact hbf⟩, rfl⟩
        have hsv1 := a3 j (by omega)
        have hsv3 : savC fu' τs (dg r N) s3 j := hsv1.fr (fun q => by rw [g2 _ _ (by omega), b3 _ _ (by omega)]) (by rw [g2 _ _ (by omega), b3 _ _ (by omega)])
        unfold savC at hsv3 ⊢
        rw [wjn_ext (p := dg r (nx r N)) (p' := dg r N) j (fun i hi => g9 i (by omega))]
        exact hsv3
    · left
      by_cases c : (720 : Int32) ≤ x3
      · rw [if_pos c]; exact ⟨_, rfl, hb, hfs⟩
      · rw [if_neg c, if_pos (by decide)]; exact ⟨_, rfl, hb, hfs⟩
  obtain ⟨⟨⟨⟩, σ'⟩, k1, k2, k3⟩ := key
  exact ⟨σ', k1, k2, k3⟩
theorem weighAllC {n r w : Nat} {σ0 τs σ : M2} {fu fu' : Nat} (h : RD n r w σ0 τs) (hf : Fr yC σ0 σ) (hfu : 46656 < fu) (hfu' : 161 < fu') :
    ∃ σ', F4_weighAll fu σ = some ((), σ') ∧ bC σ' = bf r (fun N => nI (dsm r N r)) (fun N => rsl fu' τs (dg r N) r) (r ^ r) 0 (bC σ) ∧ Fr oC σ0 σ' := by
  have h6 : r ≤ 6 := h.2.1
  have h0 : first r = true := by
    rcases Nat.eq_zero_or_pos r with rfl | z
    · exact first_0
    · exact firsts r (by omega) z
  have key : ∃ s6, F4_weighAll fu σ = bnd (F2_begin fu s6) (fun _ s3 => bnd (F4_keepAhead fu 0 s3) (fun _ s6 => F4_weighAll_40 fu 0 0 s6)) ∧ (∀ k, k < 6 → s6 49 k = nI k) ∧ Fr (fun o _ => o = 49) σ s6 := by
    unfold F4_weighAll F4_weighAll_2
    refine el1 (R := Unit × M2) (fun m x2 s => ∃ k, m = 6 - k ∧ k ≤ 6 ∧ x2 = nI k ∧ (∀ j, j < k → s 49 j = nI j) ∧ Fr (fun o _ => o = 49) σ s) (fun q => ∃ s6, q = bnd (F2_begin fu s6) (fun _ s3 => bnd (F4_keepAhead fu 0 s3) (fun _ s6 => F4_weighAll_40 fu 0 0 s6)) ∧ (∀ k, k < 6 → s6 49 k = nI k) ∧ Fr (fun o _ => o = 49) σ s6) ?_ 6 fu 0 σ (by omega) ⟨0, rfl, by omega, rfl, fun j hj => by omega, Fr.rf⟩
    intro k2 m x2 s hI
    obtain ⟨k, rfl, hk, rfl, h1, hfs⟩ := hI
    by_cases hk6 : k = 6
    · left
      subst hk6
      rw [if_pos (by decide)]
      exact ⟨s, rfl, h1, hfs⟩
    · right
      rw [if_neg (show ¬ (6 : Int32) ≤ nI k from nI_ge (b := 6) (by omega) (by omega)), gd_t (inb_t (N := 6) (by omega) (by omega)), nI_c (by omega)]
      refine ⟨6 - (k + 1), _, _, by omega, ⟨k + 1, rfl, by omega, by rw [nI_1], fun j hj => ?_, hfs.up rfl⟩, rfl⟩
      by_cases hjk : j = k
      · rw [hjk, up_eq]
      · rw [up_ne (by omega)]; exact h1 j (by omega)
  obtain ⟨s6, k1, k2, k3⟩ := key
  have hz : ∀ o k, ¬ dC o k → zw (up (up s6 41 8 0) 41 9 0) 42 o k = s6 o k := fun o k q => begin_fr o k q
  have hk0 : F4_keepAhead fu 0 (zw (up (up s6 41 8 0) 41 9 0) 42) = some ((), up (cpr (zw (up (up s6 41 8 0) 41 9 0) 42) 42 (51 + 0) 8) 57 0 (zw (up (up s6 41 8 0) 41 9 0) 42 41 8)) := keepC (k := 0) (by omega) (by omega)
  have e7 : ∀ o k, ¬ rC o k → up (cpr (zw (up (up s6 41 8 0) 41 9 0) 42) 42 (51 + 0) 8) 57 0 (zw (up (up s6 41 8 0) 41 9 0) 42 41 8) o k = s6 o k := fun o k q => by
    have h1 : ¬ (51 ≤ o ∧ o ≤ 57) := fun z => q (Or.inr z)
    rw [up_ne (by omega), cpr_ne (by omega)]
    exact hz o k (fun z => q (Or.inl z))
  have hf7 : Fr oC σ0 (up (cpr (zw (up (up s6 41 8 0) 41 9 0) 42) 42 (51 + 0) 8) 57 0 (zw (up (up s6 41 8 0) 41 9 0) 42 41 8)) := fun o k q => by
    rw [e7 o k (fun z => q (rC_oC z)), k3 o k (fun z => q (Or.inr (Or.inl z)))]
    exact hf o k (fun z => q (Or.inl z))
  have h0' := h0
  unfold first at h0'
  rw [Bool.and_eq_true, Bool.and_eq_true, Bool.and_eq_true] at h0'
  obtain ⟨f1, f2, f3, f4⟩ := h0'
  have eb : bC (up (cpr (zw (up (up s6 41 8 0) 41 9 0) 42) 42 (51 + 0) 8) 57 0 (zw (up (up s6 41 8 0) 41 9 0) 42 41 8)) = bC σ := by
    unfold bC
    rw [e7 47 0 (rC_no (by omega)), e7 47 1 (rC_no (by omega)), e7 47 2 (rC_no (by omega)), k3 47 0 (by omega), k3 47 1 (by omega), k3 47 2 (by omega)]
  have hord : ordC r (n0 r) (up (cpr (zw (up (up s6 41 8 0) 41 9 0) 42) 42 (51 + 0) 8) 57 0 (zw (up (up s6 41 8 0) 41 9 0) 42 41 8)) := fun k hk => by
    rw [e7 49 k (rC_no (by omega)), k2 k hk]
    show _ = (if k < r then nI (dg r (n0 r) k) else nI k)
    by_cases hkr : k < r
    · rw [if_pos hkr, Nat.eq_of_beq_eq_true (List.all_eq_true.mp f4 k (List.mem_range.mpr hkr))]
    · rw [if_neg hkr]
  obtain ⟨σ', w1, w2, w3⟩ := weigh40 (fu := fu) (fu' := fu') h hf7 hord h0 ⟨fun q hq => by rw [up_ne (by omega), cpr_in hq, zw_at hq]; rfl, by rw [up_eq, zw_ne (by omega), up_ne (by omega), up_eq]; rfl⟩ rfl hfu hfu'
  refine ⟨σ', ?_, ?_, w3⟩
  · rw [k1, begin_eq (by omega), bnd_s, hk0, bnd_s]
    exact w1
  · rw [w2, eb, bf_skip (r ^ r) 0 (bC σ)]
    rfl
theorem asM {n r w : Nat} {σ τ τ2 : M2} {fu' : Nat} (h : RD n r w σ τ) (hturn : ∀ k, k < 6 → τ 22 k = nI k) (hdrop : τ 0 39 = -1) (ha : F12_asItIs fu' τ = some ((), τ2)) (hfu' : 161 < fu') : bM τ2 = (-1, rsl fu' τ id r) := by
  have h6 : r ≤ 6 := h.2.1
  obtain ⟨τ1, b1, b2, b3⟩ := goesP (p := id) h h (fun k hk => hk) (fun k hk => hturn k (by omega)) hdrop hfu'
  unfold F12_asItIs at ha
  rw [b1, bnd_s] at ha
  obtain ⟨-, rfl⟩ := s2_inj ha
  rw [← b2]
  unfold bM
  simp [up_at]
theorem m_order {fu fu' : Nat} (hfu : 46656 < fu) (hfu' : 46656 < fu') (what : Int32) : Both (F11_order fu what) (F12_order fu' what) := by
  intro σ0 τ0 hR
  obtain ⟨n, r, t, w, hA⟩ := id hR
  obtain ⟨h, hrest⟩ := id hA
  have hmis := hA.2.2.2.2.2.2
  have h6 : r ≤ 6 := h.2.1
  unfold F11_order F12_order
  rw [fwi, gwi, bnd_s, bnd_s]
  by_cases c0 : wi what 0 2 = 0
  · rw [if_pos c0, if_pos c0]; exact ⟨_, _, _, rfl, rfl, hR⟩
  rw [if_neg c0, if_neg c0]
  obtain ⟨σ1, σ2, τ2, s1, s2, s3, s4, s5, s6, s7⟩ := start_rel (fu := fu) (fu' := fu') h hmis.1 hmis.2.1 (by omega) (by omega)
  obtain ⟨σ3, w1, w2, w3⟩ := weighAllC (fu := fu) (fu' := fu') h s6 hfu (by omega)
  have eb : bC σ2 = bM τ2 := by
    obtain ⟨b1, b2, b3⟩ := s4
    unfold bC bM
    rw [b1, b2, b3]
  have e02 : τ2 0 2 = nI r := by rw [s7 0 2 (yM_no (by omega))]; exact h.2.2.2.2.2.2.1
  rw [s1, bnd_s, s2, bnd_s, s3, bnd_s, w1, bnd_s, e02]
  unfold F12_order_29
  have main : ∃ τ3, (if nI r = 0 then F12_order_32 fu' what 0 0 τ2 else F12_order_32 fu' what 1 0 τ2) = F12_order_84 fu' what 0 τ3 ∧ bM τ3 = bC σ3 ∧ Fr oM τ0 τ3 := by
    have g2 : Fr oM τ0 τ2 := s7.mono fun _ _ z => Or.inl z
    rcases Nat.eq_zero_or_pos r with rfl | hr
    · refine ⟨τ2, ?_, ?_, g2⟩
      · rw [if_pos (show nI 0 = 0 from rfl)]
        obtain ⟨q, rfl⟩ : ∃ q, fu' = q + 1 := ⟨fu' - 1, by omega⟩
        unfold F12_order_32
        show (if τ2 0 2 ≤ 0 then _ else _) = _
        rw [e02, if_pos (show nI 0 ≤ 0 by decide)]
        unfold F12_order_55
        exact rfl
      · rw [w2, eb]
        have e1 : ((0 : Nat) ^ 0) = 0 + 1 := rfl
        have e2 : isP 0 0 = true := by decide
        rw [e1, bf_t e2]
        have e3 := asM h hmis.1 hmis.2.1 s3 (show 161 < fu' by omega)
        show bM τ2 = wgh (bM τ2) (nI (dsm 0 0 0)) (rsl fu' τ0 (dg 0 0) 0)
        rw [e3]
        have e4 : rsl fu' τ0 (dg 0 0) 0 = rsl fu' τ0 id 0 := by
          unfold rsl
          rw [wjn_ext (p := dg 0 0) (p' := id) 0 (fun i hi => by omega)]
        rw [e4]
        unfold wgh
        dsimp only
        rw [if_neg (by rw [Int32.lt_iff_toInt_lt]; omega), if_pos rfl, if_pos (by rw [Int32.le_iff_toInt_le]; omega)]
    · obtain ⟨τ3, m1, m2, m3⟩ := order55 (what := what) (fu' := fu') h hr hmis.2.1 hfu' τ2 (bM τ2) g2 rfl
      refine ⟨τ3, ?_, by rw [w2, eb]; exact m2, m3⟩
      rw [if_neg (show ¬ nI r = 0 from nI_eqI (b := 0) (by omega) (by omega) (by omega)), order32 h6 e02 (by omega)]
      exact m1
  obtain ⟨τ3, m1, m2, m3⟩ := main
  obtain ⟨τ4, q1, q2, q3⟩ := order84 (τ0 := τ3) (fu' := fu') (what := what) (by omega)
  have hB : BR σ3 τ4 := by
    unfold bM bC at m2
    have m2' := m2
    simp only [Prod.mk.injEq] at m2'
    obtain ⟨x1, x2, x3⟩ := m2'
    exact ⟨by rw [q3 0 40 (by omega), x1], by rw [q3 0 41 (by omega), x2], by rw [q3 0 42 (by omega), x3]⟩
  obtain ⟨v, v1, v2⟩ := tells_rel (what := what) hB
  rw [m1, q1, v1, bnd_s, v2, bnd_s]
  refine ⟨_, _, _, rfl, rfl, n, r, t, w, hA.fr (w3.mono fun _ _ => oC_xC) (fun o k hz => ?_)⟩
  by_cases e : o = 22 ∧ k < 6
  · obtain ⟨rfl, e⟩ := e
    rw [q2 k e]
    exact (hmis.1 k e).symm
  · rw [q3 o k e]
    exact m3 o k (by
      rintro (z | z | z)
      · exact hz (yM_xM z)
      · exact e z
      · exact hz (Or.inr (by omega)))
end
