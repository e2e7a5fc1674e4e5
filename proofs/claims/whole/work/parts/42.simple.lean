/-! the plain calls -/
theorem m_count (what : Int32) : Both (F11_count what) (F12_count what) := by
  intro σ τ hR
  obtain ⟨n, r, t, w, h, hw, ht, ⟨s, s1, s2, s3, s4⟩, h5, h6, h7⟩ := id hR
  obtain ⟨a1, a2, a3, a4, a5, a6, a7, a8, a9, a10, a11, a12⟩ := h
  obtain ⟨t1, t2, t3, t4⟩ := ht
  unfold F11_count F12_count
  rw [a4, a5, a6, a7, t2, t3, a10, a11, s2, s3]
  by_cases c0 : what = 0
  · rw [if_pos c0, if_pos c0]; exact ⟨_, _, _, rfl, rfl, hR⟩
  rw [if_neg c0, if_neg c0]
  by_cases c0 : what = 1
  · rw [if_pos c0, if_pos c0]; exact ⟨_, _, _, rfl, rfl, hR⟩
  rw [if_neg c0, if_neg c0]
  by_cases c0 : what = 2
  · rw [if_pos c0, if_pos c0]; exact ⟨_, _, _, rfl, rfl, hR⟩
  rw [if_neg c0, if_neg c0]
  by_cases c0 : what = 3
  · rw [if_pos c0, if_pos c0]; exact ⟨_, _, _, rfl, rfl, hR⟩
  rw [if_neg c0, if_neg c0]
  by_cases c0 : what = 4
  · rw [if_pos c0, if_pos c0]; exact ⟨_, _, _, rfl, rfl, hR⟩
  rw [if_neg c0, if_neg c0]
  exact ⟨_, _, _, rfl, rfl, hR⟩
theorem rowC {k : Nat} {σ : M2} (hk : k ≤ 2) : F1_row 1 (nI k) σ = some (2 + k, σ) := by
  rcases (show k = 0 ∨ k = 1 ∨ k = 2 by omega) with rfl | rfl | rfl <;> rfl
theorem csh_row : ∀ k, k ≤ 2 → csh (2 + k) = (0, 8) := by decide
theorem ix3p {c k : Nat} : (3 : Int32) * nI c + nI k = nI (3 * c + k) := by rw [ix3, nI_add]
theorem Kid.row {σ τ : M2} {c k : Nat} (h : Kid σ τ c) (hk : k ≤ 2) : σ (2 + k) c = τ 1 (3 * c + k) ∧ in99 (σ (2 + k) c) := by
  rcases (show k = 0 ∨ k = 1 ∨ k = 2 by omega) with rfl | rfl | rfl
  · exact ⟨h.1, h.2.2.2.1⟩
  · exact ⟨h.2.1, h.2.2.2.2.1⟩
  · exact ⟨h.2.2.1, h.2.2.2.2.2⟩
theorem m_told (c what : Int32) : Both (F11_told c what) (F12_told c what) := by
  intro σ τ hR
  obtain ⟨n, r, t, w, h, -⟩ := id hR
  obtain ⟨a1, a2, a3, a4, a5, a6, a7, a8, a9, a10, a11, a12⟩ := h
  unfold F11_told F12_told
  rw [isChildC a4, isChildM a5, bnd_s, bnd_s]
  by_cases c0 : wi c 0 (nI n - 1) = 0
  · rw [if_pos c0, if_pos c0]; exact ⟨_, _, _, rfl, rfl, hR⟩
  rw [if_neg c0, if_neg c0, fwi, gwi, bnd_s, bnd_s]
  by_cases c1 : wi what 0 2 = 0
  · rw [if_pos c1, if_pos c1]; exact ⟨_, _, _, rfl, rfl, hR⟩
  rw [if_neg c1, if_neg c1]
  obtain ⟨j, hj, rfl⟩ := wi_n (by omega) c0
  obtain ⟨k, hk, rfl⟩ := wi_m (n := 2) (by omega) c1
  obtain ⟨e1, -⟩ := (a8 j hj).row hk
  rw [rowC hk, bnd_s, fat (csh_row k hk) (by omega) (by omega), bnd_s, ix3p, gd_t (inb_t (N := 24) (by omega) (by omega)), nI_c (by omega), e1]
  exact ⟨_, _, _, rfl, rfl, hR⟩
/-- one number of a child's changes -/
theorem RD.setK {n r w j k : Nat} {x : Int32} {σ τ : M2} (h : RD n r w σ τ) (hj : j < n) (hk : k ≤ 2) (hx : in99 x) : RD n r w (up σ (2 + k) j x) (up τ 1 (3 * j + k) x) := by
  obtain ⟨a1, a2, a3, a4, a5, a6, a7, a8, a9, a10, a11, a12⟩ := h
  refine ⟨a1, a2, a3, ?_, ?_, ?_, ?_, fun q hq => ?_, fun q hq => ?_, ?_, ?_, ?_⟩
  · rw [up_ne (by omega)]; exact a4
  · rw [up_ne (by omega)]; exact a5
  · rw [up_ne (by omega)]; exact a6
  · rw [up_ne (by omega)]; exact a7
  · have := a8 q hq
    unfold Kid at this ⊢
    simp only [up_at]
    by_cases hqj : q = j
    · subst hqj
      rcases (show k = 0 ∨ k = 1 ∨ k = 2 by omega) with rfl | rfl | rfl
      · simp; exact ⟨this.2.1, this.2.2.1, hx, this.2.2.2.2.1, this.2.2.2.2.2⟩
      · simp; exact ⟨this.1, this.2.2.1, this.2.2.2.1, hx, this.2.2.2.2.2⟩
      · simp; exact ⟨this.1, this.2.1, this.2.2.2.1, this.2.2.2.2.1, hx⟩
    · rw [if_neg (by omega), if_neg (by omega), if_neg (by omega), if_neg (by omega), if_neg (by omega), if_neg (by omega)]
      exact this
  · have := a9 q hq
    unfold Rac at this ⊢
    rw [up_ne (by omega), up_ne (by omega), up_ne (by omega), up_ne (by omega), up_ne (by omega), up_ne (by omega), up_ne (by omega), up_ne (by omega)]
    exact this
  · rw [up_ne (by omega)]; exact a10
  · rw [up_ne (by omega)]; exact a11
  · exact a12.frx (funext fun q => up_ne (by omega)) (funext fun q => up_ne (by omega)) (fun q _ => up_ne (by omega)) (fun q _ => up_ne (by omega))
/-- all but children, races and the law stay: the rest of the relation -/
theorem RA.ofD {n r t w n1 r1 w1 : Nat} {σ τ σ' τ' : M2} (h : RA n r t w σ τ) (hd : RD n1 r1 w1 σ' τ') (hn : n ≤ n1) (hr : r ≤ r1) (hw : w1 < t) (ec : ∀ o k, (o = 10 ∧ k = 1) ∨ (12 ≤ o ∧ o ≤ 37) ∨ (59 ≤ o ∧ o ≤ 76) ∨ (o = 0 ∧ 12 ≤ k ∧ k ≤ 13) → σ' o k = σ o k) (em : ∀ o k, (5 ≤ o ∧ o ≤ 14) ∨ o = 22 ∨ (o = 0 ∧ (k = 10 ∨ k = 7 ∨ k = 12 ∨ k = 39)) → τ' o k = τ o k) : RA n1 r1 t w1 σ' τ' := by
  obtain ⟨h1, h2, ⟨t1, t2, t3, t4⟩, h4, h5, h6, h7⟩ := h
  refine ⟨hd, hw, ⟨t1, ?_, ?_, fun i hi => (t4 i hi).frx (funext fun k => ec _ _ (by omega)) (funext fun k => ec _ _ (by omega)) (fun k _ => em _ _ (by omega)) (fun k _ => em _ _ (by omega))⟩, h4.fr (ec _ _ (by omega)) (em _ _ (by omega)) (fun k _ => ec _ _ (by omega)) (fun k _ => em _ _ (by omega)), fun i hi => (h5 i hi).fr (fun k => ec _ _ (by omega)) (fun k => ec _ _ (by omega)) (em _ _ (by omega)) (em _ _ (by omega)) (fun k _ => em _ _ (by omega)),
    h6.fr hn hr (Nat.le_refl _) (fun k a b => ec _ _ (by omega)) (em _ _ (by omega)) (fun o k a b => ec _ _ (by omega)) (fun o k a b => em _ _ (by omega)), h7.fr (fun k => em _ _ (by omega)) (em _ _ (by omega)) (fun k => em _ _ (by omega))⟩
  · rw [ec _ _ (by omega)]; exact t2
  · rw [em _ _ (by omega)]; exact t3
theorem m_put (c what v : Int32) : Both (F11_put c what v) (F12_put c what v) := by
  intro σ τ hR
  obtain ⟨n, r, t, w, hA⟩ := id hR
  obtain ⟨h, hrest⟩ := id hA
  obtain ⟨a1, a2, a3, a4, a5, a6, a7, a8, a9, a10, a11, a12⟩ := id h
  unfold F11_put F12_put
  rw [isChildC a4, isChildM a5, bnd_s, bnd_s]
  by_cases c0 : wi c 0 (nI n - 1) = 0
  · rw [if_pos c0, if_pos c0]; exact ⟨_, _, _, rfl, rfl, hR⟩
  rw [if_neg c0, if_neg c0, fwi, gwi, bnd_s, bnd_s]
  by_cases c1 : wi what 0 2 = 0
  · rw [if_pos c1, if_pos c1]; exact ⟨_, _, _, rfl, rfl, hR⟩
  rw [if_neg c1, if_neg c1, fwi, gwi, bnd_s, bnd_s]
  by_cases c2 : wi v 0 99 = 0
  · rw [if_pos c2, if_pos c2]; exact ⟨_, _, _, rfl, rfl, hR⟩
  rw [if_neg c2, if_neg c2]
  obtain ⟨j, hj, rfl⟩ := wi_n (by omega) c0
  obtain ⟨k, hk, rfl⟩ := wi_m (n := 2) (by omega) c1
  obtain ⟨z, hz, rfl⟩ := wi_m (n := 99) (by omega) c2
  obtain ⟨e1, -⟩ := (a8 j hj).row hk
  rw [rowC hk, bnd_s, frep (csh_row k hk) (by omega) (by omega), bnd_s, ix3p, gd_t (inb_t (N := 24) (by omega) (by omega)), nI_c (by omega), e1]
  refine ⟨_, _, _, rfl, rfl, n, r, t, w, hA.ofD (h.setK hj hk ⟨z, hz, rfl⟩) (Nat.le_refl _) (Nat.le_refl _) hrest.1 (fun o q hq => up_ne (by omega)) (fun o q hq => up_ne (by omega))⟩
theorem m_force (a : Int32) : Both (F11_force a) (F12_force a) := by
  intro σ τ hR
  obtain ⟨n, r, t, w, hA⟩ := id hR
  obtain ⟨h, hw, ⟨t1, t2, t3, t4⟩, hrest⟩ := id hA
  obtain ⟨a1, a2, a3, a4, a5, a6, a7, a8, a9, a10, a11, a12⟩ := id h
  unfold F11_force F12_force
  rw [t2, t3, fwi, gwi, bnd_s, bnd_s, a10, a11]
  by_cases c0 : wi a 0 (nI t - 1) = 0
  · rw [if_pos c0, if_pos c0]; exact ⟨_, _, _, rfl, rfl, hR⟩
  rw [if_neg c0, if_neg c0]
  obtain ⟨j, hj, rfl⟩ := wi_n (by omega) c0
  have hd : RD n r j (up σ 10 2 (nI j)) (up τ 0 11 (nI j)) := by
    refine ⟨a1, a2, by omega, ?_, ?_, ?_, ?_, fun q hq => ?_, fun q hq => ?_, up_eq, up_eq, (t4 j hj).frx (funext fun q => up_ne (by omega)) (funext fun q => up_ne (by omega)) (fun q _ => up_ne (by omega)) (fun q _ => up_ne (by omega))⟩
    · rw [up_ne (by omega)]; exact a4
    · rw [up_ne (by omega)]; exact a5
    · rw [up_ne (by omega)]; exact a6
    · rw [up_ne (by omega)]; exact a7
    · have := a8 q hq
      unfold Kid at this ⊢
      rw [up_ne (by omega), up_ne (by omega), up_ne (by omega), up_ne (by omega), up_ne (by omega), up_ne (by omega)]
      exact this
    · have := a9 q hq
      unfold Rac at this ⊢
      rw [up_ne (by omega), up_ne (by omega), up_ne (by omega), up_ne (by omega), up_ne (by omega), up_ne (by omega), up_ne (by omega), up_ne (by omega)]
      exact this
  exact ⟨_, _, _, rfl, rfl, n, r, t, j, hA.ofD hd (Nat.le_refl _) (Nat.le_refl _) hj (fun o q hq => up_ne (by omega)) (fun o q hq => up_ne (by omega))⟩
theorem sC_xC {o k : Nat} (h : sC o k) : xC o k := Or.inl (sC_dC h)
theorem sM_xM {o k : Nat} (h : sM o k) : xM o k := Or.inl (sM_dM h)
theorem m_asks {fu fu' : Nat} (hfu : 161 < fu) (hfu' : 161 < fu') (part c rr wins : Int32) : Both (F11_asks fu part c rr wins) (F12_asks fu' part c rr wins) := by
  intro σ τ hR
  obtain ⟨n, r, t, w, hA⟩ := id hR
  obtain ⟨h, hrest⟩ := id hA
  obtain ⟨a1, a2, a3, a4, a5, a6, a7, a8, a9, a10, a11, a12⟩ := id h
  unfold F11_asks F12_asks F11_asks_45 F11_asks_46
  rw [fwi, gwi, bnd_s, bnd_s]
  by_cases c0 : wi part 0 2 = 0
  · rw [if_pos c0, if_pos c0]; exact ⟨_, _, _, rfl, rfl, hR⟩
  rw [if_neg c0, if_neg c0, isChildC a4, isChildM a5, bnd_s, bnd_s]
  by_cases c1 : wi c 0 (nI n - 1) = 0
  · rw [if_pos c1, if_pos c1]; exact ⟨_, _, _, rfl, rfl, hR⟩
  rw [if_neg c1, if_neg c1]
  obtain ⟨k, hk, rfl⟩ := wi_m (n := 2) (by omega) c0
  obtain ⟨j, hj, rfl⟩ := wi_n (by omega) c1
  have key : (rr = -1 ∨ ∃ k, k < r ∧ rr = nI k) → ∃ v σ' τ', F11_asks_30 fu (nI k) (nI j) rr wins σ = some (v, σ') ∧ F12_asks_30 fu' (nI k) (nI j) rr wins τ = some (v, τ') ∧ R σ' τ' := by
    intro hrr
    unfold F11_asks_30 F12_asks_30 F11_asks_45 F11_asks_46
    rw [fwi, gwi, bnd_s, bnd_s]
    by_cases c2 : wi wins 0 6 = 0
    · rw [if_pos c2, if_pos c2]; exact ⟨_, _, _, rfl, rfl, hR⟩
    rw [if_neg c2, if_neg c2]
    obtain ⟨v, σ', τ', v1, v2, v3, v4, -, -⟩ := says_rel (p := k) (wins := wins) (fu := fu) (fu' := fu') h (by omega) hj hrr hfu hfu'
    rw [if_neg (by decide), v1, bnd_s, v2, bnd_s]
    exact ⟨_, _, _, rfl, rfl, n, r, t, w, hA.fr (v3.mono fun _ _ => sC_xC) (v4.mono fun _ _ => sM_xM)⟩
  by_cases c3 : rr = -1
  · rw [if_pos c3, if_pos c3]; exact key (Or.inl c3)
  rw [if_neg c3, if_neg c3, isRaceC a6, isRaceM a7, bnd_s, bnd_s]
  by_cases c4 : wi rr 0 (nI r - 1) = 0
  · rw [if_pos c4, if_pos c4]; exact ⟨_, _, _, rfl, rfl, hR⟩
  rw [if_neg c4, if_neg c4]
  obtain ⟨q, hq, e⟩ := wi_n (by omega) c4
  exact key (Or.inr ⟨q, hq, e⟩)
