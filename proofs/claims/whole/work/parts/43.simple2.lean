/-! child, race, enter, card, comes, does, day -/
theorem nI_lt8 {n : Nat} (h : n < 2 ^ 31) : nI n < 8 ↔ n < 8 := nI_ltI (b := 8) h (by omega)
theorem rem_nI {z d : Nat} (hz : z < 2 ^ 31) (h0 : 0 < d) (hd : d < 2 ^ 31) : nI z - nI z / nI d * nI d = nI (z % d) := pk_rem hz h0 hd
theorem m_child (sl : Int32) : Both (F11_child sl) (F12_child sl) := by
  intro σ τ hR
  obtain ⟨n, r, t, w, hA⟩ := id hR
  obtain ⟨h, hrest⟩ := id hA
  obtain ⟨a1, a2, a3, a4, a5, a6, a7, a8, a9, a10, a11, a12⟩ := id h
  unfold F11_child F12_child
  rw [fwi, gwi, bnd_s, bnd_s]
  by_cases c0 : wi sl 0 9999 = 0
  · rw [if_pos c0, if_pos c0]; exact ⟨_, _, _, rfl, rfl, hR⟩
  rw [if_neg c0, if_neg c0]
  obtain ⟨z, hz, rfl⟩ := wi_m (n := 9999) (by omega) c0
  have e1 : nI z / (100 : Int32) = nI (z / 100) := pk_div (d := 100) (by omega) (by omega) (by omega)
  have e2 : nI z - nI (z / 100) * (100 : Int32) = nI (z % 100) := by rw [← e1]; exact rem_nI (d := 100) (by omega) (by omega) (by omega)
  unfold F1_add
  rw [gd_t (by decide), a4, a5, e1, e2]
  by_cases hn : n < 8
  · rw [if_pos ((nI_lt8 (by omega)).mpr hn), if_neg (show ¬ nI n = (8 : Int32) from nI_eqI (b := 8) (by omega) (by omega) (by omega))]
    have k1 : crf 1 0 = 2 := rfl
    have k2 : crf 1 1 = 3 := rfl
    have k3 : crf 1 2 = 4 := rfl
    rw [k1, k2, k3, fset (N := 8) (by decide) hn (by omega), bnd_s, up_ne (o := 2) (a := 1) (by omega), a4, fset (N := 8) (by decide) hn (by omega), bnd_s, up_ne (o := 3) (a := 1) (by omega), up_ne (o := 2) (a := 1) (by omega), a4, fset (N := 8) (by decide) hn (by omega), bnd_s, up_ne (o := 4) (a := 1) (by omega), up_ne (o := 3) (a := 1) (by omega), up_ne (o := 2) (a := 1) (by omega), a4, bnd_s]
    have e00 : ∀ (s : M2) (k : Nat) (x : Int32), up s 1 k x 0 0 = s 0 0 := fun s k x => up_ne (by omega)
    have f1 := nI_c (j := 3 * n) (by omega)
    have f2 := nI_c (j := 3 * n + 1) (by omega)
    have f3 := nI_c (j := 3 * n + 2) (by omega)
    simp only [e00, a5, ix3, nI_1, ixp2, up_eq, nI_pred, f1, f2, f3]
    rw [gd_t (inb_t (N := 24) (by omega) (by omega)), gd_t (inb_t (N := 24) (by omega) (by omega)), gd_t (inb_t (N := 24) (by omega) (by omega))]
    refine ⟨_, _, _, rfl, rfl, n + 1, r, t, w, hA.ofD ⟨by omega, a2, a3, up_eq, up_eq, ?_, ?_, fun q hq => ?_, fun q hq => ?_, ?_, ?_, ?_⟩ (by omega) (Nat.le_refl _) hrest.1 (fun o q hq => ?_) (fun o q hq => ?_)⟩
    · simp only [up_at]; simpa using a6
    · simp only [up_at]; simpa using a7
    · unfold Kid
      simp only [up_at]
      by_cases hqn : q = n
      · subst hqn
        simp
        exact ⟨⟨z / 100, by omega, rfl⟩, ⟨z % 100, by omega, rfl⟩, ⟨0, by omega, rfl⟩⟩
      · have := a8 q (by omega)
        unfold Kid at this
        simp [hqn]
        rw [if_neg (by omega), if_neg (by omega), if_neg (by omega), if_neg (by omega), if_neg (by omega), if_neg (by omega), if_neg (by omega), if_neg (by omega), if_neg (by omega)]
        exact this
    · have := a9 q hq
      unfold Rac at this ⊢
      simp only [up_at]
      simp
      obtain ⟨b1, b2, b3, b4, b5, b6, ⟨y, b7, b8⟩, b9⟩ := this
      exact ⟨b1, b2, b3, b4, b5, b6, ⟨y, Nat.lt_of_lt_of_le b7 (Nat.pow_le_pow_right (by omega) (by omega)), b8⟩, b9⟩
    · simp only [up_at]; simpa using a10
    · simp only [up_at]; simpa using a11
    · refine a12.frx (funext fun q => ?_) (funext fun q => ?_) (fun q _ => ?_) (fun q _ => ?_)
      · rw [up_ne (by omega), up_ne (by omega), up_ne (by omega), up_ne (by omega)]
      · rw [up_ne (by omega), up_ne (by omega), up_ne (by omega), up_ne (by omega)]
      · rw [up_ne (by omega), up_ne (by omega), up_ne (by omega), up_ne (by omega)]
      · rw [up_ne (by omega), up_ne (by omega), up_ne (by omega), up_ne (by omega)]
    · rw [up_ne (by omega), up_ne (by omega), up_ne (by omega), up_ne (by omega)]
    · rw [up_ne (by omega), up_ne (by omega), up_ne (by omega), up_ne (by omega)]
  · obtain rfl : n = 8 := by omega
    rw [if_neg (by decide), if_pos (by decide), bnd_s]
    exact ⟨_, _, _, rfl, rfl, hR⟩
/-- one number of a race's changes -/
theorem RD.setR {n r w k : Nat} {x : Int32} {σ τ : M2} (h : RD n r w σ τ) (hk : k < r) (hx : ∃ z : Nat, z < 2 ^ n ∧ x = nI z) : RD n r w (up σ 8 k x) (up τ 4 (2 * k) x) := by
  obtain ⟨a1, a2, a3, a4, a5, a6, a7, a8, a9, a10, a11, a12⟩ := h
  refine ⟨a1, a2, a3, ?_, ?_, ?_, ?_, fun q hq => ?_, fun q hq => ?_, ?_, ?_, ?_⟩
  · rw [up_ne (by omega)]; exact a4
  · rw [up_ne (by omega)]; exact a5
  · rw [up_ne (by omega)]; exact a6
  · rw [up_ne (by omega)]; exact a7
  · have := a8 q hq
    unfold Kid at this ⊢
    rw [up_ne (by omega), up_ne (by omega), up_ne (by omega), up_ne (by omega), up_ne (by omega), up_ne (by omega)]
    exact this
  · have := a9 q hq
    unfold Rac at this ⊢
    simp only [up_at]
    by_cases hqk : q = k
    · subst hqk
      simp
      obtain ⟨b1, b2, b3, b4, b5, b6, b7, b8⟩ := this
      exact ⟨b1, b2, b4, b5, b6, hx, b8⟩
    · simp [hqk]
      try rw [if_neg (by omega)]
      try rw [if_neg (by omega)]
      exact this
  · rw [up_ne (by omega)]; exact a10
  · rw [up_ne (by omega)]; exact a11
  · exact a12.frx (funext fun q => up_ne (by omega)) (funext fun q => up_ne (by omega)) (fun q _ => up_ne (by omega)) (fun q _ => up_ne (by omega))
theorem RD.setB {n r w k : Nat} {x : Int32} {σ τ : M2} (h : RD n r w σ τ) (hk : k < r) (hx : ∃ z : Nat, z ≤ 3 ∧ x = nI z) : RD n r w (up σ 9 k x) (up τ 4 (2 * k + 1) x) := by
  obtain ⟨a1, a2, a3, a4, a5, a6, a7, a8, a9, a10, a11, a12⟩ := h
  refine ⟨a1, a2, a3, ?_, ?_, ?_, ?_, fun q hq => ?_, fun q hq => ?_, ?_, ?_, ?_⟩
  · rw [up_ne (by omega)]; exact a4
  · rw [up_ne (by omega)]; exact a5
  · rw [up_ne (by omega)]; exact a6
  · rw [up_ne (by omega)]; exact a7
  · have := a8 q hq
    unfold Kid at this ⊢
    rw [up_ne (by omega), up_ne (by omega), up_ne (by omega), up_ne (by omega), up_ne (by omega), up_ne (by omega)]
    exact this
  · have := a9 q hq
    unfold Rac at this ⊢
    simp only [up_at]
    by_cases hqk : q = k
    · subst hqk
      simp
      obtain ⟨b1, b2, b3, b4, b5, b6, b7, b8⟩ := this
      exact ⟨b1, b2, b3, b5, b6, b7, hx⟩
    · simp [hqk]
      rw [if_neg (show ¬ 2 * q = 2 * k + 1 by omega), if_neg (show ¬ 2 * q = 2 * k by omega)]
      exact this
  · rw [up_ne (by omega)]; exact a10
  · rw [up_ne (by omega)]; exact a11
  · exact a12.frx (funext fun q => up_ne (by omega)) (funext fun q => up_ne (by omega)) (fun q _ => up_ne (by omega)) (fun q _ => up_ne (by omega))
theorem m_enter (k what v : Int32) : Both (F11_enter k what v) (F12_enter k what v) := by
  intro σ τ hR
  obtain ⟨n, r, t, w, hA⟩ := id hR
  obtain ⟨h, hrest⟩ := id hA
  obtain ⟨a1, a2, a3, a4, a5, a6, a7, a8, a9, a10, a11, a12⟩ := id h
  unfold F11_enter F12_enter F12_enter_41 F12_enter_42
  rw [isRaceC a6, isRaceM a7, bnd_s, bnd_s]
  by_cases c0 : wi k 0 (nI r - 1) = 0
  · rw [if_pos c0, if_pos c0]; exact ⟨_, _, _, rfl, rfl, hR⟩
  rw [if_neg c0, if_neg c0]
  obtain ⟨j, hj, rfl⟩ := wi_n (by omega) c0
  obtain ⟨b1, b2, b3, b4, b5, b6, b7, b8⟩ := a9 j hj
  by_cases c1 : what = 0
  · rw [if_pos c1, if_pos c1, areC a4, areM a5, bnd_s, bnd_s]
    by_cases c2 : wi v 0 ((1 <<< (nI n &&& 31)) - 1) = 0
    · rw [if_pos c2, if_pos c2]
      unfold F11_enter_36
      rw [if_neg (by rw [c1]; decide)]
      exact ⟨_, _, _, rfl, rfl, hR⟩
    · rw [if_neg c2, if_neg c2, c1]
      obtain ⟨z, hz, rfl⟩ := are_n a1 c2
      rw [frep (N := 6) (by decide) (by omega) (by omega), bnd_s, show (0 : Int32) = nI 0 from rfl, ix2, nI_add, Nat.add_zero, gd_t (inb_t (N := 12) (by omega) (by omega)), nI_c (by omega), b3]
      exact ⟨_, _, _, rfl, rfl, n, r, t, w, hA.ofD (h.setR hj ⟨z, hz, rfl⟩) (Nat.le_refl _) (Nat.le_refl _) hrest.1 (fun o q hq => up_ne (by omega)) (fun o q hq => up_ne (by omega))⟩
  · rw [if_neg c1, if_neg c1]
    unfold F11_enter_36
    by_cases c2 : what = 1
    · rw [if_pos c2, if_pos c2, fwi, gwi, bnd_s, bnd_s]
      by_cases c3 : wi v 0 3 = 0
      · rw [if_pos c3, if_pos c3]; exact ⟨_, _, _, rfl, rfl, hR⟩
      · rw [if_neg c3, if_neg c3, if_neg (by decide), c2]
        obtain ⟨z, hz, rfl⟩ := wi_m (n := 3) (by omega) c3
        rw [frep (N := 6) (by decide) (by omega) (by omega), bnd_s, ix2, nI_1, gd_t (inb_t (N := 12) (by omega) (by omega)), nI_c (by omega), b4]
        exact ⟨_, _, _, rfl, rfl, n, r, t, w, hA.ofD (h.setB hj ⟨z, hz, rfl⟩) (Nat.le_refl _) (Nat.le_refl _) hrest.1 (fun o q hq => up_ne (by omega)) (fun o q hq => up_ne (by omega))⟩
    · rw [if_neg c2, if_neg c2]; exact ⟨_, _, _, rfl, rfl, hR⟩
theorem m_card (k what : Int32) : Both (F11_card k what) (F12_card k what) := by
  intro σ τ hR
  obtain ⟨n, r, t, w, hA⟩ := id hR
  obtain ⟨h, hrest⟩ := id hA
  obtain ⟨a1, a2, a3, a4, a5, a6, a7, a8, a9, a10, a11, a12⟩ := id h
  unfold F11_card F12_card
  rw [isRaceC a6, isRaceM a7, bnd_s, bnd_s]
  by_cases c0 : wi k 0 (nI r - 1) = 0
  · rw [if_pos c0, if_pos c0]; exact ⟨_, _, _, rfl, rfl, hR⟩
  rw [if_neg c0, if_neg c0, fwi, bnd_s, gwi]
  obtain ⟨j, hj, rfl⟩ := wi_n (by omega) c0
  obtain ⟨b1, b2, b3, b4, b5, b6, b7, b8⟩ := a9 j hj
  by_cases c1 : wi what 0 3 = 0
  · rw [if_pos c1]
    have hc := wi_0 c1
    have d0 : ¬ what = 0 := fun e => by subst e; revert c1; decide
    have d1 : ¬ what = 1 := fun e => by subst e; revert c1; decide
    have d2 : wi what 2 3 = 0 := by
      unfold wi
      rcases hc with q | q
      · rw [if_pos (by rw [Int32.lt_iff_toInt_lt] at q ⊢; have e0 : (0 : Int32).toInt = 0 := rfl; have e2 : (2 : Int32).toInt = 2 := rfl; omega)]
      · by_cases q2 : what < 2
        · rw [if_pos q2]
        · rw [if_neg q2, if_pos q]
    rw [if_neg d0, if_neg d1, bnd_s, if_pos d2]
    exact ⟨_, _, _, rfl, rfl, hR⟩
  · rw [if_neg c1]
    obtain ⟨q, hq, rfl⟩ := wi_m (n := 3) (by omega) c1
    have hrow : F5_row 5 (nI q) σ = some (6 + q, σ) := by
      rcases (show q = 0 ∨ q = 1 ∨ q = 2 ∨ q = 3 by omega) with rfl | rfl | rfl | rfl <;> rfl
    have hsh : csh (6 + q) = (0, 6) := by
      rcases (show q = 0 ∨ q = 1 ∨ q = 2 ∨ q = 3 by omega) with rfl | rfl | rfl | rfl <;> rfl
    rw [hrow, bnd_s, fat hsh (by omega) (by omega), bnd_s]
    rcases (show q = 0 ∨ q = 1 ∨ q = 2 ∨ q = 3 by omega) with rfl | rfl | rfl | rfl
    · rw [if_pos (by decide), gd_t (inb_t (N := 6) (by omega) (by omega)), nI_c (by omega), ← b1]
      exact ⟨_, _, _, rfl, rfl, hR⟩
    · rw [if_neg (by decide), if_pos (by decide), gd_t (inb_t (N := 6) (by omega) (by omega)), nI_c (by omega), ← b2]
      exact ⟨_, _, _, rfl, rfl, hR⟩
    · rw [if_neg (by decide), if_neg (by decide), bnd_s, if_neg (by decide), ix2, nI_add, show nI (2 * j + 2) - (2 : Int32) = nI (2 * j + 2) - nI 2 from rfl, pk_sub (by omega), Nat.add_sub_cancel, gd_t (inb_t (N := 12) (by omega) (by omega)), nI_c (by omega), ← b3]
      exact ⟨_, _, _, rfl, rfl, hR⟩
    · rw [if_neg (by decide), if_neg (by decide), bnd_s, if_neg (by decide), ix2, nI_add, show nI (2 * j + 3) - (2 : Int32) = nI (2 * j + 1 + 2) - nI 2 from rfl, pk_sub (by omega), Nat.add_sub_cancel, gd_t (inb_t (N := 12) (by omega) (by omega)), nI_c (by omega), ← b4]
      exact ⟨_, _, _, rfl, rfl, hR⟩
theorem m_race (km who : Int32) : Both (F11_race km who) (F12_race km who) := by
  intro σ τ hR
  obtain ⟨n, r, t, w, hA⟩ := id hR
  obtain ⟨h, hrest⟩ := id hA
  obtain ⟨a1, a2, a3, a4, a5, a6, a7, a8, a9, a10, a11, a12⟩ := id h
  unfold F11_race F12_race
  rw [fwi, gwi, bnd_s, bnd_s]
  by_cases c0 : wi km 0 59 = 0
  · rw [if_pos c0, if_pos c0]; exact ⟨_, _, _, rfl, rfl, hR⟩
  rw [if_neg c0, if_neg c0, areC a4, areM a5, bnd_s, bnd_s]
  by_cases c1 : wi who 0 ((1 <<< (nI n &&& 31)) - 1) = 0
  · rw [if_pos c1, if_pos c1]; exact ⟨_, _, _, rfl, rfl, hR⟩
  rw [if_neg c1, if_neg c1]
  obtain ⟨z, hz, rfl⟩ := wi_m (n := 59) (by omega) c0
  obtain ⟨y, hy, rfl⟩ := are_n a1 c1
  have e1 : nI z / (10 : Int32) = nI (z / 10) := pk_div (d := 10) (by omega) (by omega) (by omega)
  have e2 : nI z - nI (z / 10) * (10 : Int32) = nI (z % 10) := by rw [← e1]; exact rem_nI (d := 10) (by omega) (by omega) (by omega)
  unfold F5_add
  rw [gd_t (by decide), a6, a7, e1, e2]
  by_cases hr : r < 6
  · rw [if_pos (show nI r < (6 : Int32) from nI_lt (b := 6) hr (by omega)), if_neg (show ¬ nI r = (6 : Int32) from nI_eqI (b := 6) (by omega) (by omega) (by omega))]
    have k1 : crf 5 0 = 6 := rfl
    have k2 : crf 5 1 = 7 := rfl
    have k3 : crf 5 2 = 8 := rfl
    have k4 : crf 5 3 = 9 := rfl
    have e54 : ∀ (s : M2) (o k : Nat) (x : Int32), 6 ≤ o → up s o k x 5 4 = s 5 4 := fun s o k x ho => up_ne (by omega)
    rw [k1, k2, k3, k4, fset (N := 6) (by decide) hr (by omega), bnd_s, e54 _ _ _ _ (by omega), a6, fset (N := 6) (by decide) hr (by omega), bnd_s, e54 _ _ _ _ (by omega), e54 _ _ _ _ (by omega), a6, fset (N := 6) (by decide) hr (by omega), bnd_s, e54 _ _ _ _ (by omega), e54 _ _ _ _ (by omega), e54 _ _ _ _ (by omega), a6, fset (N := 6) (by decide) hr (by omega), bnd_s, e54 _ _ _ _ (by omega), e54 _ _ _ _ (by omega), e54 _ _ _ _ (by omega), e54 _ _ _ _ (by omega), a6, bnd_s]
    have e02 : ∀ (s : M2) (k : Nat) (x : Int32), up s 2 k x 0 2 = s 0 2 := fun s k x => up_ne (by omega)
    have e03 : ∀ (s : M2) (k : Nat) (x : Int32), up s 3 k x 0 2 = s 0 2 := fun s k x => up_ne (by omega)
    have e04 : ∀ (s : M2) (k : Nat) (x : Int32), up s 4 k x 0 2 = s 0 2 := fun s k x => up_ne (by omega)
    have f0 := nI_c (j := r) (by omega)
    have f1 := nI_c (j := 2 * r) (by omega)
    have f2 := nI_c (j := 2 * r + 1) (by omega)
    simp only [e02, e03, e04, a7, ix2, nI_1, up_eq, nI_pred, f0, f1, f2]
    rw [gd_t (inb_t (N := 6) (by omega) (by omega)), gd_t (inb_t (N := 12) (by omega) (by omega)), gd_t (inb_t (N := 12) (by omega) (by omega))]
    try rw [gd_t (inb_t (N := 6) (by omega) (by omega))]
    refine ⟨_, _, _, rfl, rfl, n, r + 1, t, w, hA.ofD ⟨a1, by omega, a3, ?_, ?_, up_eq, up_eq, fun q hq => ?_, fun q hq => ?_, ?_, ?_, ?_⟩ (Nat.le_refl _) (by omega) hrest.1 (fun o q hq => ?_) (fun o q hq => ?_)⟩
    · simp only [up_at]; simpa using a4
    · simp only [up_at]; simpa using a5
    · have := a8 q hq
      unfold Kid at this ⊢
      simp only [up_at]
      simpa using this
    · unfold Rac
      simp only [up_at]
      by_cases hqr : q = r
      · subst hqr
        simp
        exact ⟨⟨z / 10, by omega, rfl⟩, ⟨z % 10, by omega, rfl⟩, ⟨y, hy, rfl⟩, ⟨1, by omega, rfl⟩⟩
      · have := a9 q (by omega)
        unfold Rac at this
        simp [hqr]
        rw [if_neg (show ¬ 2 * q = 2 * r + 1 by omega), if_neg (show ¬ 2 * q = 2 * r by omega)]
        rw [if_neg (show ¬ 2 * q = 2 * r by omega), if_neg (show ¬ 2 * q + 1 = 2 * r by omega)]
        exact this
    · simp only [up_at]; simpa using a10
    · simp only [up_at]; simpa using a11
    · refine a12.frx (funext fun q => ?_) (funext fun q => ?_) (fun q _ => ?_) (fun q _ => ?_)
      · rw [up_ne (by omega), up_ne (by omega), up_ne (by omega), up_ne (by omega), up_ne (by omega)]
      · rw [up_ne (by omega), up_ne (by omega), up_ne (by omega), up_ne (by omega), up_ne (by omega)]
      · rw [up_ne (by omega), up_ne (by omega), up_ne (by omega), up_ne (by omega), up_ne (by omega)]
      · rw [up_ne (by omega), up_ne (by omega), up_ne (by omega), up_ne (by omega), up_ne (by omega)]
    · rw [up_ne (by omega), up_ne (by omega), up_ne (by omega), up_ne (by omega), up_ne (by omega)]
    · rw [up_ne (by omega), up_ne (by omega), up_ne (by omega), up_ne (by omega), up_ne (by omega)]
  · obtain rfl : r = 6 := by omega
    rw [if_neg (by decide), if_pos (by decide), bnd_s]
    exact ⟨_, _, _, rfl, rfl, hR⟩
