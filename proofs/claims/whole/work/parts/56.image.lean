section
/-! image, back -/
theorem RD.of2 {n r w : Nat} {σ τ σ' τ' : M2} (h : RD n r w σ τ) (c : ∀ o k, (0 < o ∧ o < 12) → σ' o k = σ o k) (ct : ∀ i, i < 6 → σ' (13 + 4 * i) = σ (13 + 4 * i) ∧ σ' (14 + 4 * i) = σ (14 + 4 * i)) (m : ∀ o k, (0 < o ∧ o < 8) → τ' o k = τ o k) (m0 : ∀ k, k = 0 ∨ k = 2 ∨ k = 11 → τ' 0 k = τ 0 k) : RD n r w σ' τ' := by
  obtain ⟨h1, h2, h3, h4, h5, h6, h7, h8, h9, h10, h11, h12⟩ := h
  refine ⟨h1, h2, h3, ?_, ?_, ?_, ?_, fun k hk => ?_, fun k hk => ?_, ?_, ?_, h12.frx (ct w h3).1 (ct w h3).2 (fun k _ => m _ _ (by omega)) (fun k _ => m _ _ (by omega))⟩
  · rw [c 1 _ (by omega)]; exact h4
  · rw [m0 0 (by omega)]; exact h5
  · rw [c 5 _ (by omega)]; exact h6
  · rw [m0 2 (by omega)]; exact h7
  · have := h8 k hk
    unfold Kid at this ⊢
    rw [c 2 _ (by omega), c 3 _ (by omega), c 4 _ (by omega), m 1 _ (by omega), m 1 _ (by omega), m 1 _ (by omega)]
    exact this
  · have := h9 k hk
    unfold Rac at this ⊢
    rw [c 6 _ (by omega), c 7 _ (by omega), c 8 _ (by omega), c 9 _ (by omega), m 2 _ (by omega), m 3 _ (by omega), m 4 _ (by omega), m 4 _ (by omega)]
    exact this
  · rw [c 10 _ (by omega)]; exact h10
  · rw [m0 11 (by omega)]; exact h11
theorem RA.ofDI {n r t w n1 r1 w1 : Nat} {σ τ σ' τ' : M2} (h : RA n r t w σ τ) (hd : RD n1 r1 w1 σ' τ') (hw : w1 < t) (hi : ImgR n1 r1 t σ' τ') (ec : ∀ o k, (o = 10 ∧ k = 1) ∨ (12 ≤ o ∧ o ≤ 37) ∨ (59 ≤ o ∧ o ≤ 66) → σ' o k = σ o k) (em : ∀ o k, (5 ≤ o ∧ o ≤ 7) ∨ (10 ≤ o ∧ o ≤ 14) ∨ o = 22 ∨ (o = 0 ∧ (k = 10 ∨ k = 7 ∨ k = 39)) → τ' o k = τ o k) : RA n1 r1 t w1 σ' τ' := by
  obtain ⟨h1, h2, ⟨t1, t2, t3, t4⟩, h4, h5, h6, h7⟩ := h
  refine ⟨hd, hw, ⟨t1, ?_, ?_, fun i hi => (t4 i hi).frx (funext fun k => ec _ _ (by omega)) (funext fun k => ec _ _ (by omega)) (fun k _ => em _ _ (by omega)) (fun k _ => em _ _ (by omega))⟩, h4.fr (ec _ _ (by omega)) (em _ _ (by omega)) (fun k _ => ec _ _ (by omega)) (fun k _ => em _ _ (by omega)), fun i hi => (h5 i hi).fr (fun k => ec _ _ (by omega)) (fun k => ec _ _ (by omega)) (em _ _ (by omega)) (em _ _ (by omega)) (fun k _ => em _ _ (by omega)), hi, h7.fr (fun k => em _ _ (by omega)) (em _ _ (by omega)) (fun k => em _ _ (by omega))⟩
  · rw [ec _ _ (by omega)]; exact t2
  · rw [em _ _ (by omega)]; exact t3
theorem cpr_fr {σ : M2} {o1 o2 N : Nat} : Fr (fun o _ => o = o2) σ (cpr σ o1 o2 N) := fun o k h => cpr_ne (fun e => h e.1)
/-- the class's rows of children, of races, copied -/
theorem become1 {t a t0 t1 t2 a0 a1 a2 : Nat} {σ0 : M2} {fu : Nat} (ht : csh t = (1 + 2, 4)) (ha : csh a = (1 + 2, 4)) (x0 : crf t 0 = t0) (x1 : crf t 1 = t1) (x2 : crf t 2 = t2) (y0 : crf a 0 = a0) (y1 : crf a 1 = a1) (y2 : crf a 2 = a2) (z0 : csh t0 = (0, 8)) (z1 : csh t1 = (0, 8)) (z2 : csh t2 = (0, 8)) (w0 : csh a0 = (0, 8)) (w1 : csh a1 = (0, 8)) (w2 : csh a2 = (0, 8)) (hap : (a0 ≠ t0 ∧ a1 ≠ t0 ∧ a2 ≠ t0 ∧ a1 ≠ t1 ∧ a2 ≠ t1 ∧ a2 ≠ t2) ∧ (t0 ≠ t1 ∧ t0 ≠ t2 ∧ t1 ≠ t2) ∧ a ≠ t0 ∧ a ≠ t1 ∧ a ≠ t2 ∧ t ≠ t0 ∧ t ≠ t1 ∧ t ≠ t2 ∧ a ≠ t) (hfu : 161 < fu) :
    ∃ σ', F1_become fu t a σ0 = some ((), σ') ∧ (∀ k, k < 8 → σ' t0 k = σ0 a0 k ∧ σ' t1 k = σ0 a1 k ∧ σ' t2 k = σ0 a2 k) ∧ σ' t 3 = σ0 a 3 ∧ Fr (fun o k => o = t0 ∨ o = t1 ∨ o = t2 ∨ (o = t ∧ k = 3)) σ0 σ' := by
  obtain ⟨⟨p1, p2, p3, p4, p5, p6⟩, ⟨q1, q2, q3⟩, r1, r2, r3, r4, r5, r6, r7⟩ := hap
  unfold F1_become
  rw [gd_t (isO_t ha), gd_t (isO_t ht), x0, x1, x2, y0, y1, y2, copyRow_eq w0 z0 p1 (by omega) (by omega), bnd_s, copyRow_eq w1 z1 p4 (by omega) (by omega), bnd_s, copyRow_eq w2 z2 p6 (by omega) (by omega), bnd_s]
  refine ⟨_, rfl, fun k hk => ⟨?_, ?_, ?_⟩, ?_, fun o k h => ?_⟩
  · rw [up_ne (by omega), cpr_ne (by omega), cpr_ne (by omega), cpr_in hk]
  · rw [up_ne (by omega), cpr_ne (by omega), cpr_in hk, cpr_ne (by omega)]
  · rw [up_ne (by omega), cpr_in hk, cpr_ne (by omega), cpr_ne (by omega)]
  · rw [up_eq, cpr_ne (by omega), cpr_ne (by omega), cpr_ne (by omega)]
  · have h : ¬ (o = t0 ∨ o = t1 ∨ o = t2 ∨ (o = t ∧ k = 3)) := h
    rw [up_ne (by omega), cpr_ne (by omega), cpr_ne (by omega), cpr_ne (by omega)]
theorem become5 {t a t0 t1 a0 a1 : Nat} {σ0 : M2} {fu : Nat} (ht : csh t = (4 + 2, 5)) (ha : csh a = (4 + 2, 5)) (x0 : crf t 2 = t0) (x1 : crf t 3 = t1) (y0 : crf a 2 = a0) (y1 : crf a 3 = a1) (z0 : csh t0 = (0, 6)) (z1 : csh t1 = (0, 6)) (w0 : csh a0 = (0, 6)) (w1 : csh a1 = (0, 6)) (hap : (a0 ≠ t0 ∧ a1 ≠ t0 ∧ a1 ≠ t1) ∧ t0 ≠ t1 ∧ a ≠ t0 ∧ a ≠ t1 ∧ t ≠ t0 ∧ t ≠ t1 ∧ a ≠ t) (hfu : 161 < fu) :
    ∃ σ', F5_become fu t a σ0 = some ((), σ') ∧ (∀ k, k < 6 → σ' t0 k = σ0 a0 k ∧ σ' t1 k = σ0 a1 k) ∧ σ' t 4 = σ0 a 4 ∧ Fr (fun o k => o = t0 ∨ o = t1 ∨ (o = t ∧ k = 4)) σ0 σ' := by
  obtain ⟨⟨p1, p2, p4⟩, q1, r1, r2, r4, r5, r7⟩ := hap
  unfold F5_become
  rw [gd_t (isO_t ha), gd_t (isO_t ht), x0, x1, y0, y1, copyRow_eq w0 z0 p1 (by omega) (by omega), bnd_s, copyRow_eq w1 z1 p4 (by omega) (by omega), bnd_s]
  refine ⟨_, rfl, fun k hk => ⟨?_, ?_⟩, ?_, fun o k h => ?_⟩
  · rw [up_ne (by omega), cpr_ne (by omega), cpr_in hk]
  · rw [up_ne (by omega), cpr_in hk, cpr_ne (by omega)]
  · rw [up_eq, cpr_ne (by omega), cpr_ne (by omega)]
  · have h : ¬ (o = t0 ∨ o = t1 ∨ (o = t ∧ k = 4)) := h
    rw [up_ne (by omega), cpr_ne (by omega), cpr_ne (by omega)]
/-- a piece of a row put into a piece of another -/
def cpo (τ : M2) (o1 b1 o2 b2 N : Nat) : M2 := fun a k => if a = o2 ∧ b2 ≤ k ∧ k < b2 + N then τ o1 (b1 + (k - b2)) else τ a k
theorem cpo_in {τ : M2} {o1 b1 o2 b2 N k : Nat} (h : k < N) : cpo τ o1 b1 o2 b2 N o2 (b2 + k) = τ o1 (b1 + k) := by
  unfold cpo
  rw [if_pos ⟨rfl, by omega, by omega⟩, Nat.add_sub_cancel_left]
theorem cpo_ne {τ : M2} {o1 b1 o2 b2 N a k : Nat} (h : ¬ (a = o2 ∧ b2 ≤ k ∧ k < b2 + N)) : cpo τ o1 b1 o2 b2 N a k = τ a k := if_neg h
theorem cpo_0 {τ : M2} {o1 b1 o2 b2 : Nat} : cpo τ o1 b1 o2 b2 0 = τ := by
  funext a k
  exact cpo_ne (by omega)
theorem cpo_s {τ : M2} {o1 b1 o2 b2 k : Nat} (hne : o1 ≠ o2) : up (cpo τ o1 b1 o2 b2 k) o2 (b2 + k) (cpo τ o1 b1 o2 b2 k o1 (b1 + k)) = cpo τ o1 b1 o2 b2 (k + 1) := by
  funext a j
  rw [cpo_ne (a := o1) (fun e => hne e.1)]
  by_cases e : a = o2 ∧ j = b2 + k
  · obtain ⟨rfl, rfl⟩ := e
    rw [up_eq, cpo_in (by omega)]
  · rw [up_ne e]
    unfold cpo
    by_cases h : a = o2 ∧ b2 ≤ j ∧ j < b2 + k
    · rw [if_pos h, if_pos (by omega)]
    · rw [if_neg h, if_neg (by omega)]
theorem cpo_fr {τ : M2} {o1 b1 o2 b2 N : Nat} : Fr (fun o _ => o = o2) τ (cpo τ o1 b1 o2 b2 N) := fun o k h => cpo_ne (fun e => h e.1)
theorem ix24 {k : Nat} : (24 : Int32) + nI k = nI (24 + k) := nI_add 24 k
theorem image7 {τ0 : M2} {fu : Nat} (hfu : 161 < fu) : F12_image_7 fu 0 τ0 = F12_image_33 fu 0 (cpo τ0 1 0 8 0 24) := by
  unfold F12_image_7
  refine el1 (R := Int32 × M2) (fun q x1 s => ∃ k, q = 24 - k ∧ k ≤ 24 ∧ x1 = nI k ∧ s = cpo τ0 1 0 8 0 k) (fun r => r = F12_image_33 fu 0 (cpo τ0 1 0 8 0 24)) ?_ 24 fu 0 τ0 (by omega) ⟨0, rfl, by omega, rfl, cpo_0.symm⟩
  intro k7 q x1 s hI
  obtain ⟨k, rfl, hk, rfl, rfl⟩ := hI
  by_cases hk24 : k = 24
  · left
    subst hk24
    rw [if_pos (by decide)]
  · right
    have e := cpo_s (τ := τ0) (o1 := 1) (b1 := 0) (o2 := 8) (b2 := 0) (k := k) (by omega)
    rw [Nat.zero_add] at e
    rw [if_neg (show ¬ (24 : Int32) ≤ nI k from nI_ge (b := 24) (by omega) (by omega)), gd_t (inb_t (N := 24) (by omega) (by omega)), gd_t (inb_t (N := 36) (by omega) (by omega)), nI_c (by omega), e]
    exact ⟨24 - (k + 1), _, _, by omega, ⟨k + 1, rfl, by omega, by rw [nI_1], rfl⟩, rfl⟩
theorem image33 {τ0 : M2} {fu : Nat} (hfu : 161 < fu) : F12_image_33 fu 0 τ0 = some (τ0 0 2, up (up (up (cpo τ0 4 0 8 24 12) 9 0 (τ0 0 2)) 9 1 (τ0 0 0)) 9 2 (τ0 0 11)) := by
  unfold F12_image_33
  refine el1 (R := Int32 × M2) (fun q x1 s => ∃ k, q = 12 - k ∧ k ≤ 12 ∧ x1 = nI k ∧ s = cpo τ0 4 0 8 24 k) (fun r => r = some (τ0 0 2, up (up (up (cpo τ0 4 0 8 24 12) 9 0 (τ0 0 2)) 9 1 (τ0 0 0)) 9 2 (τ0 0 11))) ?_ 12 fu 0 τ0 (by omega) ⟨0, rfl, by omega, rfl, cpo_0.symm⟩
  intro k7 q x1 s hI
  obtain ⟨k, rfl, hk, rfl, rfl⟩ := hI
  by_cases hk12 : k = 12
  · left
    subst hk12
    rw [if_pos (by decide), cl0, cl1, cl2]
    have e0 : ∀ j, cpo τ0 4 0 8 24 12 0 j = τ0 0 j := fun j => cpo_ne (by omega)
    have n9 : ∀ (s : M2) (a j : Nat) (x : Int32), up s 9 a x 0 j = s 0 j := fun s a j x => up_ne (by omega)
    simp only [n9, e0]
  · right
    have e := cpo_s (τ := τ0) (o1 := 4) (b1 := 0) (o2 := 8) (b2 := 24) (k := k) (by omega)
    rw [Nat.zero_add] at e
    rw [if_neg (show ¬ (12 : Int32) ≤ nI k from nI_ge (b := 12) (by omega) (by omega)), ix24, gd_t (inb_t (N := 12) (by omega) (by omega)), gd_t (inb_t (N := 36) (by omega) (by omega)), nI_c (by omega), nI_c (by omega), e]
    exact ⟨12 - (k + 1), _, _, by omega, ⟨k + 1, rfl, by omega, by rw [nI_1], rfl⟩, rfl⟩
theorem imageM {τ0 : M2} {fu : Nat} (hfu : 161 < fu) : ∃ τ', F12_image fu τ0 = some (τ0 0 2, τ') ∧ τ' 0 12 = 1 ∧ (∀ k, k < 24 → τ' 8 k = τ0 1 k) ∧ (∀ k, k < 12 → τ' 8 (24 + k) = τ0 4 k) ∧ τ' 9 0 = τ0 0 2 ∧ τ' 9 1 = τ0 0 0 ∧ τ' 9 2 = τ0 0 11 ∧ Fr (fun o k => o = 8 ∨ o = 9 ∨ (o = 0 ∧ k = 12)) τ0 τ' := by
  unfold F12_image
  rw [image7 hfu, image33 hfu]
  have e0 : ∀ k, k ≠ 12 → cpo (up τ0 0 12 (1 : Int32)) 1 0 8 0 24 0 k = τ0 0 k := fun k hk => by rw [cpo_ne (by omega), up_ne (by omega)]
  rw [e0 2 (by omega), e0 0 (by omega), e0 11 (by omega)]
  refine ⟨_, rfl, ?_, fun k hk => ?_, fun k hk => ?_, ?_, ?_, ?_, fun o k h => ?_⟩
  · rw [up_ne (by omega), up_ne (by omega), up_ne (by omega), cpo_ne (by omega), cpo_ne (by omega), up_eq]
  · rw [up_ne (by omega), up_ne (by omega), up_ne (by omega), cpo_ne (by omega)]
    have e := cpo_in (τ := up τ0 0 12 (1 : Int32)) (o1 := 1) (b1 := 0) (o2 := 8) (b2 := 0) hk
    rw [Nat.zero_add] at e
    rw [e, up_ne (by omega)]
  · rw [up_ne (by omega), up_ne (by omega), up_ne (by omega), cpo_in hk, Nat.zero_add, cpo_ne (by omega), up_ne (by omega)]
  · rw [up_ne (by omega), up_ne (by omega), up_eq]
  · rw [up_ne (by omega), up_eq]
  · rw [up_eq]
  · have h : ¬ (o = 8 ∨ o = 9 ∨ (o = 0 ∧ k = 12)) := h
    rw [up_ne (by omega), up_ne (by omega), up_ne (by omega), cpo_ne (by omega), cpo_ne (by omega), up_ne (by omega)]
theorem imageC {σ0 : M2} {fu : Nat} (hfu : 161 < fu) : ∃ σ', F11_image fu σ0 = some (σ0 5 4, σ') ∧ (∀ k, k < 8 → σ' 69 k = σ0 2 k ∧ σ' 70 k = σ0 3 k ∧ σ' 71 k = σ0 4 k) ∧ σ' 68 3 = σ0 1 3 ∧ (∀ k, k < 6 → σ' 75 k = σ0 8 k ∧ σ' 76 k = σ0 9 k) ∧ σ' 72 4 = σ0 5 4 ∧ σ' 0 12 = σ0 10 2 ∧ σ' 0 13 = 1 ∧ Fr (fun o k => (68 ≤ o ∧ o ≤ 76) ∨ (o = 0 ∧ 12 ≤ k ∧ k ≤ 13)) σ0 σ' := by
  unfold F11_image
  obtain ⟨σ1, a1, a2, a3, a4⟩ := become1 (t := 68) (a := 1) (t0 := 69) (t1 := 70) (t2 := 71) (a0 := 2) (a1 := 3) (a2 := 4) (σ0 := σ0) (fu := fu) rfl rfl rfl rfl rfl rfl rfl rfl rfl rfl rfl rfl rfl rfl (by omega) hfu
  obtain ⟨σ2, b1, b2, b3, b4⟩ := become5 (t := 72) (a := 5) (t0 := 75) (t1 := 76) (a0 := 8) (a1 := 9) (σ0 := σ1) (fu := fu) rfl rfl rfl rfl rfl rfl rfl rfl rfl rfl (by omega) hfu
  rw [a1, bnd_s, b1, bnd_s]
  have e5 : ∀ o k, o < 68 → σ2 o k = σ0 o k := fun o k ho => by rw [b4 o k (by omega), a4 o k (by omega)]
  refine ⟨up (up σ2 0 12 (σ2 10 2)) 0 13 1, ?_, fun k hk => ⟨?_, ?_, ?_⟩, ?_, fun k hk => ⟨?_, ?_⟩, ?_, ?_, up_eq, fun o k h => ?_⟩
  · rw [up_ne (by omega), up_ne (by omega), e5 5 4 (by omega)]
  · rw [up_ne (by omega), up_ne (by omega), b4 _ _ (by omega), (a2 k hk).1]
  · rw [up_ne (by omega), up_ne (by omega), b4 _ _ (by omega), (a2 k hk).2.1]
  · rw [up_ne (by omega), up_ne (by omega), b4 _ _ (by omega), (a2 k hk).2.2]
  · rw [up_ne (by omega), up_ne (by omega), b4 _ _ (by omega), a3]
  · rw [up_ne (by omega), up_ne (by omega), (b2 k hk).1, a4 _ _ (by omega)]
  · rw [up_ne (by omega), up_ne (by omega), (b2 k hk).2, a4 _ _ (by omega)]
  · rw [up_ne (by omega), up_ne (by omega), b3, a4 _ _ (by omega)]
  · rw [up_ne (by omega), up_eq, e5 10 2 (by omega)]
  · have h : ¬ ((68 ≤ o ∧ o ≤ 76) ∨ (o = 0 ∧ 12 ≤ k ∧ k ≤ 13)) := h
    rw [up_ne (by omega), up_ne (by omega), b4 o k (by omega), a4 o k (by omega)]
theorem m_image {fu fu' : Nat} (hfu : 161 < fu) (hfu' : 161 < fu') : Both (F11_image fu) (F12_image fu') := by
  intro σ τ hR
  obtain ⟨n, r, t, w, hA⟩ := id hR
  obtain ⟨a1, a2, a3, a4, a5, a6, a7, a8, a9, a10, a11, a12⟩ := id hA.1
  obtain ⟨σ', b1, b2, b3, b4, b5, b6, b7, b8⟩ := imageC (σ0 := σ) (fu := fu) hfu
  obtain ⟨τ', c1, c2, c3, c4, c5, c6, c7, c8⟩ := imageM (τ0 := τ) (fu := fu') hfu'
  refine ⟨_, _, _, by rw [b1, a6], by rw [c1, a7], n, r, t, w, hA.ofDI (hA.1.of2 (fun o k q => b8 o k (by omega)) (fun i hi => ⟨funext fun k => b8 _ _ (by omega), funext fun k => b8 _ _ (by omega)⟩) (fun o k q => c8 o k (by omega)) (fun k q => c8 0 k (by omega))) hA.2.1 (Or.inr ⟨b7, c2, n, r, w, Nat.le_refl _, Nat.le_refl _, hA.2.1, by rw [b3, a4], by rw [c6, a5], by rw [b5, a6], by rw [c5, a7], by rw [b6, a10], by rw [c7, a11], fun k hk => ?_, fun k hk => ?_⟩) (fun o k q => b8 o k (by omega)) (fun o k q => c8 o k (by omega))⟩
  · obtain ⟨d1, d2, d3, d4, d5, d6⟩ := a8 k hk
    obtain ⟨e1, e2, e3⟩ := b2 k (by omega)
    rw [e1, e2, e3, c3 _ (by omega), c3 _ (by omega), c3 _ (by omega)]
    exact ⟨d1, d2, d3, d4, d5, d6⟩
  · obtain ⟨d1, d2, d3, d4, d5, d6, d7, d8⟩ := a9 k hk
    obtain ⟨e1, e2⟩ := b4 k (by omega)
    rw [e1, e2, c4 _ (by omega), c4 _ (by omega)]
    exact ⟨d3, d4, d7, d8⟩
theorem backC {σ0 : M2} {fu : Nat} (h : ¬ σ0 0 13 = 0) (hfu : 161 < fu) : ∃ σ', F11_back fu σ0 = some (σ0 72 4, σ') ∧ (∀ k, k < 8 → σ' 2 k = σ0 69 k ∧ σ' 3 k = σ0 70 k ∧ σ' 4 k = σ0 71 k) ∧ σ' 1 3 = σ0 68 3 ∧ (∀ k, k < 6 → σ' 8 k = σ0 75 k ∧ σ' 9 k = σ0 76 k) ∧ σ' 5 4 = σ0 72 4 ∧ σ' 10 2 = σ0 0 12 ∧ Fr (fun o k => (2 ≤ o ∧ o ≤ 4) ∨ (8 ≤ o ∧ o ≤ 9) ∨ (o = 1 ∧ k = 3) ∨ (o = 5 ∧ k = 4) ∨ (o = 10 ∧ k = 2)) σ0 σ' := by
  unfold F11_back
  obtain ⟨σ1, a1, a2, a3, a4⟩ := become1 (t := 1) (a := 68) (t0 := 2) (t1 := 3) (t2 := 4) (a0 := 69) (a1 := 70) (a2 := 71) (σ0 := σ0) (fu := fu) rfl rfl rfl rfl rfl rfl rfl rfl rfl rfl rfl rfl rfl rfl (by omega) hfu
  obtain ⟨σ2, b1, b2, b3, b4⟩ := become5 (t := 5) (a := 72) (t0 := 8) (t1 := 9) (a0 := 75) (a1 := 76) (σ0 := σ1) (fu := fu) rfl rfl rfl rfl rfl rfl rfl rfl rfl rfl (by omega) hfu
  rw [if_neg h, a1, bnd_s, b1, bnd_s]
  refine ⟨up σ2 10 2 (σ2 0 12), ?_, fun k hk => ⟨?_, ?_, ?_⟩, ?_, fun k hk => ⟨?_, ?_⟩, ?_, ?_, fun o k h => ?_⟩
  · rw [up_ne (by omega), b3, a4 _ _ (by omega)]
  · rw [up_ne (by omega), b4 _ _ (by omega), (a2 k hk).1]
  · rw [up_ne (by omega), b4 _ _ (by omega), (a2 k hk).2.1]
  · rw [up_ne (by omega), b4 _ _ (by omega), (a2 k hk).2.2]
  · rw [up_ne (by omega), b4 _ _ (by omega), a3]
  · rw [up_ne (by omega), (b2 k hk).1, a4 _ _ (by omega)]
  · rw [up_ne (by omega), (b2 k hk).2, a4 _ _ (by omega)]
  · rw [up_ne (by omega), b3, a4 _ _ (by omega)]
  · rw [up_eq, b4 _ _ (by omega), a4 _ _ (by omega)]
  · have h : ¬ ((2 ≤ o ∧ o ≤ 4) ∨ (8 ≤ o ∧ o ≤ 9) ∨ (o = 1 ∧ k = 3) ∨ (o = 5 ∧ k = 4) ∨ (o = 10 ∧ k = 2)) := h
    rw [up_ne (by omega), b4 o k (by omega), a4 o k (by omega)]
theorem back12 {τ0 : M2} {fu : Nat} (hfu : 161 < fu) : F12_back_12 fu 0 τ0 = F12_back_38 fu 0 (cpo τ0 8 0 1 0 24) := by
  unfold F12_back_12
  refine el1 (R := Int32 × M2) (fun q x1 s => ∃ k, q = 24 - k ∧ k ≤ 24 ∧ x1 = nI k ∧ s = cpo τ0 8 0 1 0 k) (fun r => r = F12_back_38 fu 0 (cpo τ0 8 0 1 0 24)) ?_ 24 fu 0 τ0 (by omega) ⟨0, rfl, by omega, rfl, cpo_0.symm⟩
  intro k7 q x1 s hI
  obtain ⟨k, rfl, hk, rfl, rfl⟩ := hI
  by_cases hk24 : k = 24
  · left
    subst hk24
    rw [if_pos (by decide)]
  · right
    have e := cpo_s (τ := τ0) (o1 := 8) (b1 := 0) (o2 := 1) (b2 := 0) (k := k) (by omega)
    rw [Nat.zero_add] at e
    rw [if_neg (show ¬ (24 : Int32) ≤ nI k from nI_ge (b := 24) (by omega) (by omega)), gd_t (inb_t (N := 36) (by omega) (by omega)), gd_t (inb_t (N := 24) (by omega) (by omega)), nI_c (by omega), e]
    exact ⟨24 - (k + 1), _, _, by omega, ⟨k + 1, rfl, by omega, by rw [nI_1], rfl⟩, rfl⟩
theorem back38 {τ0 : M2} {fu : Nat} (hfu : 161 < fu) : F12_back_38 fu 0 τ0 = some (τ0 9 0, up (up (up (cpo τ0 8 24 4 0 12) 0 2 (τ0 9 0)) 0 0 (τ0 9 1)) 0 11 (τ0 9 2)) := by
  unfold F12_back_38
  refine el1 (R := Int32 × M2) (fun q x1 s => ∃ k, q = 12 - k ∧ k ≤ 12 ∧ x1 = nI k ∧ s = cpo τ0 8 24 4 0 k) (fun r => r = some (τ0 9 0, up (up (up (cpo τ0 8 24 4 0 12) 0 2 (τ0 9 0)) 0 0 (τ0 9 1)) 0 11 (τ0 9 2))) ?_ 12 fu 0 τ0 (by omega) ⟨0, rfl, by omega, rfl, cpo_0.symm⟩
  intro k7 q x1 s hI
  obtain ⟨k, rfl, hk, rfl, rfl⟩ := hI
  by_cases hk12 : k = 12
  · left
    subst hk12
    rw [if_pos (by decide), cl0, cl1, cl2]
    have e9 : ∀ j, cpo τ0 8 24 4 0 12 9 j = τ0 9 j := fun j => cpo_ne (by omega)
    have n9 : ∀ (s : M2) (a j : Nat) (x : Int32), up s 0 a x 9 j = s 9 j := fun s a j x => up_ne (by omega)
    simp only [n9, e9]
    rw [up_ne (by omega), up_ne (by omega), up_eq]
  · right
    have e := cpo_s (τ := τ0) (o1 := 8) (b1 := 24) (o2 := 4) (b2 := 0) (k := k) (by omega)
    rw [Nat.zero_add] at e
    rw [if_neg (show ¬ (12 : Int32) ≤ nI k from nI_ge (b := 12) (by omega) (by omega)), ix24, gd_t (inb_t (N := 36) (by omega) (by omega)), gd_t (inb_t (N := 12) (by omega) (by omega)), nI_c (by omega), nI_c (by omega), e]
    exact ⟨12 - (k + 1), _, _, by omega, ⟨k + 1, rfl, by omega, by rw [nI_1], rfl⟩, rfl⟩
theorem backM {τ0 : M2} {fu : Nat} (h : ¬ τ0 0 12 = 0) (hfu : 161 < fu) : ∃ τ', F12_back fu τ0 = some (τ0 9 0, τ') ∧ (∀ k, k < 24 → τ' 1 k = τ0 8 k) ∧ (∀ k, k < 12 → τ' 4 k = τ0 8 (24 + k)) ∧ τ' 0 2 = τ0 9 0 ∧ τ' 0 0 = τ0 9 1 ∧ τ' 0 11 = τ0 9 2 ∧ Fr (fun o k => o = 1 ∨ o = 4 ∨ (o = 0 ∧ (k = 0 ∨ k = 2 ∨ k = 11))) τ0 τ' := by
  unfold F12_back
  rw [if_neg h, back12 hfu, back38 hfu]
  have e9 : ∀ k, cpo τ0 8 0 1 0 24 9 k = τ0 9 k := fun k => cpo_ne (by omega)
  rw [e9, e9, e9]
  refine ⟨_, rfl, fun k hk => ?_, fun k hk => ?_, ?_, ?_, up_eq, fun o k h => ?_⟩
  · rw [up_ne (by omega), up_ne (by omega), up_ne (by omega), cpo_ne (by omega)]
    have e := cpo_in (τ := τ0) (o1 := 8) (b1 := 0) (o2 := 1) (b2 := 0) hk
    rw [Nat.zero_add] at e
    exact e
  · rw [up_ne (by omega), up_ne (by omega), up_ne (by omega)]
    have e := cpo_in (τ := cpo τ0 8 0 1 0 24) (o1 := 8) (b1 := 24) (o2 := 4) (b2 := 0) hk
    rw [Nat.zero_add] at e
    rw [e, cpo_ne (by omega)]
  · rw [up_ne (by omega), up_ne (by omega), up_eq]
  · rw [up_ne (by omega), up_eq]
  · have h : ¬ (o = 1 ∨ o = 4 ∨ (o = 0 ∧ (k = 0 ∨ k = 2 ∨ k = 11))) := h
    rw [up_ne (by omega), up_ne (by omega), up_ne (by omega), cpo_ne (by omega), cpo_ne (by omega)]
theorem m_back {fu fu' : Nat} (hfu : 161 < fu) (hfu' : 161 < fu') : Both (F11_back fu) (F12_back fu') := by
  intro σ τ hR
  obtain ⟨n, r, t, w, hA⟩ := id hR
  obtain ⟨a1, a2, a3, a4, a5, a6, a7, a8, a9, a10, a11, a12⟩ := id hA.1
  obtain ⟨t1, t2, t3, t4⟩ := id hA.2.2.1
  rcases hA.2.2.2.2.2.1 with ⟨i1, i2⟩ | ⟨i1, i2, n', r', w', i3, i4, i5, i6, i7, i8, i9, i10, i11, i12, i13⟩
  · unfold F11_back F12_back
    rw [if_pos i1, if_pos i2]
    exact ⟨_, _, _, rfl, rfl, hR⟩
  · obtain ⟨σ', b1, b2, b3, b4, b5, b6, b8⟩ := backC (σ0 := σ) (fu := fu) (by rw [i1]; decide) hfu
    obtain ⟨τ', c1, c3, c4, c5, c6, c7, c8⟩ := backM (τ0 := τ) (fu := fu') (by rw [i2]; decide) hfu'
    refine ⟨_, _, _, by rw [b1, i8], by rw [c1, i9], n', r', t, w', hA.ofDI ⟨by omega, by omega, by omega, by rw [b3, i6], by rw [c6, i7], by rw [b5, i8], by rw [c5, i9], fun k hk => ?_, fun k hk => ?_, by rw [b6, i10], by rw [c7, i11], (t4 w' i5).frx (funext fun k => b8 _ _ (by omega)) (funext fun k => b8 _ _ (by omega)) (fun k _ => c8 _ _ (by omega)) (fun k _ => c8 _ _ (by omega))⟩ i5 (Or.inr ⟨?_, ?_, n', r', w', Nat.le_refl _, Nat.le_refl _, i5, ?_, ?_, ?_, ?_, ?_, ?_, fun k hk => ?_, fun k hk => ?_⟩) (fun o k q => b8 o k (by omega)) (fun o k q => c8 o k (by omega))⟩
    · obtain ⟨d1, d2, d3, d4, d5, d6⟩ := i12 k hk
      obtain ⟨e1, e2, e3⟩ := b2 k (by omega)
      unfold Kid
      rw [e1, e2, e3, c3 _ (by omega), c3 _ (by omega), c3 _ (by omega)]
      exact ⟨d1, d2, d3, d4, d5, d6⟩
    · obtain ⟨d1, d2, d3, d4, d5, d6, d7, d8⟩ := a9 k (by omega)
      obtain ⟨f1, f2, f3, f4⟩ := i13 k hk
      obtain ⟨e1, e2⟩ := b4 k (by omega)
      unfold Rac
      rw [e1, e2, c4 _ (by omega), c4 _ (by omega), b8 6 _ (by omega), b8 7 _ (by omega), c8 2 _ (by omega), c8 3 _ (by omega)]
      exact ⟨d1, d2, f1, f2, d5, d6, f3, f4⟩
    · rw [b8 _ _ (by omega)]; exact i1
    · rw [c8 _ _ (by omega)]; exact i2
    · rw [b8 _ _ (by omega)]; exact i6
    · rw [c8 _ _ (by omega)]; exact i7
    · rw [b8 _ _ (by omega)]; exact i8
    · rw [c8 _ _ (by omega)]; exact i9
    · rw [b8 _ _ (by omega)]; exact i10
    · rw [c8 _ _ (by omega)]; exact i11
    · rw [b8 69 _ (by omega), b8 70 _ (by omega), b8 71 _ (by omega), c8 8 _ (by omega), c8 8 _ (by omega), c8 8 _ (by omega)]
      exact i12 k hk
    · rw [b8 75 _ (by omega), b8 76 _ (by omega), c8 8 _ (by omega), c8 8 _ (by omega)]
      exact i13 k hk
end
