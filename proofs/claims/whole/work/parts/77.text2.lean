section
/-! text, both sides -/
def tC (t o k : Nat) : Prop := cC o k ∨ wC t o k ∨ o = 14 + 4 * t ∨ (o = 36 ∧ k = 3) ∨ (o = 10 ∧ k = 1)
def tM (t o k : Nat) : Prop := wM7 t o k ∨ (o = 0 ∧ (k = 7 ∨ k = 10))
theorem nextTx {t : Nat} {σ : M2} (ht : t < 6) (h10 : σ 10 1 = nI t) : F10_next σ = some (some (12 + 4 * t), σ) := by
  have e := (tx_sh t ht).2.2.2.2.2.2.2
  unfold F10_next F10_textAt
  rw [h10, if_neg (nI_pos (by omega)), if_neg (show ¬ (6 : Int32) ≤ nI t from nI_ge (b := 6) ht (by omega)), gd_t (inb_t (N := 6) (by omega) (by omega)), nI_c (by omega), e]
  rfl
theorem text_rel {t fu fl : Nat} {σ τ : M2} (hT : TapeR σ τ) (ht : t < 6) (h10 : σ 10 1 = nI t) (h0 : τ 0 10 = nI t) (hw : ∀ q, q < 96 → τ 14 q = wordsL.getD q 0) (hfu : 170 < fu) (hfl : 170 < fl) :
    ∃ v σ' τ', F11_text fl σ = some (v, σ') ∧ F12_text fu τ = some (v, τ') ∧ σ' 36 3 = 0 ∧ τ' 0 7 = 0 ∧ Fr (tC t) σ σ' ∧ Fr (tM t) τ τ' ∧ ((v < 0 ∧ σ' 10 1 = nI t ∧ τ' 0 10 = nI t) ∨ (v = nI t ∧ σ' 10 1 = nI (t + 1) ∧ τ' 0 10 = nI (t + 1) ∧ TR σ' τ' t)) := by
  obtain ⟨s, hs, h363, h07, hb⟩ := hT
  obtain ⟨x1, x2, x3, x4, x5⟩ := tx_at ht
  obtain ⟨σb, M, b1, b2, b3⟩ := cutC (s := s) (σ0 := up σ (12 + 4 * t) 3 0) (fu := fl) hs (by rw [up_ne (by omega)]; exact h363) (by omega)
  rw [up_other (show 37 ≠ 12 + 4 * t by omega)] at b2
  have htok0 := tokenC (j := 0) (b2.fr (σ := up σb 40 1 0) (up_ne (by omega)) (fun k => up_ne (by omega)) (fun k => up_ne (by omega))) hs (by omega)
  have htok0 : F8_token 0 (up σb 40 1 0) = some (nI (Tn (σ 37) s 0), up σb 40 1 0) := htok0
  -- the class's state as the first part begins
  have hRI : F6_readInto fl (12 + 4 * t) σ = bnd (F6_readPart fl (12 + 4 * t) (2 : Int32) (0 : Int32) (up (up (up (up σb 40 1 0) 40 2 (nI (Tn (σ 37) s 0))) 40 3 (0 : Int32)) 40 4 (-1 : Int32))) (fun _ s12 => T1 fl t s12) := by
    unfold F6_readInto F9_clear
    rw [gd_t (isO_t x1), gd_t (isO_t x1), bnd_s, b1, bnd_s, htok0, bnd_s]
    rfl
  have hfc : Fr (fun o k => cC o k ∨ wC t o k) σ (up (up (up (up σb 40 1 0) 40 2 (nI (Tn (σ 37) s 0))) 40 3 (0 : Int32)) 40 4 (-1 : Int32)) := by
    have f1 : Fr (fun o k => cC o k ∨ wC t o k) σ (up σ (12 + 4 * t) 3 0) := Fr.rf.up (Or.inr (Or.inr (Or.inl ⟨rfl, rfl⟩)))
    exact ((((f1.tr (b3.mono fun o k z => Or.inl z)).up (Or.inr (Or.inl rfl))).up (Or.inr (Or.inl rfl))).up (Or.inr (Or.inl rfl))).up (Or.inr (Or.inl rfl))
  have hcs : CS (σ 37) s t (up (up (up (up σb 40 1 0) 40 2 (nI (Tn (σ 37) s 0))) 40 3 (0 : Int32)) 40 4 (-1 : Int32)) (up (up (up (up σb 40 1 0) 40 2 (nI (Tn (σ 37) s 0))) 40 3 (0 : Int32)) 40 4 (-1 : Int32)) 0 0 [] := by
    refine ⟨?_, ?_, ?_, up_eq, ?_, fun i hi => absurd hi (Nat.not_lt_zero i), by omega, Nat.zero_le _, Fr.rf⟩
    · rw [up_ne (by omega), up_ne (by omega), up_ne (by omega), up_eq]; rfl
    · rw [up_ne (by omega), up_ne (by omega), up_eq]
    · rw [up_ne (by omega), up_eq]; rfl
    · rw [up_ne (by omega), up_ne (by omega), up_ne (by omega), up_ne (by omega), b3 _ _ (by unfold cC; omega), up_eq]; rfl
  have htk : TokC (σ 37) s M (up (up (up (up σb 40 1 0) 40 2 (nI (Tn (σ 37) s 0))) 40 3 (0 : Int32)) 40 4 (-1 : Int32)) := b2.fr (by rw [up_ne (by omega), up_ne (by omega), up_ne (by omega), up_ne (by omega)]) (fun k => by rw [up_ne (by omega), up_ne (by omega), up_ne (by omega), up_ne (by omega)]) (fun k => by rw [up_ne (by omega), up_ne (by omega), up_ne (by omega), up_ne (by omega)])
  generalize up (up (up (up σb 40 1 0) 40 2 (nI (Tn (σ 37) s 0))) 40 3 (0 : Int32)) 40 4 (-1 : Int32) = σc at *
  -- the reference's
  have hTX : F12_text fu τ = wl2 (body26 fu) fu 1 0 (up (up τ 0 19 (0 : Int32)) 0 27 (0 : Int32)) := by
    unfold F12_text
    rw [h0, if_neg (show ¬ nI t = (6 : Int32) from nI_eqI (b := 6) (by omega) (by omega) (by omega)), text26]
  have hfm : Fr (tM t) τ (up (up τ 0 19 (0 : Int32)) 0 27 (0 : Int32)) := (Fr.rf.up (by unfold tM wM7 wM; omega)).up (by unfold tM wM7 wM; omega)
  have hps : PS (σ 37) s t (up (up τ 0 19 (0 : Int32)) 0 27 (0 : Int32)) 0 [] := ⟨by rw [up_ne (by omega), up_eq]; rfl, by rw [up_eq]; rfl, fun i hi => absurd hi (Nat.not_lt_zero i), Nat.zero_le _, by omega⟩
  have henv : Env (σ 37) s M t σc (up (up τ 0 19 (0 : Int32)) 0 27 (0 : Int32)) := by
    refine ⟨hs, ht, htk, ?_, ?_, fun q hq => ?_, fun q hq => ?_, ?_⟩
    · rw [hfc _ _ (by unfold cC wC; omega)]; exact h363
    · rw [up_ne (by omega), up_ne (by omega)]; exact h07
    · rw [up_ne (by omega), up_ne (by omega)]; exact (hb q hq).1.symm
    · rw [up_ne (by omega), up_ne (by omega)]; exact hw q hq
    · rw [up_ne (by omega), up_ne (by omega)]; exact h0
  generalize up (up τ 0 19 (0 : Int32)) 0 27 (0 : Int32) = τc at *
  have w7M : ∀ o k, wM7 t o k → tM t o k := fun o k z => Or.inl z
  have w4C : ∀ o k, wC4 t o k → tC t o k := fun o k z => z.elim (fun z => Or.inr (Or.inl z)) (fun z => Or.inr (Or.inr (Or.inl z)))
  have c0C : Fr (tC t) σ σc := hfc.mono fun o k z => z.elim (fun z => Or.inl z) (fun z => Or.inr (Or.inl z))
  have hTE : F11_text fl σ = bnd (bnd (F6_readInto fl (12 + 4 * t) σ) (fun r5 s6 => if r5 < 0 then bnd (F10_keepNext (up s6 36 3 (0 : Int32))) (fun r9 s10 => some (r9, s10)) else some ((-100 : Int32) - r5, up s6 36 3 (0 : Int32)))) (fun r1 s2 => some (r1, s2)) := by
    unfold F11_text F11_readTape
    rw [nextTx ht h10, bnd_s]
  have finA : ∀ k σd τd, F6_readInto fl (12 + 4 * t) σ = some (nI (Pn (σ 37) s k), σd) → Fr (wC4 t) σc σd → F12_text fu τ = F12_text_122 fu 0 τd → τd 0 20 = nI (Pn (σ 37) s k) → Fr (wM7 t) τc τd → ∃ v σ' τ', F11_text fl σ = some (v, σ') ∧ F12_text fu τ = some (v, τ') ∧ σ' 36 3 = 0 ∧ τ' 0 7 = 0 ∧ Fr (tC t) σ σ' ∧ Fr (tM t) τ τ' ∧ ((v < 0 ∧ σ' 10 1 = nI t ∧ τ' 0 10 = nI t) ∨ (v = nI t ∧ σ' 10 1 = nI (t + 1) ∧ τ' 0 10 = nI (t + 1) ∧ TR σ' τ' t)) := by
    intro k σd τd g1 g2 g3 g4 g5
    have hP := (Pn_le (f := σ 37) (s := s) (j := k)).2
    have e10 : τd 0 10 = nI t := by rw [g5 0 10 (by unfold wM7 wM; omega)]; exact henv.2.2.2.2.2.2.2
    have hneg : (-100 : Int32) - nI (Pn (σ 37) s k) < 0 := by
      rw [Int32.lt_iff_toInt_lt, Int32.toInt_sub, nI_toInt (by omega)]
      have e1 : (-100 : Int32).toInt = -100 := by decide
      have e0 : (0 : Int32).toInt = 0 := rfl
      rw [e1, e0, Int.bmod_eq_of_le (by omega) (by omega)]
      omega
    rw [hTE, g1, bnd_s, if_neg (nI_pos (by omega)), bnd_s, g3, end122 ht e10, if_pos rfl, g4]
    refine ⟨_, _, _, rfl, rfl, up_eq, up_eq, (c0C.tr (g2.mono w4C)).up (by unfold tC; omega), ((hfm.tr (g5.mono w7M)).up (by unfold tM wM7; omega)).up (by unfold tM; omega), Or.inl ⟨hneg, ?_, ?_⟩⟩
    · rw [up_ne (by omega), g2 _ _ (by unfold wC4 wC; omega), hfc _ _ (by unfold cC wC; omega)]; exact h10
    · unfold u22
      rw [up_ne (by omega), up_ne (by omega)]; exact e10
  obtain ⟨q, rfl⟩ : ∃ q, fu = q + 5 := ⟨fu - 5, by omega⟩
  have hwl : ∀ n x a u, wl2 (body26 (q + 5)) (n + 1) x a u = body26 (q + 5) (wl2 (body26 (q + 5)) n) x a u := fun _ _ _ _ => rfl
  have hfl0 : 0 < fl := by omega
  rcases partSim (p := 0) (k26 := wl2 (body26 (q + 5)) (q + 4)) henv (by omega) hcs hps (Nat.zero_le _) hfu hfl with ⟨σ1, τ1, j1, w1, v1, p1, p2, p3, p4, p5, p6, p7, p8, p9, p10, p11, p12, p13⟩ | ⟨σ1, τ1, k, p1, p2, p3, p4, p5⟩
  rotate_left
  · have p1 : F6_readPart fl (12 + 4 * t) 2 0 σc = some ((), σ1) := p1
    obtain ⟨σ2, g1, g2⟩ := T1F (henv.fr p2.2.2.2 p5) hfl0 p2.cf
    exact finA k σ2 τ1 (by rw [hRI, p1, bnd_s, g1]) (Fr.tr p2.2.2.2 g2) (by rw [hTX]; exact p3.trans end0) p4 p5
  have p1 : F6_readPart fl (12 + 4 * t) 2 0 σc = some ((), σ1) := p1
  have p2 : CS (σ 37) s t σ1 σ1 j1 0 w1 := p2
  have p7 : PS (σ 37) s t τ1 j1 v1 := p7
  have henv1 := henv.fr p5 p13
  have hX1 : F12_text (q + 5) τ = wl2 (body26 (q + 5)) (q + 4) 1 (nI 1) τ1 := by rw [hTX]; exact p6
  rcases partSim (p := 1) (k26 := wl2 (body26 (q + 5)) (q + 3)) henv1 (by omega) p2 p7 p12 hfu hfl with ⟨σ2, τ2, j2, w2, v2, r1, r2, r3, r4, r5, r6, r7, r8, r9, r10, r11, r12, r13⟩ | ⟨σ2, τ2, k, r1, r2, r3, r4, r5⟩
  rotate_left
  · have r1 : F6_readPart fl (12 + 4 * t) 3 1 σ1 = some ((), σ2) := r1
    obtain ⟨σ3, g1, g2⟩ := T2F (henv1.fr r2.2.2.2 r5) hfl0 r2.cf
    exact finA k σ3 τ2 (by rw [hRI, p1, bnd_s]; unfold T1; rw [r1, bnd_s, g1]) (Fr.tr p5 (Fr.tr r2.2.2.2 g2)) (by rw [hX1]; exact r3.trans end0) r4 (Fr.tr p13 r5)
  have r1 : F6_readPart fl (12 + 4 * t) 3 1 σ1 = some ((), σ2) := r1
  have henv2 := henv1.fr r5 r13
  have hX2 : F12_text (q + 5) τ = wl2 (body26 (q + 5)) (q + 3) 1 (nI 2) τ2 := by rw [hX1]; exact r6
  rcases partSim (p := 2) (k26 := wl2 (body26 (q + 5)) (q + 2)) henv2 (by omega) r2 r7 r12 hfu hfl with ⟨σ3, τ3, j3, w3, v3, s1, s2, s3, s4, s5, s6, s7, s8, s9, s10, s11, s12, s13⟩ | ⟨σ3, τ3, k, s1, s2, s3, s4, s5⟩
  rotate_left
  · have s1 : F6_readPart fl (12 + 4 * t) 4 2 σ2 = some ((), σ3) := s1
    obtain ⟨σ4, g1, g2⟩ := T3F (henv2.fr s2.2.2.2 s5) s2.cf
    exact finA k σ4 τ3 (by rw [hRI, p1, bnd_s]; unfold T1; rw [r1, bnd_s]; unfold T2; rw [s1, bnd_s, g1]) (Fr.tr p5 (Fr.tr r5 (Fr.tr s2.2.2.2 g2))) (by rw [hX2]; exact s3.trans end0) s4 (Fr.tr p13 (Fr.tr r13 s5))
  have s1 : F6_readPart fl (12 + 4 * t) 4 2 σ2 = some ((), σ3) := s1
  have henv3 := henv2.fr s5 s13
  have hX3 : F12_text (q + 5) τ = wl2 (body26 (q + 5)) (q + 2) 1 (nI 3) τ3 := by rw [hX2]; exact s6
  have hRI3 : F6_readInto fl (12 + 4 * t) σ = T3 σ3 := by rw [hRI, p1, bnd_s]; unfold T1; rw [r1, bnd_s]; unfold T2; rw [s1, bnd_s]
  have fC3 : Fr (wC4 t) σc σ3 := Fr.tr p5 (Fr.tr r5 s5)
  have fM3 : Fr (wM7 t) τc τ3 := Fr.tr p13 (Fr.tr r13 s13)
  obtain ⟨τ4, n1, n2, n3, n4, n5, n6⟩ := nextM (f := σ 37) (s := s) (j := j3) (τ := τ3) (fu := q + 5) hs henv3.2.2.2.2.1 henv3.2.2.2.2.2.1 henv3.2.2.2.2.2.2.1 s7.1 (by omega)
  have fM4 : Fr (wM7 t) τc τ4 := fM3.tr (Fr.mono n6 fun o k z => Or.inl (Or.inl (by unfold nM at z; omega)))
  have hX4 : F12_text (q + 5) τ = if τ4 0 21 = 0 then F12_text_122 (q + 5) 1 τ4 else F12_text_122 (q + 5) 0 τ4 := by
    rw [hX3, hwl]
    unfold body26 F12_text_101 F12_text_121
    rw [if_pos (show (3 : Int32) ≤ nI 3 by decide), if_neg (show ¬ (1 : Int32) = 0 by decide), n1, bnd_s]
  have hTk3 := Tn_ok (f := σ 37) (s := s) (j := j3)
  by_cases hend : Tn (σ 37) s j3 = 1
  · -- all is read
    have hst : ∃ σ4, T3 σ3 = some (-1, σ4) ∧ Fr (fun o _ => o = 40) σ3 σ4 := by
      unfold T3 F6_expect F6_step
      rw [s2.2.1, hend, if_pos (show nI 1 = (1 : Int32) from rfl), up_eq, s2.1, nI_1, tokenC (j := j3 + 1) (henv3.2.2.1.fr (σ := up σ3 40 1 (nI (j3 + 1))) (up_ne (by omega)) (fun k => up_ne (by omega)) (fun k => up_ne (by omega))) hs (by have := s2.2.2.2.2.2.2.1; omega), bnd_s, bnd_s, bnd_s]
      refine ⟨up (up σ3 40 1 (nI (j3 + 1))) 40 2 (nI (Tn (σ 37) s (j3 + 1))), ?_, Fr.up (P := fun o _ => o = 40) (Fr.up (P := fun o _ => o = 40) Fr.rf rfl) rfl⟩
      rw [up_ne (by omega), up_ne (by omega), s2.2.2.2.1]
    obtain ⟨σ4, g1, g2⟩ := hst
    have e10 : τ4 0 10 = nI t := by rw [fM4 0 10 (by unfold wM7 wM; omega)]; exact henv.2.2.2.2.2.2.2
    have c10 : up σ4 36 3 (0 : Int32) 10 1 = nI t := by
      rw [up_ne (by omega), g2 _ _ (by omega), fC3 _ _ (by unfold wC4 wC; omega), hfc _ _ (by unfold cC wC; omega)]; exact h10
    rw [hTE, hRI3, g1, bnd_s, if_pos (show (-1 : Int32) < 0 by decide), hX4, if_pos (by rw [n4]; exact rt_0.mpr hend), end122 ht e10, if_neg (show ¬ (1 : Int32) = 0 by decide)]
    unfold F10_keepNext
    rw [bnd_s, bnd_s, c10, nI_1]
    have hw12 : (w1 ++ w2).length = w1.length + w2.length := List.length_append
    have hw123 : ((w1 ++ w2) ++ w3).length = w1.length + w2.length + w3.length := by rw [List.length_append, hw12]
    have l1 := LR_len p8
    have l2 := LR_len r8
    have l3 := LR_len s8
    have hL160 : ((w1 ++ w2) ++ w3).length ≤ 160 := s2.2.2.2.2.2.2.2.1
    have hC : ∀ i, i < ((w1 ++ w2) ++ w3).length → up (up σ4 36 3 (0 : Int32)) 10 1 (nI (t + 1)) (13 + 4 * t) i = ((w1 ++ w2) ++ w3).getD i 0 := fun i hi => by
      rw [up_ne (by omega), up_ne (by omega), g2 _ _ (by omega)]
      exact s2.2.2.2.2.2.1 i hi
    have hM : ∀ i, i < ((v1 ++ v2) ++ v3).length → up (u22 t τ4) 0 10 (nI (t + 1)) 6 (200 * t + i) = nI (((v1 ++ v2) ++ v3).getD i 0) := fun i hi => by
      unfold u22
      rw [up_ne (by omega), up_ne (by omega), up_ne (by omega), n6 _ _ (by unfold nM; omega)]
      exact s7.2.2.1 i hi
    have e14 : ∀ k, up (up σ4 36 3 (0 : Int32)) 10 1 (nI (t + 1)) (14 + 4 * t) k = σ3 (14 + 4 * t) k := fun k => by
      rw [up_ne (by omega), up_ne (by omega), g2 _ _ (by omega)]
    have e7 : ∀ k, k ≠ 4 * t + 3 → up (u22 t τ4) 0 10 (nI (t + 1)) 7 k = τ3 7 k := fun k hk => by
      unfold u22
      rw [up_ne (by omega), up_ne (by omega), up_ne (by omega), n6 _ _ (by unfold nM; omega)]
    refine ⟨_, _, _, rfl, rfl, ?_, ?_, ?_, ?_, Or.inr ⟨rfl, up_eq, up_eq, w1.length, w1.length + w2.length, w1.length + w2.length + w3.length, ?_, ?_, ?_, ?_, ?_, ?_, ?_, ?_, ?_, ?_⟩⟩
    · rw [up_ne (by omega), up_eq]
    · unfold u22
      rw [up_ne (by omega), up_eq]
    · exact ((c0C.tr ((fC3.mono w4C).tr (g2.mono fun o k z => Or.inr (Or.inl (Or.inl z))))).up (by unfold tC; omega)).up (by unfold tC; omega)
    · exact (((hfm.tr (fM4.mono w7M)).up (by unfold tM wM7; omega)).up (by unfold tM; omega)).up (by unfold tM; omega)
    · rw [e14, s4 0 (by omega), r4 0 (by omega), p3]; rfl
    · rw [e14, s4 1 (by omega), r3, hw12]
    · rw [e14, s3, hw123]
    · rw [e7 _ (by omega)]
      have := s11 0 (by omega)
      rw [Nat.add_zero] at this
      rw [this]
      have := r11 0 (by omega)
      rw [Nat.add_zero] at this
      rw [this]
      rw [Nat.add_zero] at p10
      rw [p10]; rfl
    · rw [e7 _ (by omega), s11 1 (by omega), r10, l1]
    · rw [e7 _ (by omega), s10, List.length_append, ← l1, ← l2]
    · show up (u22 t τ4) 0 10 (nI (t + 1)) 7 (4 * t + 3) = _
      unfold u22
      rw [up_ne (by omega), up_ne (by omega), up_eq, n6 _ _ (by unfold nM; omega), s7.2.1, List.length_append, List.length_append, ← l1, ← l2, ← l3]
    · have := seg_of (t := t) (σ := up (up σ4 36 3 (0 : Int32)) 10 1 (nI (t + 1))) (τ := up (u22 t τ4) 0 10 (nI (t + 1))) (a := []) (w := w1) (b := w2 ++ w3) (a0 := []) (w0 := v1) (b0 := v2 ++ v3) (by rw [List.nil_append, ← List.append_assoc]; exact hC) (by rw [List.nil_append, ← List.append_assoc]; exact hM) (by rw [List.nil_append, ← List.append_assoc]; exact hL160) rfl p8 p9
      have h0 : ([] : List Int32).length = 0 := rfl
      rw [h0, Nat.zero_add] at this
      exact this
    · exact seg_of (a := w1) (w := w2) (b := w3) (a0 := v1) (w0 := v2) (b0 := v3) hC hM hL160 l1 r8 r9
    · have := seg_of (t := t) (σ := up (up σ4 36 3 (0 : Int32)) 10 1 (nI (t + 1))) (τ := up (u22 t τ4) 0 10 (nI (t + 1))) (a := w1 ++ w2) (w := w3) (b := []) (a0 := v1 ++ v2) (w0 := v3) (b0 := []) (by rw [List.append_nil]; exact hC) (by rw [List.append_nil]; exact hM) (by rw [List.append_nil]; exact hL160) (by rw [List.length_append, List.length_append, l1, l2]) s8 s9
      rw [hw12] at this
      exact this
  · -- something stands behind the last part
    obtain ⟨σ4, g1, g2⟩ := expectN (x := 1) henv3 s2 (show ¬ nI (Tn (σ 37) s j3) = (1 : Int32) from nI_eqI (b := 1) (by have := hTk3.1; omega) (by omega) hend)
    refine finA j3 σ4 τ4 ?_ (Fr.tr fC3 (g2.2.2.2.mono fun o k z => Or.inl z)) ?_ n3 fM4
    · rw [hRI3]
      unfold T3
      rw [g1, bnd_s, g2.1]
    · rw [hX4, if_neg (fun z => hend (rt_0.mp (by rw [← n4]; exact z)))]
theorem m_text {fu fl : Nat} (hfl : 170 < fl) (hfu : 170 < fu) : Both (F11_text fl) (F12_text fu) := by
  intro σ τ hR
  obtain ⟨n, r, t, w, hA⟩ := id hR
  obtain ⟨t1, t2, t3, t4⟩ := id hA.2.2.1
  have hmis := hA.2.2.2.2.2.2
  rcases Nat.lt_or_ge t 6 with ht | ht
  · obtain ⟨v, σ', τ', a1, a2, a3, a4, a5, a6, a7⟩ := text_rel hA.2.2.2.1 ht t2 t3 hmis.2.2 hfu hfl
    have hTR : ∀ i, i < t → TR σ' τ' i := fun i hi => (t4 i hi).frx (funext fun k => a5 _ _ (by unfold tC cC wC; omega)) (funext fun k => a5 _ _ (by unfold tC cC wC; omega)) (fun k _ => a6 _ _ (by unfold tM wM7 wM; omega)) (fun k _ => a6 _ _ (by unfold tM wM7 wM; omega))
    have hTape : TapeR σ' τ' := ⟨0, by omega, a3, a4, fun k hk => absurd hk (Nat.not_lt_zero k)⟩
    have cc : ∀ o k, (0 < o ∧ o < 10) ∨ (o = 10 ∧ k = 2) ∨ (59 ≤ o ∧ o ≤ 76) ∨ (o = 0 ∧ 12 ≤ k ∧ k ≤ 13) → σ' o k = σ o k := fun o k q => a5 o k (by unfold tC cC wC; omega)
    have mm : ∀ o k, (0 < o ∧ o < 5) ∨ (8 ≤ o ∧ o ≤ 14) ∨ o = 22 ∨ (o = 0 ∧ (k = 0 ∨ k = 2 ∨ k = 11 ∨ k = 12 ∨ k = 39)) → τ' o k = τ o k := fun o k q => a6 o k (by unfold tM wM7 wM; omega)
    rcases a7 with ⟨-, b1, b2⟩ | ⟨-, b1, b2, b3⟩
    · exact ⟨v, σ', τ', a1, a2, n, r, t, w, hA.ofT ⟨t1, b1, b2, hTR⟩ (Nat.le_refl _) hTape cc mm⟩
    · refine ⟨v, σ', τ', a1, a2, n, r, t + 1, w, hA.ofT ⟨by omega, b1, b2, fun i hi => ?_⟩ (by omega) hTape cc mm⟩
      by_cases hit : i = t
      · rw [hit]; exact b3
      · exact hTR i (by omega)
  · obtain rfl : t = 6 := by omega
    unfold F11_text F11_readTape F10_next F10_textAt F12_text F10_textAt_22
    rw [t2, t3, if_neg (by decide), if_pos (by decide), if_pos (by decide), bnd_s]
    exact ⟨_, _, _, rfl, rfl, hR⟩
end
