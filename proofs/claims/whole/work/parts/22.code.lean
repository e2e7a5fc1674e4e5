set_option maxRecDepth 10000 in
theorem b6_readAnd_7 {α : WA} {κ : KT} {rc : Nat → Nat → M2 → Option (Unit × M2)} {m : Nat} {fu : Nat} {σ' : M2} {x1 : Nat} {x2 : Int32} (C : Cx (ωC α) κ cX6_readAnd 3 "EveryoneWins$Reader" (none)) (e : κ.2.2.2.2.2.2.2.2.2 = (none, σ')) (hm : 12 ≤ m) (hrc : ∀ tag t σ σ', rc tag t σ = some ((), σ') → CtR α κ.2.1 m tag t σ σ')  {σ : M2} (h : F6_readAnd_7 rc fu x1 x2 σ = some ((), σ')) : J (ωC α) κ (m + 7) 3 7 [(0, .ref (wad (ωC α) 40)), (1, .ref (wad (ωC α) x1)), (2, .int x2)] [] σ := by
  unfold F6_readAnd_7 at h
  refine wl1_ind (fun x2 σ => J (ωC α) κ (m + 7) 3 7 [(0, .ref (wad (ωC α) 40)), (1, .ref (wad (ωC α) x1)), (2, .int x2)] [] σ) ?_ fu x2 σ h
  intro k7 hk7 x2 σ h
  try dsimp only at h
  show J (ωC α) κ (m + 7) 3 7 [(0, .ref (wad (ωC α) 40)), (1, .ref (wad (ωC α) x1)), (2, .int x2)] [] σ
  refine j_iload_n C 2 dX6_readAnd_7 rfl ?_
  refine j_sipush (v := 160) C dX6_readAnd_8 (by decide) ?_
  refine j_icmp_ge (tgt := 44) C dX6_readAnd_11 (by decide) (fun c1 => ?_) (fun c1 => ?_)
  · replace h := it c1 h
    obtain ⟨-, hs⟩ := s2_inj h
    subst hs
    exact j_vret C e dX6_readAnd_44
  · replace h := ie c1 h
    refine j_aload_n C 0 dX6_readAnd_14 rfl ?_
    refine j_geti (o := 40) (j := 2) C inT6 (ci := 5) rfl (by decide) (rfl) rfl rfl wd_234 dX6_readAnd_15 ?_
    refine j_bipush (v := 6) C dX6_readAnd_18 (by decide) ?_
    refine j_icmp_ne (tgt := 44) C dX6_readAnd_20 (by decide) (fun c2 => ?_) (fun c2 => ?_)
    · replace h := ie c2 h
      obtain ⟨-, hs⟩ := s2_inj h
      subst hs
      exact j_vret C e dX6_readAnd_44
    · replace h := it c2 h
      refine j_aload_n C 0 dX6_readAnd_23 rfl ?_
      obtain ⟨r3, s4, hc5, h⟩ := bnd_some h
      refine k_V (v := none) C vb_X6_step (ci := 5) (T := TX6) (N := 5) rfl (by decide) (c6_step _ hc5) rfl (by omega) wd_507 (rfl) rfl dX6_readAnd_24 ?_
      show J (ωC α) κ _ _ 27 _ [] s4
      refine j_aload_n C 0 dX6_readAnd_27 rfl ?_
      refine j_aload_n C 1 dX6_readAnd_28 rfl ?_
      obtain ⟨r6, s7, hc8, h⟩ := bnd_some h
      refine k_V (v := none) C vb_X6_readNot (ci := 5) (T := TX6) (N := 5) rfl (by decide) (c6_readNot _ hm hrc hc8) rfl (by omega) wd_527 (rfl) rfl dX6_readAnd_29 ?_
      show J (ωC α) κ _ _ 32 _ [] s7
      refine j_aload_n C 1 dX6_readAnd_32 rfl ?_
      refine j_bipush (v := -14) C dX6_readAnd_33 (by decide) ?_
      obtain ⟨g9, h⟩ := gd_some h
      obtain ⟨r10, s11, hc12, h⟩ := bnd_some h
      refine k_V (v := none) C vb_X9_add (ci := 8) (T := TX9) (N := 5) rfl (by decide) (c9_add _ hc12) rfl (by omega) wd_547 (isO_sh g9) rfl dX6_readAnd_35 ?_
      show J (ωC α) κ _ _ 38 _ [] s11
      refine j_iinc (L' := [(2, .int (x2 + 1)), (0, .ref (wad (ωC α) 40)), (1, .ref (wad (ωC α) x1))]) C 2 dX6_readAnd_38 rfl rfl rfl rfl ?_
      refine j_goto (tgt := 7) C dX6_readAnd_41 (by decide) ?_
      exact j_sub [1, 2, 0] rfl (hk7 _ _ h)
set_option maxRecDepth 10000 in
theorem c6_readAnd (l : Launch) {α : WA} {rc : Nat → Nat → M2 → Option (Unit × M2)} {m : Nat} {fu : Nat} {a1 : Nat} {σ σ' : M2}  (hm : 12 ≤ m) (hrc : ∀ tag t σ σ', rc tag t σ = some ((), σ') → CtR α l m tag t σ σ') (h : F6_readAnd rc fu a1 σ = some ((), σ')) : Ct l (ωC α) yX6_readAnd cX6_readAnd 3 (none) (m + 7) [.ref (wad (ωC α) 40), .ref (wad (ωC α) a1)] σ (none) σ' := by
  unfold F6_readAnd at h
  refine Ct.of (own := "EveryoneWins$Reader") (L := [(0, .ref (wad (ωC α) 40)), (1, .ref (wad (ωC α) a1))]) (by decide +kernel) rfl rfl rfl (fun κ hl e C => ?_)
  subst hl
  show J (ωC α) κ (m + 7) 3 0 [(0, .ref (wad (ωC α) 40)), (1, .ref (wad (ωC α) a1))] [] σ
  refine j_aload_n C 0 dX6_readAnd_0 rfl ?_
  refine j_aload_n C 1 dX6_readAnd_1 rfl ?_
  obtain ⟨r1, s2, hc3, h⟩ := bnd_some h
  refine k_V (v := none) C vb_X6_readNot (ci := 5) (T := TX6) (N := 5) rfl (by decide) (c6_readNot _ hm hrc hc3) rfl (by omega) wd_527 (rfl) rfl dX6_readAnd_2 ?_
  show J (ωC α) κ _ _ 5 _ [] s2
  refine j_iconst (v := 0) C dX6_readAnd_5 (by decide) ?_
  refine j_istore_n (L' := [(2, .int (0 : Int32)), (0, .ref (wad (ωC α) 40)), (1, .ref (wad (ωC α) a1))]) C dX6_readAnd_6 rfl rfl rfl ?_
  exact j_sub [1, 2, 0] rfl (b6_readAnd_7 C e hm hrc h)
set_option maxRecDepth 10000 in
theorem b6_readE_7 {α : WA} {κ : KT} {rc : Nat → Nat → M2 → Option (Unit × M2)} {m : Nat} {fu : Nat} {σ' : M2} {x1 : Nat} {x2 : Int32} (C : Cx (ωC α) κ cX6_readE 3 "EveryoneWins$Reader" (none)) (e : κ.2.2.2.2.2.2.2.2.2 = (none, σ')) (hm : 12 ≤ m) (hrc : ∀ tag t σ σ', rc tag t σ = some ((), σ') → CtR α κ.2.1 m tag t σ σ')  {σ : M2} (h : F6_readE_7 rc fu x1 x2 σ = some ((), σ')) : J (ωC α) κ (m + 8) 3 7 [(0, .ref (wad (ωC α) 40)), (1, .ref (wad (ωC α) x1)), (2, .int x2)] [] σ := by
  unfold F6_readE_7 at h
  refine wl1_ind (fun x2 σ => J (ωC α) κ (m + 8) 3 7 [(0, .ref (wad (ωC α) 40)), (1, .ref (wad (ωC α) x1)), (2, .int x2)] [] σ) ?_ fu x2 σ h
  intro k7 hk7 x2 σ h
  try dsimp only at h
  show J (ωC α) κ (m + 8) 3 7 [(0, .ref (wad (ωC α) 40)), (1, .ref (wad (ωC α) x1)), (2, .int x2)] [] σ
  refine j_iload_n C 2 dX6_readE_7 rfl ?_
  refine j_sipush (v := 160) C dX6_readE_8 (by decide) ?_
  refine j_icmp_ge (tgt := 43) C dX6_readE_11 (by decide) (fun c1 => ?_) (fun c1 => ?_)
  · replace h := it c1 h
    obtain ⟨-, hs⟩ := s2_inj h
    subst hs
    exact j_vret C e dX6_readE_43
  · replace h := ie c1 h
    refine j_aload_n C 0 dX6_readE_14 rfl ?_
    refine j_geti (o := 40) (j := 2) C inT6 (ci := 5) rfl (by decide) (rfl) rfl rfl wd_234 dX6_readE_15 ?_
    refine j_iconst (v := 5) C dX6_readE_18 (by decide) ?_
    refine j_icmp_ne (tgt := 43) C dX6_readE_19 (by decide) (fun c2 => ?_) (fun c2 => ?_)
    · replace h := ie c2 h
      obtain ⟨-, hs⟩ := s2_inj h
      subst hs
      exact j_vret C e dX6_readE_43
    · replace h := it c2 h
      refine j_aload_n C 0 dX6_readE_22 rfl ?_
      obtain ⟨r3, s4, hc5, h⟩ := bnd_some h
      refine k_V (v := none) C vb_X6_step (ci := 5) (T := TX6) (N := 5) rfl (by decide) (c6_step _ hc5) rfl (by omega) wd_507 (rfl) rfl dX6_readE_23 ?_
      show J (ωC α) κ _ _ 26 _ [] s4
      refine j_aload_n C 0 dX6_readE_26 rfl ?_
      refine j_aload_n C 1 dX6_readE_27 rfl ?_
      obtain ⟨r6, s7, hc8, h⟩ := bnd_some h
      refine k_V (v := none) C vb_X6_readAnd (ci := 5) (T := TX6) (N := 5) rfl (by decide) (c6_readAnd _ hm hrc hc8) rfl (by omega) wd_523 (rfl) rfl dX6_readE_28 ?_
      show J (ωC α) κ _ _ 31 _ [] s7
      refine j_aload_n C 1 dX6_readE_31 rfl ?_
      refine j_bipush (v := -15) C dX6_readE_32 (by decide) ?_
      obtain ⟨g9, h⟩ := gd_some h
      obtain ⟨r10, s11, hc12, h⟩ := bnd_some h
      refine k_V (v := none) C vb_X9_add (ci := 8) (T := TX9) (N := 5) rfl (by decide) (c9_add _ hc12) rfl (by omega) wd_547 (isO_sh g9) rfl dX6_readE_34 ?_
      show J (ωC α) κ _ _ 37 _ [] s11
      refine j_iinc (L' := [(2, .int (x2 + 1)), (0, .ref (wad (ωC α) 40)), (1, .ref (wad (ωC α) x1))]) C 2 dX6_readE_37 rfl rfl rfl rfl ?_
      refine j_goto (tgt := 7) C dX6_readE_40 (by decide) ?_
      exact j_sub [1, 2, 0] rfl (hk7 _ _ h)
set_option maxRecDepth 10000 in
theorem c6_readE (l : Launch) {α : WA} {rc : Nat → Nat → M2 → Option (Unit × M2)} {m : Nat} {fu : Nat} {a1 : Nat} {σ σ' : M2}  (hm : 12 ≤ m) (hrc : ∀ tag t σ σ', rc tag t σ = some ((), σ') → CtR α l m tag t σ σ') (h : F6_readE rc fu a1 σ = some ((), σ')) : Ct l (ωC α) yX6_readE cX6_readE 3 (none) (m + 8) [.ref (wad (ωC α) 40), .ref (wad (ωC α) a1)] σ (none) σ' := by
  unfold F6_readE at h
  refine Ct.of (own := "EveryoneWins$Reader") (L := [(0, .ref (wad (ωC α) 40)), (1, .ref (wad (ωC α) a1))]) (by decide +kernel) rfl rfl rfl (fun κ hl e C => ?_)
  subst hl
  show J (ωC α) κ (m + 8) 3 0 [(0, .ref (wad (ωC α) 40)), (1, .ref (wad (ωC α) a1))] [] σ
  refine j_aload_n C 0 dX6_readE_0 rfl ?_
  refine j_aload_n C 1 dX6_readE_1 rfl ?_
  obtain ⟨r1, s2, hc3, h⟩ := bnd_some h
  refine k_V (v := none) C vb_X6_readAnd (ci := 5) (T := TX6) (N := 5) rfl (by decide) (c6_readAnd _ hm hrc hc3) rfl (by omega) wd_523 (rfl) rfl dX6_readE_2 ?_
  show J (ωC α) κ _ _ 5 _ [] s2
  refine j_iconst (v := 0) C dX6_readE_5 (by decide) ?_
  refine j_istore_n (L' := [(2, .int (0 : Int32)), (0, .ref (wad (ωC α) 40)), (1, .ref (wad (ωC α) a1))]) C dX6_readE_6 rfl rfl rfl ?_
  exact j_sub [1, 2, 0] rfl (b6_readE_7 C e hm hrc h)
set_option maxRecDepth 10000 in
theorem cG (l : Launch) {α : WA} {fu : Nat} : ∀ (d tag t : Nat) (σ σ' : M2), F6_grp fu d tag t σ = some ((), σ') → CtR α l (12 + 9 * d) tag t σ σ' := by
  intro d
  induction d with
  | zero => intro tag t σ σ' h; cases h
  | succ d ih =>
    intro tag t σ σ' h
    have h : (if tag = 0 then F6_readE (F6_grp fu d) fu t σ else if tag = 1 then F6_readNot (F6_grp fu d) fu t σ else if tag = 2 then F6_readOne (F6_grp fu d) t σ else none) = some ((), σ') := h
    have em : 12 + 9 * (d + 1) - 9 = 12 + 9 * d := by omega
    refine ⟨fun ht => ?_, fun ht => ?_, fun ht => ?_⟩
    · subst ht
      rw [em]
      exact c6_readE l (by omega) ih (it rfl h)
    · subst ht
      rw [em]
      exact c6_readNot l (by omega) ih (it rfl (ie (by decide) h))
    · subst ht
      rw [em]
      exact c6_readOne l (by omega) ih (it rfl (ie (by decide) (ie (by decide) h)))
set_option maxRecDepth 10000 in
theorem c9_endPart (l : Launch) {α : WA}  {t : Nat} {a1 : Int32} {σ σ' : M2}  (h : F9_endPart t a1 σ = some ((), σ')) : Ct l (ωC α) yX9_endPart cX9_endPart 2 (none) 2 [.ref (wad (ωC α) t), .int a1] σ (none) σ' := by
  unfold F9_endPart at h
  refine Ct.of (own := "EveryoneWins$Text") (L := [(0, .ref (wad (ωC α) t)), (1, .int a1)]) (by decide +kernel) rfl rfl rfl (fun κ hl e C => ?_)
  show J (ωC α) κ 2 2 0 [(0, .ref (wad (ωC α) t)), (1, .int a1)] [] σ
  refine j_aload_n C 0 dX9_endPart_0 rfl ?_
  obtain ⟨g1, h⟩ := gd_some h
  refine j_getr (o := t) (j := 1) C inT9 (ci := 8) rfl (by decide) (isO_sh g1) rfl rfl wd_176 dX9_endPart_1 (o' := crf t 1) rfl ?_
  refine j_iload_n C 1 dX9_endPart_4 rfl ?_
  refine j_aload_n C 0 dX9_endPart_5 rfl ?_
  refine j_geti (o := t) (j := 3) C inT9 (ci := 8) rfl (by decide) (isO_sh g1) rfl rfl wd_178 dX9_endPart_6 ?_
  obtain ⟨r2, s3, hc4, h⟩ := bnd_some h
  refine k_N (v := none) C sb_X11_set (c11_set _ hc4) rfl (by decide) wn_572 rfl dX9_endPart_9 ?_
  show J (ωC α) κ _ _ 12 _ [] s3
  obtain ⟨-, hs⟩ := s2_inj h
  subst hs
  exact j_vret C e dX9_endPart_12
set_option maxRecDepth 10000 in
theorem c6_readPart (l : Launch) {α : WA} {fu : Nat} {a1 : Nat} {a2 : Int32} {a3 : Int32} {σ σ' : M2}  (h : F6_readPart fu a1 a2 a3 σ = some ((), σ')) : Ct l (ωC α) yX6_readPart cX6_readPart 4 (none) 84 [.ref (wad (ωC α) 40), .ref (wad (ωC α) a1), .int a2, .int a3] σ (none) σ' := by
  unfold F6_readPart at h
  refine Ct.of (own := "EveryoneWins$Reader") (L := [(0, .ref (wad (ωC α) 40)), (1, .ref (wad (ωC α) a1)), (2, .int a2), (3, .int a3)]) (by decide +kernel) rfl rfl rfl (fun κ hl e C => ?_)
  show J (ωC α) κ 84 4 0 [(0, .ref (wad (ωC α) 40)), (1, .ref (wad (ωC α) a1)), (2, .int a2), (3, .int a3)] [] σ
  refine j_aload_n C 0 dX6_readPart_0 rfl ?_
  refine j_iload_n C 2 dX6_readPart_1 rfl ?_
  obtain ⟨r1, s2, hc3, h⟩ := bnd_some h
  refine k_V (v := none) C vb_X6_expect (ci := 5) (T := TX6) (N := 5) rfl (by decide) (c6_expect _ hc3) rfl (by decide) wd_503 (rfl) rfl dX6_readPart_2 ?_
  show J (ωC α) κ _ _ 5 _ [] s2
  refine j_aload_n C 0 dX6_readPart_5 rfl ?_
  refine j_aload_n C 1 dX6_readPart_6 rfl ?_
  obtain ⟨r4, s5, hc6, h⟩ := bnd_some h
  refine k_V (v := none) C vb_X6_readE (ci := 5) (T := TX6) (N := 5) rfl (by decide) (c6_readE (m := 75) _ (by decide) (cG _ 7) hc6) rfl (by decide) wd_519 (rfl) rfl dX6_readPart_7 ?_
  show J (ωC α) κ _ _ 10 _ [] s5
  refine j_aload_n C 0 dX6_readPart_10 rfl ?_
  refine j_bipush (v := 59) C dX6_readPart_11 (by decide) ?_
  obtain ⟨r7, s8, hc9, h⟩ := bnd_some h
  refine k_V (v := none) C vb_X6_expect (ci := 5) (T := TX6) (N := 5) rfl (by decide) (c6_expect _ hc9) rfl (by decide) wd_503 (rfl) rfl dX6_readPart_13 ?_
  show J (ωC α) κ _ _ 16 _ [] s8
  refine j_aload_n C 1 dX6_readPart_16 rfl ?_
  refine j_iload_n C 3 dX6_readPart_17 rfl ?_
  obtain ⟨g10, h⟩ := gd_some h
  obtain ⟨r11, s12, hc13, h⟩ := bnd_some h
  refine k_V (v := none) C vb_X9_endPart (ci := 8) (T := TX9) (N := 5) rfl (by decide) (c9_endPart _ hc13) rfl (by decide) wd_568 (isO_sh g10) rfl dX6_readPart_18 ?_
  show J (ωC α) κ _ _ 21 _ [] s12
  obtain ⟨-, hs⟩ := s2_inj h
  subst hs
  exact j_vret C e dX6_readPart_21
set_option maxRecDepth 10000 in
theorem c6_readInto (l : Launch) {α : WA} {fu : Nat} {a1 : Nat} {σ σ' : M2} {v : Int32}  (h : F6_readInto fu a1 σ = some (v, σ')) : Ct l (ωC α) yX6_readInto cX6_readInto 2 (some FieldType.int) 85 [.ref (wad (ωC α) 40), .ref (wad (ωC α) a1)] σ (some (.int v)) σ' := by
  unfold F6_readInto at h
  refine Ct.of (own := "EveryoneWins$Reader") (L := [(0, .ref (wad (ωC α) 40)), (1, .ref (wad (ωC α) a1))]) (by decide +kernel) rfl rfl rfl (fun κ hl e C => ?_)
  show J (ωC α) κ 85 2 0 [(0, .ref (wad (ωC α) 40)), (1, .ref (wad (ωC α) a1))] [] σ
  refine j_aload_n C 1 dX6_readInto_0 rfl ?_
  obtain ⟨g1, h⟩ := gd_some h
  obtain ⟨r2, s3, hc4, h⟩ := bnd_some h
  refine k_V (v := none) C vb_X9_clear (ci := 8) (T := TX9) (N := 5) rfl (by decide) (c9_clear _ hc4) rfl (by decide) wd_431 (isO_sh g1) rfl dX6_readInto_1 ?_
  show J (ωC α) κ _ _ 4 _ [] s3
  refine j_aload_n C 0 dX6_readInto_4 rfl ?_
  refine j_getr (o := 40) (j := 0) C inT6 (ci := 5) rfl (by decide) (rfl) rfl rfl wd_232 dX6_readInto_5 (o' := 36) rfl ?_
  obtain ⟨r5, s6, hc7, h⟩ := bnd_some h
  refine k_V (v := none) C vb_X8_cut (ci := 7) (T := TX8) (N := 5) rfl (by decide) (c8_cut _ hc7) rfl (by decide) wd_435 (rfl) rfl dX6_readInto_8 ?_
  show J (ωC α) κ _ _ 11 _ [] s6
  refine j_aload_n C 0 dX6_readInto_11 rfl ?_
  refine j_iconst (v := 0) C dX6_readInto_12 (by decide) ?_
  refine j_puti (o := 40) (j := 1) C inT6 tyX6_ok nmX6 (ci := 5) rfl (by decide) (rfl) rfl rfl rfl (tyX6_ok 1 (by decide)) rfl rfl wd_233 dX6_readInto_13 ?_
  refine j_aload_n C 0 dX6_readInto_16 rfl ?_
  refine j_aload_n C 0 dX6_readInto_17 rfl ?_
  refine j_getr (o := 40) (j := 0) C inT6 (ci := 5) rfl (by decide) (rfl) rfl rfl wd_232 dX6_readInto_18 (o' := 36) rfl ?_
  refine j_iconst (v := 0) C dX6_readInto_21 (by decide) ?_
  obtain ⟨r8, s9, hc10, h⟩ := bnd_some h
  refine k_V (v := some (.int r8)) C vb_X8_token (ci := 7) (T := TX8) (N := 5) rfl (by decide) (c8_token _ hc10) rfl (by decide) wd_495 (rfl) rfl dX6_readInto_22 ?_
  show J (ωC α) κ _ _ 25 _ [.int r8, .ref (wad (ωC α) 40)] s9
  refine j_puti (o := 40) (j := 2) C inT6 tyX6_ok nmX6 (ci := 5) rfl (by decide) (rfl) rfl rfl rfl (tyX6_ok 2 (by decide)) rfl rfl wd_234 dX6_readInto_25 ?_
  refine j_aload_n C 0 dX6_readInto_28 rfl ?_
  refine j_iconst (v := 0) C dX6_readInto_29 (by decide) ?_
  refine j_puti (o := 40) (j := 3) C inT6 tyX6_ok nmX6 (ci := 5) rfl (by decide) (rfl) rfl rfl rfl (tyX6_ok 3 (by decide)) rfl rfl wd_235 dX6_readInto_30 ?_
  refine j_aload_n C 0 dX6_readInto_33 rfl ?_
  refine j_iconst (v := -1) C dX6_readInto_34 (by decide) ?_
  refine j_puti (o := 40) (j := 4) C inT6 tyX6_ok nmX6 (ci := 5) rfl (by decide) (rfl) rfl rfl rfl (tyX6_ok 4 (by decide)) rfl rfl wd_236 dX6_readInto_35 ?_
  refine j_aload_n C 0 dX6_readInto_38 rfl ?_
  refine j_aload_n C 1 dX6_readInto_39 rfl ?_
  refine j_iconst (v := 2) C dX6_readInto_40 (by decide) ?_
  refine j_iconst (v := 0) C dX6_readInto_41 (by decide) ?_
  obtain ⟨r11, s12, hc13, h⟩ := bnd_some h
  refine k_V (v := none) C vb_X6_readPart (ci := 5) (T := TX6) (N := 5) rfl (by decide) (c6_readPart _ hc13) rfl (by decide) wd_499 (rfl) rfl dX6_readInto_42 ?_
  show J (ωC α) κ _ _ 45 _ [] s12
  refine j_aload_n C 0 dX6_readInto_45 rfl ?_
  refine j_aload_n C 1 dX6_readInto_46 rfl ?_
  refine j_iconst (v := 3) C dX6_readInto_47 (by decide) ?_
  refine j_iconst (v := 1) C dX6_readInto_48 (by decide) ?_
  obtain ⟨r14, s15, hc16, h⟩ := bnd_some h
  refine k_V (v := none) C vb_X6_readPart (ci := 5) (T := TX6) (N := 5) rfl (by decide) (c6_readPart _ hc16) rfl (by decide) wd_499 (rfl) rfl dX6_readInto_49 ?_
  show J (ωC α) κ _ _ 52 _ [] s15
  refine j_aload_n C 0 dX6_readInto_52 rfl ?_
  refine j_aload_n C 1 dX6_readInto_53 rfl ?_
  refine j_iconst (v := 4) C dX6_readInto_54 (by decide) ?_
  refine j_iconst (v := 2) C dX6_readInto_55 (by decide) ?_
  obtain ⟨r17, s18, hc19, h⟩ := bnd_some h
  refine k_V (v := none) C vb_X6_readPart (ci := 5) (T := TX6) (N := 5) rfl (by decide) (c6_readPart _ hc19) rfl (by decide) wd_499 (rfl) rfl dX6_readInto_56 ?_
  show J (ωC α) κ _ _ 59 _ [] s18
  refine j_aload_n C 0 dX6_readInto_59 rfl ?_
  refine j_iconst (v := 1) C dX6_readInto_60 (by decide) ?_
  obtain ⟨r20, s21, hc22, h⟩ := bnd_some h
  refine k_V (v := none) C vb_X6_expect (ci := 5) (T := TX6) (N := 5) rfl (by decide) (c6_expect _ hc22) rfl (by decide) wd_503 (rfl) rfl dX6_readInto_61 ?_
  show J (ωC α) κ _ _ 64 _ [] s21
  refine j_aload_n C 0 dX6_readInto_64 rfl ?_
  refine j_geti (o := 40) (j := 4) C inT6 (ci := 5) rfl (by decide) (rfl) rfl rfl wd_236 dX6_readInto_65 ?_
  obtain ⟨hv, hs⟩ := s2_inj h
  subst hv
  subst hs
  exact j_iret C e dX6_readInto_68
set_option maxRecDepth 10000 in
theorem c7_isMissing (l : Launch) {α : WA}  {t : Nat} {σ σ' : M2} {v : Int32}  (h : F7_isMissing t σ = some (v, σ')) : Ct l (ωC α) yX7_isMissing cX7_isMissing 1 (some FieldType.boolean) 1 [.ref (wad (ωC α) t)] σ (some (.int v)) σ' := by
  unfold F7_isMissing at h
  refine Ct.of (own := "EveryoneWins$Sheet") (L := [(0, .ref (wad (ωC α) t))]) (by decide +kernel) rfl rfl rfl (fun κ hl e C => ?_)
  show J (ωC α) κ 1 1 0 [(0, .ref (wad (ωC α) t))] [] σ
  refine j_aload_n C 0 dX7_isMissing_0 rfl ?_
  obtain ⟨g1, h⟩ := gd_some h
  refine j_geti (o := t) (j := 1) C inT7 (ci := 6) rfl (by decide) (isO_sh g1) rfl rfl wd_351 dX7_isMissing_1 ?_
  refine j_iconst (v := -1) C dX7_isMissing_4 (by decide) ?_
  refine j_icmp_ne (tgt := 12) C dX7_isMissing_5 (by decide) (fun c2 => ?_) (fun c2 => ?_)
  · replace h := ie c2 h
    refine j_iconst (v := 0) C dX7_isMissing_12 (by decide) ?_
    obtain ⟨hv, hs⟩ := s2_inj h
    subst hv
    subst hs
    exact j_zret C e rfl dX7_isMissing_13
  · replace h := it c2 h
    refine j_iconst (v := 1) C dX7_isMissing_8 (by decide) ?_
    refine j_goto (tgt := 13) C dX7_isMissing_9 (by decide) ?_
    obtain ⟨hv, hs⟩ := s2_inj h
    subst hv
    subst hs
    exact j_zret C e rfl dX7_isMissing_13
set_option maxRecDepth 10000 in
theorem c7_vanish (l : Launch) {α : WA}  {t : Nat} {σ σ' : M2}  (h : F7_vanish t σ = some ((), σ')) : Ct l (ωC α) yX7_vanish cX7_vanish 1 (none) 1 [.ref (wad (ωC α) t)] σ (none) σ' := by
  unfold F7_vanish at h
  refine Ct.of (own := "EveryoneWins$Sheet") (L := [(0, .ref (wad (ωC α) t))]) (by decide +kernel) rfl rfl rfl (fun κ hl e C => ?_)
  show J (ωC α) κ 1 1 0 [(0, .ref (wad (ωC α) t))] [] σ
  refine j_aload_n C 0 dX7_vanish_0 rfl ?_
  refine j_iconst (v := -1) C dX7_vanish_1 (by decide) ?_
  obtain ⟨g1, h⟩ := gd_some h
  refine j_puti (o := t) (j := 1) C inT7 tyX7_ok nmX7 (ci := 6) rfl (by decide) (isO_sh g1) rfl rfl rfl (tyX7_ok 1 (by decide)) rfl rfl wd_351 dX7_vanish_2 ?_
  refine j_aload_n C 0 dX7_vanish_5 rfl ?_
  refine j_iconst (v := 0) C dX7_vanish_6 (by decide) ?_
  refine j_puti (o := t) (j := 2) C inT7 tyX7_ok nmX7 (ci := 6) rfl (by decide) (isO_sh g1) rfl rfl rfl (tyX7_ok 2 (by decide)) rfl rfl wd_353 dX7_vanish_7 ?_
  obtain ⟨-, hs⟩ := s2_inj h
  subst hs
  exact j_vret C e dX7_vanish_10
set_option maxRecDepth 10000 in
theorem b7_become_12 {α : WA} {κ : KT} {fu : Nat} {σ' : M2} {x0 : Nat} {x3 : Int32} (C : Cx (ωC α) κ cX7_become 4 "EveryoneWins$Sheet" (none)) (e : κ.2.2.2.2.2.2.2.2.2 = (none, σ'))  {σ : M2} (h : F7_become_12 fu x0 x3 σ = some ((), σ')) : J (ωC α) κ 1 4 12 [(0, .ref (wad (ωC α) x0)), (3, .int x3)] [] σ := by
  unfold F7_become_12 at h
  refine wl1_ind (fun x3 σ => J (ωC α) κ 1 4 12 [(0, .ref (wad (ωC α) x0)), (3, .int x3)] [] σ) ?_ fu x3 σ h
  intro k12 hk12 x3 σ h
  try dsimp only at h
  show J (ωC α) κ 1 4 12 [(0, .ref (wad (ωC α) x0)), (3, .int x3)] [] σ
  refine j_iload_n C 1 dX7_become_12 rfl ?_
  refine j_aload_n C 0 dX7_become_13 rfl ?_
  obtain ⟨g1, h⟩ := gd_some h
  refine j_getr (o := x0) (j := 0) C inT7 (ci := 6) rfl (by decide) (isO_sh g1) rfl rfl wd_349 dX7_become_14 (o' := crf x0 0) rfl ?_
  obtain ⟨g2, h⟩ := gd_some h
  refine j_alen (N := (csh (crf x0 0)).2) C (isA_sh g2) (by decide) rfl dX7_become_17 ?_
  refine j_icmp_ge (tgt := 34) C dX7_become_18 (by decide) (fun c3 => ?_) (fun c3 => ?_)
  · replace h := it c3 h
    obtain ⟨-, hs⟩ := s2_inj h
    subst hs
    exact j_vret C e dX7_become_34
  · replace h := ie c3 h
    refine j_aload_n C 0 dX7_become_21 rfl ?_
    refine j_getr (o := x0) (j := 0) C inT7 (ci := 6) rfl (by decide) (isO_sh g1) rfl rfl wd_349 dX7_become_22 (o' := crf x0 0) rfl ?_
    refine j_iload_n C 1 dX7_become_25 rfl ?_
    refine j_iconst (v := 0) C dX7_become_26 (by decide) ?_
    obtain ⟨g4, h⟩ := gd_some h
    refine j_iastore (N := (csh (crf x0 0)).2) C (isA_sh g2) (inb_in g4) dX7_become_27 ?_
    refine j_iinc (L' := [(3, .int (x3 + 1)), (0, .ref (wad (ωC α) x0))]) C 1 dX7_become_28 rfl rfl rfl rfl ?_
    refine j_goto (tgt := 12) C dX7_become_31 (by decide) ?_
    exact j_sub [1, 0] rfl (hk12 _ _ h)
set_option maxRecDepth 10000 in
theorem c7_become (l : Launch) {α : WA} {fu : Nat} {t : Nat} {a1 : Int32} {a2 : Int32} {σ σ' : M2}  (h : F7_become fu t a1 a2 σ = some ((), σ')) : Ct l (ωC α) yX7_become cX7_become 4 (none) 1 [.ref (wad (ωC α) t), .int a1, .int a2] σ (none) σ' := by
  unfold F7_become at h
  refine Ct.of (own := "EveryoneWins$Sheet") (L := [(0, .ref (wad (ωC α) t)), (1, .int a1), (2, .int a2)]) (by decide +kernel) rfl rfl rfl (fun κ hl e C => ?_)
  show J (ωC α) κ 1 4 0 [(0, .ref (wad (ωC α) t)), (1, .int a1), (2, .int a2)] [] σ
  refine j_aload_n C 0 dX7_become_0 rfl ?_
  refine j_iload_n C 1 dX7_become_1 rfl ?_
  obtain ⟨g1, h⟩ := gd_some h
  refine j_puti (o := t) (j := 1) C inT7 tyX7_ok nmX7 (ci := 6) rfl (by decide) (isO_sh g1) rfl rfl rfl (tyX7_ok 1 (by decide)) rfl rfl wd_351 dX7_become_2 ?_
  refine j_aload_n C 0 dX7_become_5 rfl ?_
  refine j_iload_n C 2 dX7_become_6 rfl ?_
  refine j_puti (o := t) (j := 2) C inT7 tyX7_ok nmX7 (ci := 6) rfl (by decide) (isO_sh g1) rfl rfl rfl (tyX7_ok 2 (by decide)) rfl rfl wd_353 dX7_become_7 ?_
  refine j_iconst (v := 0) C dX7_become_10 (by decide) ?_
  refine j_istore_n (L' := [(3, .int (0 : Int32)), (0, .ref (wad (ωC α) t)), (1, .int a1), (2, .int a2)]) C dX7_become_11 rfl rfl rfl ?_
  exact j_sub [1, 0] rfl (b7_become_12 C e h)
set_option maxRecDepth 10000 in
theorem b7_write_31 {α : WA} {κ : KT}  {σ' : M2} {y0 : Int32} {y1 : Int32} {y2 : Nat} (C : Cx (ωC α) κ cX7_write 3 "EveryoneWins$Sheet" (none)) (e : κ.2.2.2.2.2.2.2.2.2 = (none, σ'))  {σ : M2} (h : F7_write_31 y0 y1 y2 σ = some ((), σ')) : J (ωC α) κ 2 3 31 [] [.int y0, .int y1, .ref (wad (ωC α) y2)] σ := by
  unfold F7_write_31 at h
  obtain ⟨r1, s2, hc3, h⟩ := bnd_some h
  refine k_N (v := none) C sb_X11_set (c11_set _ hc3) rfl (by decide) wn_961 rfl dX7_write_31 ?_
  show J (ωC α) κ _ _ 34 _ [] s2
  obtain ⟨-, hs⟩ := s2_inj h
  subst hs
  exact j_vret C e dX7_write_34
set_option maxRecDepth 10000 in
theorem c7_write (l : Launch) {α : WA}  {t : Nat} {a1 : Int32} {a2 : Int32} {σ σ' : M2}  (h : F7_write t a1 a2 σ = some ((), σ')) : Ct l (ωC α) yX7_write cX7_write 3 (none) 2 [.ref (wad (ωC α) t), .int a1, .int a2] σ (none) σ' := by
  unfold F7_write at h
  refine Ct.of (own := "EveryoneWins$Sheet") (L := [(0, .ref (wad (ωC α) t)), (1, .int a1), (2, .int a2)]) (by decide +kernel) rfl rfl rfl (fun κ hl e C => ?_)
  show J (ωC α) κ 2 3 0 [(0, .ref (wad (ωC α) t)), (1, .int a1), (2, .int a2)] [] σ
  refine j_aload_n C 0 dX7_write_0 rfl ?_
  obtain ⟨g1, h⟩ := gd_some h
  refine j_getr (o := t) (j := 0) C inT7 (ci := 6) rfl (by decide) (isO_sh g1) rfl rfl wd_349 dX7_write_1 (o' := crf t 0) rfl ?_
  refine j_iload_n C 1 dX7_write_4 rfl ?_
  refine j_aload_n C 0 dX7_write_5 rfl ?_
  refine j_geti (o := t) (j := 1) C inT7 (ci := 6) rfl (by decide) (isO_sh g1) rfl rfl wd_351 dX7_write_6 ?_
  refine j_if_ne (tgt := 17) C dX7_write_9 (by decide) (fun c2 => ?_) (fun c2 => ?_)
  · replace h := ie c2 h
    refine j_aload_n C 0 dX7_write_17 rfl ?_
    refine j_geti (o := t) (j := 1) C inT7 (ci := 6) rfl (by decide) (isO_sh g1) rfl rfl wd_351 dX7_write_18 ?_
    refine j_iconst (v := 1) C dX7_write_21 (by decide) ?_
    refine j_icmp_ne (tgt := 30) C dX7_write_22 (by decide) (fun c3 => ?_) (fun c3 => ?_)
    · replace h := ie c3 h
      refine j_iload_n C 2 dX7_write_30 rfl ?_
      exact j_sub [] rfl (b7_write_31 C e h)
    · replace h := it c3 h
      refine j_iload_n C 2 dX7_write_25 rfl ?_
      refine j_i2s C dX7_write_26 ?_
      refine j_goto (tgt := 31) C dX7_write_27 (by decide) ?_
      exact j_sub [] rfl (b7_write_31 C e h)
  · replace h := it c2 h
    refine j_iload_n C 2 dX7_write_12 rfl ?_
    refine j_i2b C dX7_write_13 ?_
    refine j_goto (tgt := 31) C dX7_write_14 (by decide) ?_
    exact j_sub [] rfl (b7_write_31 C e h)
set_option maxRecDepth 10000 in
theorem c7_read (l : Launch) {α : WA}  {t : Nat} {a1 : Int32} {σ σ' : M2} {v : Int32}  (h : F7_read t a1 σ = some (v, σ')) : Ct l (ωC α) yX7_read cX7_read 2 (some FieldType.int) 2 [.ref (wad (ωC α) t), .int a1] σ (some (.int v)) σ' := by
  unfold F7_read at h
  refine Ct.of (own := "EveryoneWins$Sheet") (L := [(0, .ref (wad (ωC α) t)), (1, .int a1)]) (by decide +kernel) rfl rfl rfl (fun κ hl e C => ?_)
  show J (ωC α) κ 2 2 0 [(0, .ref (wad (ωC α) t)), (1, .int a1)] [] σ
  refine j_aload_n C 0 dX7_read_0 rfl ?_
  obtain ⟨g1, h⟩ := gd_some h
  refine j_getr (o := t) (j := 0) C inT7 (ci := 6) rfl (by decide) (isO_sh g1) rfl rfl wd_349 dX7_read_1 (o' := crf t 0) rfl ?_
  refine j_iload_n C 1 dX7_read_4 rfl ?_
  obtain ⟨r2, s3, hc4, h⟩ := bnd_some h
  refine k_N (v := some (.int r2)) C sb_X11_at (c11_at _ hc4) rfl (by decide) wn_932 rfl dX7_read_5 ?_
  show J (ωC α) κ _ _ 8 _ [.int r2] s3
  obtain ⟨hv, hs⟩ := s2_inj h
  subst hv
  subst hs
  exact j_iret C e dX7_read_8
set_option maxRecDepth 10000 in
theorem c7_spans (l : Launch) {α : WA}  {t : Nat} {a1 : Int32} {a2 : Int32} {σ σ' : M2} {v : Int32}  (h : F7_spans t a1 a2 σ = some (v, σ')) : Ct l (ωC α) yX7_spans cX7_spans 3 (some FieldType.boolean) 1 [.ref (wad (ωC α) t), .int a1, .int a2] σ (some (.int v)) σ' := by
  unfold F7_spans at h
  refine Ct.of (own := "EveryoneWins$Sheet") (L := [(0, .ref (wad (ωC α) t)), (1, .int a1), (2, .int a2)]) (by decide +kernel) rfl rfl rfl (fun κ hl e C => ?_)
  show J (ωC α) κ 1 3 0 [(0, .ref (wad (ωC α) t)), (1, .int a1), (2, .int a2)] [] σ
  refine j_iload_n C 2 dX7_spans_0 rfl ?_
  refine j_if_lt (tgt := 22) C dX7_spans_1 (by decide) (fun c1 => ?_) (fun c1 => ?_)
  · replace h := it c1 h
    refine j_iconst (v := 0) C dX7_spans_22 (by decide) ?_
    obtain ⟨hv, hs⟩ := s2_inj h
    subst hv
    subst hs
    exact j_zret C e rfl dX7_spans_23
  · replace h := ie c1 h
    refine j_iload_n C 1 dX7_spans_4 rfl ?_
    refine j_if_lt (tgt := 22) C dX7_spans_5 (by decide) (fun c2 => ?_) (fun c2 => ?_)
    · replace h := it c2 h
      refine j_iconst (v := 0) C dX7_spans_22 (by decide) ?_
      obtain ⟨hv, hs⟩ := s2_inj h
      subst hv
      subst hs
      exact j_zret C e rfl dX7_spans_23
    · replace h := ie c2 h
      refine j_iload_n C 1 dX7_spans_8 rfl ?_
      refine j_aload_n C 0 dX7_spans_9 rfl ?_
      obtain ⟨g3, h⟩ := gd_some h
      refine j_geti (o := t) (j := 2) C inT7 (ci := 6) rfl (by decide) (isO_sh g3) rfl rfl wd_353 dX7_spans_10 ?_
      refine j_iload_n C 2 dX7_spans_13 rfl ?_
      refine j_isub C dX7_spans_14 ?_
      refine j_icmp_gt (tgt := 22) C dX7_spans_15 (by decide) (fun c4 => ?_) (fun c4 => ?_)
      · replace h := it c4 h
        refine j_iconst (v := 0) C dX7_spans_22 (by decide) ?_
        obtain ⟨hv, hs⟩ := s2_inj h
        subst hv
        subst hs
        exact j_zret C e rfl dX7_spans_23
      · replace h := ie c4 h
        refine j_iconst (v := 1) C dX7_spans_18 (by decide) ?_
        refine j_goto (tgt := 23) C dX7_spans_19 (by decide) ?_
        obtain ⟨hv, hs⟩ := s2_inj h
        subst hv
        subst hs
        exact j_zret C e rfl dX7_spans_23
set_option maxRecDepth 10000 in
theorem c8_add (l : Launch) {α : WA}  {a1 : Int32} {σ σ' : M2}  (h : F8_add a1 σ = some ((), σ')) : Ct l (ωC α) yX8_add cX8_add 2 (none) 1 [.ref (wad (ωC α) 36), .int a1] σ (none) σ' := by
  unfold F8_add at h
  refine Ct.of (own := "EveryoneWins$Tape") (L := [(0, .ref (wad (ωC α) 36)), (1, .int a1)]) (by decide +kernel) rfl rfl rfl (fun κ hl e C => ?_)
  show J (ωC α) κ 1 2 0 [(0, .ref (wad (ωC α) 36)), (1, .int a1)] [] σ
  refine j_aload_n C 0 dX8_add_0 rfl ?_
  refine j_geti (o := 36) (j := 3) C inT8 (ci := 7) rfl (by decide) (rfl) rfl rfl wd_212 dX8_add_1 ?_
  refine j_aload_n C 0 dX8_add_4 rfl ?_
  refine j_getr (o := 36) (j := 0) C inT8 (ci := 7) rfl (by decide) (rfl) rfl rfl wd_209 dX8_add_5 (o' := 37) rfl ?_
  refine j_alen (o := 37) (t := 0) (N := 160) (v := 160) C rfl (by decide) rfl dX8_add_8 ?_
  refine j_icmp_ge (tgt := 32) C dX8_add_9 (by decide) (fun c1 => ?_) (fun c1 => ?_)
  · replace h := it c1 h
    obtain ⟨-, hs⟩ := s2_inj h
    subst hs
    exact j_vret C e dX8_add_32
  · replace h := ie c1 h
    refine j_aload_n C 0 dX8_add_12 rfl ?_
    refine j_getr (o := 36) (j := 0) C inT8 (ci := 7) rfl (by decide) (rfl) rfl rfl wd_209 dX8_add_13 (o' := 37) rfl ?_
    refine j_aload_n C 0 dX8_add_16 rfl ?_
    refine j_geti (o := 36) (j := 3) C inT8 (ci := 7) rfl (by decide) (rfl) rfl rfl wd_212 dX8_add_17 ?_
    refine j_iload_n C 1 dX8_add_20 rfl ?_
    obtain ⟨g2, h⟩ := gd_some h
    refine j_iastore (N := 160) C (rfl) (inb_in g2) dX8_add_21 ?_
    refine j_aload_n C 0 dX8_add_22 rfl ?_
    refine j_dup C dX8_add_23 rfl ?_
    refine j_geti (o := 36) (j := 3) C inT8 (ci := 7) rfl (by decide) (rfl) rfl rfl wd_212 dX8_add_24 ?_
    refine j_iconst (v := 1) C dX8_add_27 (by decide) ?_
    refine j_iadd C dX8_add_28 ?_
    refine j_puti (o := 36) (j := 3) C inT8 tyX8_ok nmX8 (ci := 7) rfl (by decide) (rfl) rfl rfl rfl (tyX8_ok 3 (by decide)) rfl rfl wd_212 dX8_add_29 ?_
    obtain ⟨-, hs⟩ := s2_inj h
    subst hs
    exact j_vret C e dX8_add_32
set_option maxRecDepth 10000 in
theorem c10_next (l : Launch) {α : WA}   {σ σ' : M2} {v : Option Nat}  (h : F10_next  σ = some (v, σ')) : Ct l (ωC α) yX10_next cX10_next 1 (some (FieldType.object "EveryoneWins$Text")) 2 [.ref (wad (ωC α) 10)] σ (some (va_rf (v.map (wad (ωC α))))) σ' := by
  unfold F10_next at h
  refine Ct.of (own := "EveryoneWins$Texts") (L := [(0, .ref (wad (ωC α) 10))]) (by decide +kernel) rfl rfl rfl (fun κ hl e C => ?_)
  show J (ωC α) κ 2 1 0 [(0, .ref (wad (ωC α) 10))] [] σ
  refine j_aload_n C 0 dX10_next_0 rfl ?_
  refine j_aload_n C 0 dX10_next_1 rfl ?_
  refine j_geti (o := 10) (j := 1) C inT10 (ci := 9) rfl (by decide) (rfl) rfl rfl wd_192 dX10_next_2 ?_
  obtain ⟨r1, s2, hc3, h⟩ := bnd_some h
  cases r1 with
  | none =>
    refine k_V (v := some .null) C vb_X10_textAt (ci := 9) (T := TX10) (N := 3) rfl (by decide) (c10_textAt _ hc3) rfl (by decide) wd_423 (rfl) rfl dX10_next_5 ?_
    show J (ωC α) κ _ _ 8 _ [.null] s2
    obtain ⟨hv, hs⟩ := s2_inj h
    subst hv
    subst hs
    exact j_aret C rfl (Or.inl ⟨_, rfl⟩) (Or.inl rfl) e dX10_next_8
  | some q4 =>
    refine k_V (v := some (.ref (wad (ωC α) q4))) C vb_X10_textAt (ci := 9) (T := TX10) (N := 3) rfl (by decide) (c10_textAt _ hc3) rfl (by decide) wd_423 (rfl) rfl dX10_next_5 ?_
    show J (ωC α) κ _ _ 8 _ [.ref (wad (ωC α) q4)] s2
    obtain ⟨hv, hs⟩ := s2_inj h
    subst hv
    subst hs
    exact j_aret C rfl (Or.inl ⟨_, rfl⟩) (Or.inr ⟨_, rfl⟩) e dX10_next_8
set_option maxRecDepth 10000 in
theorem c10_keepNext (l : Launch) {α : WA}   {σ σ' : M2} {v : Int32}  (h : F10_keepNext  σ = some (v, σ')) : Ct l (ωC α) yX10_keepNext cX10_keepNext 1 (some FieldType.int) 1 [.ref (wad (ωC α) 10)] σ (some (.int v)) σ' := by
  unfold F10_keepNext at h
  refine Ct.of (own := "EveryoneWins$Texts") (L := [(0, .ref (wad (ωC α) 10))]) (by decide +kernel) rfl rfl rfl (fun κ hl e C => ?_)
  show J (ωC α) κ 1 1 0 [(0, .ref (wad (ωC α) 10))] [] σ
  refine j_aload_n C 0 dX10_keepNext_0 rfl ?_
  refine j_dup C dX10_keepNext_1 rfl ?_
  refine j_geti (o := 10) (j := 1) C inT10 (ci := 9) rfl (by decide) (rfl) rfl rfl wd_192 dX10_keepNext_2 ?_
  refine j_dup_x1 C dX10_keepNext_5 rfl rfl ?_
  refine j_iconst (v := 1) C dX10_keepNext_6 (by decide) ?_
  refine j_iadd C dX10_keepNext_7 ?_
  refine j_puti (o := 10) (j := 1) C inT10 tyX10_ok nmX10 (ci := 9) rfl (by decide) (rfl) rfl rfl rfl (tyX10_ok 1 (by decide)) rfl rfl wd_192 dX10_keepNext_8 ?_
  obtain ⟨hv, hs⟩ := s2_inj h
  subst hv
  subst hs
  exact j_iret C e dX10_keepNext_11
set_option maxRecDepth 10000 in
theorem c11_count (l : Launch) {α : WA}  {a1 : Int32} {σ σ' : M2} {v : Int32}  (h : F11_count a1 σ = some (v, σ')) : Ct l (ωC α) yX11_count cX11_count 2 (some FieldType.int) 1 [.ref (wad (ωC α) 0), .int a1] σ (some (.int v)) σ' := by
  unfold F11_count at h
  refine Ct.of (own := "EveryoneWins") (L := [(0, .ref (wad (ωC α) 0)), (1, .int a1)]) (by decide +kernel) rfl rfl rfl (fun κ hl e C => ?_)
  show J (ωC α) κ 1 2 0 [(0, .ref (wad (ωC α) 0)), (1, .int a1)] [] σ
  refine j_iload_n C 1 dX11_count_0 rfl ?_
  by_cases c1 : a1 = (0 : Int32)
  · replace h := it c1 h
    refine j_tabEq (tgt := 36) C dX11_count_1 c1 (by decide) (by decide) rfl (by decide) ?_
    refine j_aload_n C 0 dX11_count_36 rfl ?_
    refine j_getr (o := 0) (j := 1) C inT11 (ci := 10) rfl (by decide) (rfl) rfl rfl wd_578 dX11_count_37 (o' := 5) rfl ?_
    refine j_geti (o := 5) (j := 4) C inT5 (ci := 4) rfl (by decide) (rfl) rfl rfl wd_148 dX11_count_40 ?_
    obtain ⟨hv, hs⟩ := s2_inj h
    subst hv
    subst hs
    exact j_iret C e dX11_count_43
  replace h := ie c1 h
  by_cases c2 : a1 = (1 : Int32)
  · replace h := it c2 h
    refine j_tabEq (tgt := 44) C dX11_count_1 c2 (by decide) (by decide) rfl (by decide) ?_
    refine j_aload_n C 0 dX11_count_44 rfl ?_
    refine j_getr (o := 0) (j := 0) C inT11 (ci := 10) rfl (by decide) (rfl) rfl rfl wd_577 dX11_count_45 (o' := 1) rfl ?_
    refine j_geti (o := 1) (j := 3) C inT1 (ci := 1) rfl (by decide) (rfl) rfl rfl wd_117 dX11_count_48 ?_
    obtain ⟨hv, hs⟩ := s2_inj h
    subst hv
    subst hs
    exact j_iret C e dX11_count_51
  replace h := ie c2 h
  by_cases c3 : a1 = (2 : Int32)
  · replace h := it c3 h
    refine j_tabEq (tgt := 52) C dX11_count_1 c3 (by decide) (by decide) rfl (by decide) ?_
    refine j_aload_n C 0 dX11_count_52 rfl ?_
    refine j_getr (o := 0) (j := 2) C inT11 (ci := 10) rfl (by decide) (rfl) rfl rfl wd_579 dX11_count_53 (o' := 10) rfl ?_
    refine j_geti (o := 10) (j := 1) C inT10 (ci := 9) rfl (by decide) (rfl) rfl rfl wd_193 dX11_count_56 ?_
    obtain ⟨hv, hs⟩ := s2_inj h
    subst hv
    subst hs
    exact j_iret C e dX11_count_59
  replace h := ie c3 h
  by_cases c4 : a1 = (3 : Int32)
  · replace h := it c4 h
    refine j_tabEq (tgt := 60) C dX11_count_1 c4 (by decide) (by decide) rfl (by decide) ?_
    refine j_aload_n C 0 dX11_count_60 rfl ?_
    refine j_getr (o := 0) (j := 2) C inT11 (ci := 10) rfl (by decide) (rfl) rfl rfl wd_579 dX11_count_61 (o' := 10) rfl ?_
    refine j_geti (o := 10) (j := 2) C inT10 (ci := 9) rfl (by decide) (rfl) rfl rfl wd_194 dX11_count_64 ?_
    obtain ⟨hv, hs⟩ := s2_inj h
    subst hv
    subst hs
    exact j_iret C e dX11_count_67
  replace h := ie c4 h
  by_cases c5 : a1 = (4 : Int32)
  · replace h := it c5 h
    refine j_tabEq (tgt := 68) C dX11_count_1 c5 (by decide) (by decide) rfl (by decide) ?_
    refine j_aload_n C 0 dX11_count_68 rfl ?_
    refine j_getr (o := 0) (j := 3) C inT11 (ci := 10) rfl (by decide) (rfl) rfl rfl wd_580 dX11_count_69 (o' := 36) rfl ?_
    refine j_geti (o := 36) (j := 3) C inT8 (ci := 7) rfl (by decide) (rfl) rfl rfl wd_213 dX11_count_72 ?_
    obtain ⟨hv, hs⟩ := s2_inj h
    subst hv
    subst hs
    exact j_iret C e dX11_count_75
  replace h := ie c5 h
  refine j_tableOut (tgt := 76) C dX11_count_1 (by have q0 := ne_ti c1 (z := 0) (by decide); have q1 := ne_ti c2 (z := 1) (by decide); have q2 := ne_ti c3 (z := 2) (by decide); have q3 := ne_ti c4 (z := 3) (by decide); have q4 := ne_ti c5 (z := 4) (by decide); omega) (by decide) ?_
  refine j_bipush (v := -2) C dX11_count_76 (by decide) ?_
  obtain ⟨hv, hs⟩ := s2_inj h
  subst hv
  subst hs
  exact j_iret C e dX11_count_78
set_option maxRecDepth 10000 in
theorem c11_within (l : Launch) {α : WA}  {a1 : Int32} {a2 : Int32} {a3 : Int32} {σ σ' : M2} {v : Int32}  (h : F11_within a1 a2 a3 σ = some (v, σ')) : Ct l (ωC α) yX11_within cX11_within 3 (some FieldType.boolean) 1 [.int a1, .int a2, .int a3] σ (some (.int v)) σ' := by
  unfold F11_within at h
  refine Ct.of (own := "EveryoneWins") (L := [(0, .int a1), (1, .int a2), (2, .int a3)]) (by decide +kernel) rfl rfl rfl (fun κ hl e C => ?_)
  show J (ωC α) κ 1 3 0 [(0, .int a1), (1, .int a2), (2, .int a3)] [] σ
  refine j_iload_n C 1 dX11_within_0 rfl ?_
  refine j_iload_n C 0 dX11_within_1 rfl ?_
  refine j_icmp_gt (tgt := 14) C dX11_within_2 (by decide) (fun c1 => ?_) (fun c1 => ?_)
  · replace h := it c1 h
    refine j_iconst (v := 0) C dX11_within_14 (by decide) ?_
    obtain ⟨hv, hs⟩ := s2_inj h
    subst hv
    subst hs
    exact j_zret C e rfl dX11_within_15
  · replace h := ie c1 h
    refine j_iload_n C 0 dX11_within_5 rfl ?_
    refine j_iload_n C 2 dX11_within_6 rfl ?_
    refine j_icmp_gt (tgt := 14) C dX11_within_7 (by decide) (fun c2 => ?_) (fun c2 => ?_)
    · replace h := it c2 h
      refine j_iconst (v := 0) C dX11_within_14 (by decide) ?_
      obtain ⟨hv, hs⟩ := s2_inj h
      subst hv
      subst hs
      exact j_zret C e rfl dX11_within_15
    · replace h := ie c2 h
      refine j_iconst (v := 1) C dX11_within_10 (by decide) ?_
      refine j_goto (tgt := 15) C dX11_within_11 (by decide) ?_
      obtain ⟨hv, hs⟩ := s2_inj h
      subst hv
      subst hs
      exact j_zret C e rfl dX11_within_15
set_option maxRecDepth 10000 in
theorem c11_child (l : Launch) {α : WA}  {a1 : Int32} {σ σ' : M2} {v : Int32}  (h : F11_child a1 σ = some (v, σ')) : Ct l (ωC α) yX11_child cX11_child 2 (some FieldType.int) 3 [.ref (wad (ωC α) 0), .int a1] σ (some (.int v)) σ' := by
  unfold F11_child at h
  refine Ct.of (own := "EveryoneWins") (L := [(0, .ref (wad (ωC α) 0)), (1, .int a1)]) (by decide +kernel) rfl rfl rfl (fun κ hl e C => ?_)
  show J (ωC α) κ 3 2 0 [(0, .ref (wad (ωC α) 0)), (1, .int a1)] [] σ
  refine j_iload_n C 1 dX11_child_0 rfl ?_
  refine j_iconst (v := 0) C dX11_child_1 (by decide) ?_
  refine j_sipush (v := 9999) C dX11_child_2 (by decide) ?_
  obtain ⟨r1, s2, hc3, h⟩ := bnd_some h
  refine k_S (v := some (.int r1)) C sb_X11_within (c11_within _ hc3) rfl (by decide) wd_638 rfl dX11_child_5 ?_
  show J (ωC α) κ _ _ 8 _ [.int r1] s2
  refine j_if_ne (tgt := 14) C dX11_child_8 (by decide) (fun c4 => ?_) (fun c4 => ?_)
  · replace h := ie c4 h
    refine j_aload_n C 0 dX11_child_14 rfl ?_
    refine j_getr (o := 0) (j := 0) C inT11 (ci := 10) rfl (by decide) (rfl) rfl rfl wd_577 dX11_child_15 (o' := 1) rfl ?_
    refine j_iload_n C 1 dX11_child_18 rfl ?_
    refine j_bipush (v := 100) C dX11_child_19 (by decide) ?_
    refine j_idiv C dX11_child_21 (by decide) ?_
    refine j_iload_n C 1 dX11_child_22 rfl ?_
    refine j_bipush (v := 100) C dX11_child_23 (by decide) ?_
    refine j_irem C dX11_child_25 (by decide) ?_
    obtain ⟨r5, s6, hc7, h⟩ := bnd_some h
    refine k_V (v := some (.int r5)) C vb_X1_add (ci := 1) (T := TX1) (N := 4) rfl (by decide) (c1_add _ hc7) rfl (by decide) wd_641 (rfl) rfl dX11_child_26 ?_
    show J (ωC α) κ _ _ 29 _ [.int r5] s6
    obtain ⟨hv, hs⟩ := s2_inj h
    subst hv
    subst hs
    exact j_iret C e dX11_child_29
  · replace h := it c4 h
    refine j_bipush (v := -2) C dX11_child_11 (by decide) ?_
    obtain ⟨hv, hs⟩ := s2_inj h
    subst hv
    subst hs
    exact j_iret C e dX11_child_13
set_option maxRecDepth 10000 in
theorem c11_isChild (l : Launch) {α : WA}  {a1 : Int32} {σ σ' : M2} {v : Int32}  (h : F11_isChild a1 σ = some (v, σ')) : Ct l (ωC α) yX11_isChild cX11_isChild 2 (some FieldType.boolean) 2 [.ref (wad (ωC α) 0), .int a1] σ (some (.int v)) σ' := by
  unfold F11_isChild at h
  refine Ct.of (own := "EveryoneWins") (L := [(0, .ref (wad (ωC α) 0)), (1, .int a1)]) (by decide +kernel) rfl rfl rfl (fun κ hl e C => ?_)
  show J (ωC α) κ 2 2 0 [(0, .ref (wad (ωC α) 0)), (1, .int a1)] [] σ
  refine j_iload_n C 1 dX11_isChild_0 rfl ?_
  refine j_iconst (v := 0) C dX11_isChild_1 (by decide) ?_
  refine j_aload_n C 0 dX11_isChild_2 rfl ?_
  refine j_getr (o := 0) (j := 0) C inT11 (ci := 10) rfl (by decide) (rfl) rfl rfl wd_577 dX11_isChild_3 (o' := 1) rfl ?_
  refine j_geti (o := 1) (j := 3) C inT1 (ci := 1) rfl (by decide) (rfl) rfl rfl wd_117 dX11_isChild_6 ?_
  refine j_iconst (v := 1) C dX11_isChild_9 (by decide) ?_
  refine j_isub C dX11_isChild_10 ?_
  obtain ⟨r1, s2, hc3, h⟩ := bnd_some h
  refine k_S (v := some (.int r1)) C sb_X11_within (c11_within _ hc3) rfl (by decide) wd_638 rfl dX11_isChild_11 ?_
  show J (ωC α) κ _ _ 14 _ [.int r1] s2
  obtain ⟨g4, h⟩ := gd_some h
  obtain ⟨hv, hs⟩ := s2_inj h
  subst hv
  subst hs
  exact j_zret C e (isZ_n g4) dX11_isChild_14
set_option maxRecDepth 10000 in
theorem c11_put (l : Launch) {α : WA}  {a1 : Int32} {a2 : Int32} {a3 : Int32} {σ σ' : M2} {v : Int32}  (h : F11_put a1 a2 a3 σ = some (v, σ')) : Ct l (ωC α) yX11_put cX11_put 4 (some FieldType.int) 3 [.ref (wad (ωC α) 0), .int a1, .int a2, .int a3] σ (some (.int v)) σ' := by
  unfold F11_put at h
  refine Ct.of (own := "EveryoneWins") (L := [(0, .ref (wad (ωC α) 0)), (1, .int a1), (2, .int a2), (3, .int a3)]) (by decide +kernel) rfl rfl rfl (fun κ hl e C => ?_)
  show J (ωC α) κ 3 4 0 [(0, .ref (wad (ωC α) 0)), (1, .int a1), (2, .int a2), (3, .int a3)] [] σ
  refine j_aload_n C 0 dX11_put_0 rfl ?_
  refine j_iload_n C 1 dX11_put_1 rfl ?_
  obtain ⟨r1, s2, hc3, h⟩ := bnd_some h
  refine k_V (v := some (.int r1)) C vb_X11_isChild (ci := 10) (T := TX11) (N := 17) rfl (by decide) (c11_isChild _ hc3) rfl (by decide) wd_650 (rfl) rfl dX11_put_2 ?_
  show J (ωC α) κ _ _ 5 _ [.int r1] s2
  refine j_if_ne (tgt := 11) C dX11_put_5 (by decide) (fun c4 => ?_) (fun c4 => ?_)
  · replace h := ie c4 h
    refine j_iload_n C 2 dX11_put_11 rfl ?_
    refine j_iconst (v := 0) C dX11_put_12 (by decide) ?_
    refine j_iconst (v := 2) C dX11_put_13 (by decide) ?_
    obtain ⟨r5, s6, hc7, h⟩ := bnd_some h
    refine k_S (v := some (.int r5)) C sb_X11_within (c11_within _ hc7) rfl (by decide) wd_638 rfl dX11_put_14 ?_
    show J (ωC α) κ _ _ 17 _ [.int r5] s6
    refine j_if_eq (tgt := 30) C dX11_put_17 (by decide) (fun c8 => ?_) (fun c8 => ?_)
    · replace h := it c8 h
      refine j_bipush (v := -7) C dX11_put_30 (by decide) ?_
      obtain ⟨hv, hs⟩ := s2_inj h
      subst hv
      subst hs
      exact j_iret C e dX11_put_32
    · replace h := ie c8 h
      refine j_iload_n C 3 dX11_put_20 rfl ?_
      refine j_iconst (v := 0) C dX11_put_21 (by decide) ?_
      refine j_bipush (v := 99) C dX11_put_22 (by decide) ?_
      obtain ⟨r9, s10, hc11, h⟩ := bnd_some h
      refine k_S (v := some (.int r9)) C sb_X11_within (c11_within _ hc11) rfl (by decide) wd_638 rfl dX11_put_24 ?_
      show J (ωC α) κ _ _ 27 _ [.int r9] s10
      refine j_if_ne (tgt := 33) C dX11_put_27 (by decide) (fun c12 => ?_) (fun c12 => ?_)
      · replace h := ie c12 h
        refine j_aload_n C 0 dX11_put_33 rfl ?_
        refine j_getr (o := 0) (j := 0) C inT11 (ci := 10) rfl (by decide) (rfl) rfl rfl wd_577 dX11_put_34 (o' := 1) rfl ?_
        refine j_iload_n C 2 dX11_put_37 rfl ?_
        obtain ⟨r13, s14, hc15, h⟩ := bnd_some h
        refine k_V (v := some (.ref (wad (ωC α) r13))) C vb_X1_row (ci := 1) (T := TX1) (N := 4) rfl (by decide) (c1_row _ hc15) rfl (by decide) wd_654 (rfl) rfl dX11_put_38 ?_
        show J (ωC α) κ _ _ 41 _ [.ref (wad (ωC α) r13)] s14
        refine j_iload_n C 1 dX11_put_41 rfl ?_
        refine j_iload_n C 3 dX11_put_42 rfl ?_
        obtain ⟨r16, s17, hc18, h⟩ := bnd_some h
        refine k_S (v := some (.int r16)) C sb_X11_replaced (c11_replaced _ hc18) rfl (by decide) wd_658 rfl dX11_put_43 ?_
        show J (ωC α) κ _ _ 46 _ [.int r16] s17
        obtain ⟨hv, hs⟩ := s2_inj h
        subst hv
        subst hs
        exact j_iret C e dX11_put_46
      · replace h := it c12 h
        refine j_bipush (v := -7) C dX11_put_30 (by decide) ?_
        obtain ⟨hv, hs⟩ := s2_inj h
        subst hv
        subst hs
        exact j_iret C e dX11_put_32
  · replace h := it c4 h
    refine j_bipush (v := -5) C dX11_put_8 (by decide) ?_
    obtain ⟨hv, hs⟩ := s2_inj h
    subst hv
    subst hs
    exact j_iret C e dX11_put_10
set_option maxRecDepth 10000 in
theorem c11_told (l : Launch) {α : WA}  {a1 : Int32} {a2 : Int32} {σ σ' : M2} {v : Int32}  (h : F11_told a1 a2 σ = some (v, σ')) : Ct l (ωC α) yX11_told cX11_told 3 (some FieldType.int) 3 [.ref (wad (ωC α) 0), .int a1, .int a2] σ (some (.int v)) σ' := by
  unfold F11_told at h
  refine Ct.of (own := "EveryoneWins") (L := [(0, .ref (wad (ωC α) 0)), (1, .int a1), (2, .int a2)]) (by decide +kernel) rfl rfl rfl (fun κ hl e C => ?_)
  show J (ωC α) κ 3 3 0 [(0, .ref (wad (ωC α) 0)), (1, .int a1), (2, .int a2)] [] σ
  refine j_aload_n C 0 dX11_told_0 rfl ?_
  refine j_iload_n C 1 dX11_told_1 rfl ?_
  obtain ⟨r1, s2, hc3, h⟩ := bnd_some h
  refine k_V (v := some (.int r1)) C vb_X11_isChild (ci := 10) (T := TX11) (N := 17) rfl (by decide) (c11_isChild _ hc3) rfl (by decide) wd_650 (rfl) rfl dX11_told_2 ?_
  show J (ωC α) κ _ _ 5 _ [.int r1] s2
  refine j_if_ne (tgt := 11) C dX11_told_5 (by decide) (fun c4 => ?_) (fun c4 => ?_)
  · replace h := ie c4 h
    refine j_iload_n C 2 dX11_told_11 rfl ?_
    refine j_iconst (v := 0) C dX11_told_12 (by decide) ?_
    refine j_iconst (v := 2) C dX11_told_13 (by decide) ?_
    obtain ⟨r5, s6, hc7, h⟩ := bnd_some h
    refine k_S (v := some (.int r5)) C sb_X11_within (c11_within _ hc7) rfl (by decide) wd_638 rfl dX11_told_14 ?_
    show J (ωC α) κ _ _ 17 _ [.int r5] s6
    refine j_if_eq (tgt := 35) C dX11_told_17 (by decide) (fun c8 => ?_) (fun c8 => ?_)
    · replace h := it c8 h
      refine j_bipush (v := -7) C dX11_told_35 (by decide) ?_
      obtain ⟨hv, hs⟩ := s2_inj h
      subst hv
      subst hs
      exact j_iret C e dX11_told_37
    · replace h := ie c8 h
      refine j_aload_n C 0 dX11_told_20 rfl ?_
      refine j_getr (o := 0) (j := 0) C inT11 (ci := 10) rfl (by decide) (rfl) rfl rfl wd_577 dX11_told_21 (o' := 1) rfl ?_
      refine j_iload_n C 2 dX11_told_24 rfl ?_
      obtain ⟨r9, s10, hc11, h⟩ := bnd_some h
      refine k_V (v := some (.ref (wad (ωC α) r9))) C vb_X1_row (ci := 1) (T := TX1) (N := 4) rfl (by decide) (c1_row _ hc11) rfl (by decide) wd_654 (rfl) rfl dX11_told_25 ?_
      show J (ωC α) κ _ _ 28 _ [.ref (wad (ωC α) r9)] s10
      refine j_iload_n C 1 dX11_told_28 rfl ?_
      obtain ⟨r12, s13, hc14, h⟩ := bnd_some h
      refine k_S (v := some (.int r12)) C sb_X11_at (c11_at _ hc14) rfl (by decide) wd_661 rfl dX11_told_29 ?_
      show J (ωC α) κ _ _ 32 _ [.int r12] s13
      refine j_goto (tgt := 37) C dX11_told_32 (by decide) ?_
      obtain ⟨hv, hs⟩ := s2_inj h
      subst hv
      subst hs
      exact j_iret C e dX11_told_37
  · replace h := it c4 h
    refine j_bipush (v := -5) C dX11_told_8 (by decide) ?_
    obtain ⟨hv, hs⟩ := s2_inj h
    subst hv
    subst hs
    exact j_iret C e dX11_told_10
set_option maxRecDepth 10000 in
theorem c11_isByte (l : Launch) {α : WA}  {a1 : Int32} {σ σ' : M2} {v : Int32}  (h : F11_isByte a1 σ = some (v, σ')) : Ct l (ωC α) yX11_isByte cX11_isByte 1 (some FieldType.boolean) 2 [.int a1] σ (some (.int v)) σ' := by
  unfold F11_isByte at h
  refine Ct.of (own := "EveryoneWins") (L := [(0, .int a1)]) (by decide +kernel) rfl rfl rfl (fun κ hl e C => ?_)
  show J (ωC α) κ 2 1 0 [(0, .int a1)] [] σ
  refine j_iload_n C 0 dX11_isByte_0 rfl ?_
  refine j_iconst (v := 0) C dX11_isByte_1 (by decide) ?_
  refine j_sipush (v := 255) C dX11_isByte_2 (by decide) ?_
  obtain ⟨r1, s2, hc3, h⟩ := bnd_some h
  refine k_S (v := some (.int r1)) C sb_X11_within (c11_within _ hc3) rfl (by decide) wd_638 rfl dX11_isByte_5 ?_
  show J (ωC α) κ _ _ 8 _ [.int r1] s2
  obtain ⟨g4, h⟩ := gd_some h
  obtain ⟨hv, hs⟩ := s2_inj h
  subst hv
  subst hs
  exact j_zret C e (isZ_n g4) dX11_isByte_8
set_option maxRecDepth 10000 in
theorem b11_feed_124 {α : WA} {κ : KT} {fu : Nat} {v : Int32} {σ' : M2} {x1 : Int32} {x2 : Int32} {x3 : Int32} {x4 : Int32} {x5 : Int32} {x6 : Int32} {x7 : Int32} {y0 : Int32} (C : Cx (ωC α) κ cX11_feed 8 "EveryoneWins" (some FieldType.int)) (e : κ.2.2.2.2.2.2.2.2.2 = (some (.int v), σ')) {k71 : Int32 → M2 → Option (Int32 × M2)} (hk71 : ∀ (x7' : Int32) (σ : M2), k71 x7' σ = some (v, σ') → J (ωC α) κ 3 8 71 [(0, .ref (wad (ωC α) 0)), (1, .int x1), (2, .int x2), (3, .int x3), (4, .int x4), (5, .int x5), (6, .int x6), (7, .int x7')] [] σ) {σ : M2} (h : F11_feed_124 fu k71 x1 x2 x3 x4 x5 x6 x7 y0 σ = some (v, σ')) : J (ωC α) κ 3 8 124 [(0, .ref (wad (ωC α) 0)), (1, .int x1), (2, .int x2), (3, .int x3), (4, .int x4), (5, .int x5), (6, .int x6), (7, .int x7)] [.int y0, .ref (wad (ωC α) 36)] σ := by
  unfold F11_feed_124 at h
  obtain ⟨r1, s2, hc3, h⟩ := bnd_some h
  refine k_V (v := none) C vb_X8_add (ci := 7) (T := TX8) (N := 5) rfl (by decide) (c8_add _ hc3) rfl (by decide) wd_411 (rfl) rfl dX11_feed_124 ?_
  show J (ωC α) κ _ _ 127 _ [] s2
  refine j_iinc (L' := [(7, .int (x7 + 1)), (0, .ref (wad (ωC α) 0)), (1, .int x1), (2, .int x2), (3, .int x3), (4, .int x4), (5, .int x5), (6, .int x6)]) C 7 dX11_feed_127 rfl rfl rfl rfl ?_
  refine j_goto (tgt := 71) C dX11_feed_130 (by decide) ?_
  exact j_sub [1, 2, 3, 4, 5, 6, 7, 0] rfl (hk71 _ _ h)
set_option maxRecDepth 10000 in
theorem b11_feed_71 {α : WA} {κ : KT} {fu : Nat} {v : Int32} {σ' : M2} {x1 : Int32} {x2 : Int32} {x3 : Int32} {x4 : Int32} {x5 : Int32} {x6 : Int32} {x7 : Int32} (C : Cx (ωC α) κ cX11_feed 8 "EveryoneWins" (some FieldType.int)) (e : κ.2.2.2.2.2.2.2.2.2 = (some (.int v), σ'))  {σ : M2} (h : F11_feed_71 fu x1 x2 x3 x4 x5 x6 x7 σ = some (v, σ')) : J (ωC α) κ 3 8 71 [(0, .ref (wad (ωC α) 0)), (1, .int x1), (2, .int x2), (3, .int x3), (4, .int x4), (5, .int x5), (6, .int x6), (7, .int x7)] [] σ := by
  unfold F11_feed_71 at h
  refine wl1_ind (fun x7 σ => J (ωC α) κ 3 8 71 [(0, .ref (wad (ωC α) 0)), (1, .int x1), (2, .int x2), (3, .int x3), (4, .int x4), (5, .int x5), (6, .int x6), (7, .int x7)] [] σ) ?_ fu x7 σ h
  intro k71 hk71 x7 σ h
  try dsimp only at h
  show J (ωC α) κ 3 8 71 [(0, .ref (wad (ωC α) 0)), (1, .int x1), (2, .int x2), (3, .int x3), (4, .int x4), (5, .int x5), (6, .int x6), (7, .int x7)] [] σ
  refine j_iload C 7 dX11_feed_71 rfl ?_
  refine j_iload_n C 1 dX11_feed_73 rfl ?_
  refine j_icmp_ge (tgt := 133) C dX11_feed_74 (by decide) (fun c1 => ?_) (fun c1 => ?_)
  · replace h := it c1 h
    refine j_aload_n C 0 dX11_feed_133 rfl ?_
    refine j_getr (o := 0) (j := 3) C inT11 (ci := 10) rfl (by decide) (rfl) rfl rfl wd_580 dX11_feed_134 (o' := 36) rfl ?_
    refine j_geti (o := 36) (j := 3) C inT8 (ci := 7) rfl (by decide) (rfl) rfl rfl wd_213 dX11_feed_137 ?_
    obtain ⟨hv, hs⟩ := s2_inj h
    subst hv
    subst hs
    exact j_iret C e dX11_feed_140
  · replace h := ie c1 h
    refine j_aload_n C 0 dX11_feed_77 rfl ?_
    refine j_getr (o := 0) (j := 3) C inT11 (ci := 10) rfl (by decide) (rfl) rfl rfl wd_580 dX11_feed_78 (o' := 36) rfl ?_
    refine j_iload C 7 dX11_feed_81 rfl ?_
    refine j_if_ne (tgt := 90) C dX11_feed_83 (by decide) (fun c2 => ?_) (fun c2 => ?_)
    · replace h := ie c2 h
      refine j_iload C 7 dX11_feed_90 rfl ?_
      refine j_iconst (v := 1) C dX11_feed_92 (by decide) ?_
      refine j_icmp_ne (tgt := 100) C dX11_feed_93 (by decide) (fun c3 => ?_) (fun c3 => ?_)
      · replace h := ie c3 h
        refine j_iload C 7 dX11_feed_100 rfl ?_
        refine j_iconst (v := 2) C dX11_feed_102 (by decide) ?_
        refine j_icmp_ne (tgt := 111) C dX11_feed_103 (by decide) (fun c4 => ?_) (fun c4 => ?_)
        · replace h := ie c4 h
          refine j_iload C 7 dX11_feed_111 rfl ?_
          refine j_iconst (v := 3) C dX11_feed_113 (by decide) ?_
          refine j_icmp_ne (tgt := 122) C dX11_feed_114 (by decide) (fun c5 => ?_) (fun c5 => ?_)
          · replace h := ie c5 h
            refine j_iload C 6 dX11_feed_122 rfl ?_
            exact (b11_feed_124 C e hk71 h)
          · replace h := it c5 h
            refine j_iload C 5 dX11_feed_117 rfl ?_
            refine j_goto (tgt := 124) C dX11_feed_119 (by decide) ?_
            exact (b11_feed_124 C e hk71 h)
        · replace h := it c4 h
          refine j_iload C 4 dX11_feed_106 rfl ?_
          refine j_goto (tgt := 124) C dX11_feed_108 (by decide) ?_
          exact (b11_feed_124 C e hk71 h)
      · replace h := it c3 h
        refine j_iload_n C 3 dX11_feed_96 rfl ?_
        refine j_goto (tgt := 124) C dX11_feed_97 (by decide) ?_
        exact (b11_feed_124 C e hk71 h)
    · replace h := it c2 h
      refine j_iload_n C 2 dX11_feed_86 rfl ?_
      refine j_goto (tgt := 124) C dX11_feed_87 (by decide) ?_
      exact (b11_feed_124 C e hk71 h)
set_option maxRecDepth 10000 in
theorem c11_feed (l : Launch) {α : WA} {fu : Nat} {a1 : Int32} {a2 : Int32} {a3 : Int32} {a4 : Int32} {a5 : Int32} {a6 : Int32} {σ σ' : M2} {v : Int32}  (h : F11_feed fu a1 a2 a3 a4 a5 a6 σ = some (v, σ')) : Ct l (ωC α) yX11_feed cX11_feed 8 (some FieldType.int) 3 [.ref (wad (ωC α) 0), .int a1, .int a2, .int a3, .int a4, .int a5, .int a6] σ (some (.int v)) σ' := by
  unfold F11_feed at h
  refine Ct.of (own := "EveryoneWins") (L := [(0, .ref (wad (ωC α) 0)), (1, .int a1), (2, .int a2), (3, .int a3), (4, .int a4), (5, .int a5), (6, .int a6)]) (by decide +kernel) rfl rfl rfl (fun κ hl e C => ?_)
  show J (ωC α) κ 3 8 0 [(0, .ref (wad (ωC α) 0)), (1, .int a1), (2, .int a2), (3, .int a3), (4, .int a4), (5, .int a5), (6, .int a6)] [] σ
  refine j_iload_n C 1 dX11_feed_0 rfl ?_
  refine j_iconst (v := 1) C dX11_feed_1 (by decide) ?_
  refine j_iconst (v := 5) C dX11_feed_2 (by decide) ?_
  obtain ⟨r1, s2, hc3, h⟩ := bnd_some h
  refine k_S (v := some (.int r1)) C sb_X11_within (c11_within _ hc3) rfl (by decide) wd_638 rfl dX11_feed_3 ?_
  show J (ωC α) κ _ _ 6 _ [.int r1] s2
  refine j_if_eq (tgt := 47) C dX11_feed_6 (by decide) (fun c4 => ?_) (fun c4 => ?_)
  · replace h := it c4 h
    refine j_bipush (v := -2) C dX11_feed_47 (by decide) ?_
    obtain ⟨hv, hs⟩ := s2_inj h
    subst hv
    subst hs
    exact j_iret C e dX11_feed_49
  · replace h := ie c4 h
    refine j_iload_n C 2 dX11_feed_9 rfl ?_
    obtain ⟨r5, s6, hc7, h⟩ := bnd_some h
    refine k_S (v := some (.int r5)) C sb_X11_isByte (c11_isByte _ hc7) rfl (by decide) wd_671 rfl dX11_feed_10 ?_
    show J (ωC α) κ _ _ 13 _ [.int r5] s6
    refine j_if_eq (tgt := 47) C dX11_feed_13 (by decide) (fun c8 => ?_) (fun c8 => ?_)
    · replace h := it c8 h
      refine j_bipush (v := -2) C dX11_feed_47 (by decide) ?_
      obtain ⟨hv, hs⟩ := s2_inj h
      subst hv
      subst hs
      exact j_iret C e dX11_feed_49
    · replace h := ie c8 h
      refine j_iload_n C 3 dX11_feed_16 rfl ?_
      obtain ⟨r9, s10, hc11, h⟩ := bnd_some h
      refine k_S (v := some (.int r9)) C sb_X11_isByte (c11_isByte _ hc11) rfl (by decide) wd_671 rfl dX11_feed_17 ?_
      show J (ωC α) κ _ _ 20 _ [.int r9] s10
      refine j_if_eq (tgt := 47) C dX11_feed_20 (by decide) (fun c12 => ?_) (fun c12 => ?_)
      · replace h := it c12 h
        refine j_bipush (v := -2) C dX11_feed_47 (by decide) ?_
        obtain ⟨hv, hs⟩ := s2_inj h
        subst hv
        subst hs
        exact j_iret C e dX11_feed_49
      · replace h := ie c12 h
        refine j_iload C 4 dX11_feed_23 rfl ?_
        obtain ⟨r13, s14, hc15, h⟩ := bnd_some h
        refine k_S (v := some (.int r13)) C sb_X11_isByte (c11_isByte _ hc15) rfl (by decide) wd_671 rfl dX11_feed_25 ?_
        show J (ωC α) κ _ _ 28 _ [.int r13] s14
        refine j_if_eq (tgt := 47) C dX11_feed_28 (by decide) (fun c16 => ?_) (fun c16 => ?_)
        · replace h := it c16 h
          refine j_bipush (v := -2) C dX11_feed_47 (by decide) ?_
          obtain ⟨hv, hs⟩ := s2_inj h
          subst hv
          subst hs
          exact j_iret C e dX11_feed_49
        · replace h := ie c16 h
          refine j_iload C 5 dX11_feed_31 rfl ?_
          obtain ⟨r17, s18, hc19, h⟩ := bnd_some h
          refine k_S (v := some (.int r17)) C sb_X11_isByte (c11_isByte _ hc19) rfl (by decide) wd_671 rfl dX11_feed_33 ?_
          show J (ωC α) κ _ _ 36 _ [.int r17] s18
          refine j_if_eq (tgt := 47) C dX11_feed_36 (by decide) (fun c20 => ?_) (fun c20 => ?_)
          · replace h := it c20 h
            refine j_bipush (v := -2) C dX11_feed_47 (by decide) ?_
            obtain ⟨hv, hs⟩ := s2_inj h
            subst hv
            subst hs
            exact j_iret C e dX11_feed_49
          · replace h := ie c20 h
            refine j_iload C 6 dX11_feed_39 rfl ?_
            obtain ⟨r21, s22, hc23, h⟩ := bnd_some h
            refine k_S (v := some (.int r21)) C sb_X11_isByte (c11_isByte _ hc23) rfl (by decide) wd_671 rfl dX11_feed_41 ?_
            show J (ωC α) κ _ _ 44 _ [.int r21] s22
            refine j_if_ne (tgt := 50) C dX11_feed_44 (by decide) (fun c24 => ?_) (fun c24 => ?_)
            · replace h := ie c24 h
              refine j_aload_n C 0 dX11_feed_50 rfl ?_
              refine j_getr (o := 0) (j := 3) C inT11 (ci := 10) rfl (by decide) (rfl) rfl rfl wd_580 dX11_feed_51 (o' := 36) rfl ?_
              refine j_geti (o := 36) (j := 3) C inT8 (ci := 7) rfl (by decide) (rfl) rfl rfl wd_213 dX11_feed_54 ?_
              refine j_iload_n C 1 dX11_feed_57 rfl ?_
              refine j_iadd C dX11_feed_58 ?_
              refine j_sipush (v := 160) C dX11_feed_59 (by decide) ?_
              refine j_icmp_le (tgt := 68) C dX11_feed_62 (by decide) (fun c25 => ?_) (fun c25 => ?_)
              · replace h := it c25 h
                refine j_iconst (v := 0) C dX11_feed_68 (by decide) ?_
                refine j_istore (L' := [(7, .int (0 : Int32)), (0, .ref (wad (ωC α) 0)), (1, .int a1), (2, .int a2), (3, .int a3), (4, .int a4), (5, .int a5), (6, .int a6)]) C dX11_feed_69 rfl rfl ?_
                exact j_sub [1, 2, 3, 4, 5, 6, 7, 0] rfl (b11_feed_71 C e h)
              · replace h := ie c25 h
                refine j_bipush (v := -4) C dX11_feed_65 (by decide) ?_
                obtain ⟨hv, hs⟩ := s2_inj h
                subst hv
                subst hs
                exact j_iret C e dX11_feed_67
            · replace h := it c24 h
              refine j_bipush (v := -2) C dX11_feed_47 (by decide) ?_
              obtain ⟨hv, hs⟩ := s2_inj h
              subst hv
              subst hs
              exact j_iret C e dX11_feed_49
set_option maxRecDepth 10000 in
theorem c11_readTape (l : Launch) {α : WA} {fu : Nat}  {σ σ' : M2} {v : Int32}  (h : F11_readTape fu σ = some (v, σ')) : Ct l (ωC α) yX11_readTape cX11_readTape 3 (some FieldType.int) 86 [.ref (wad (ωC α) 0)] σ (some (.int v)) σ' := by
  unfold F11_readTape at h
  refine Ct.of (own := "EveryoneWins") (L := [(0, .ref (wad (ωC α) 0))]) (by decide +kernel) rfl rfl rfl (fun κ hl e C => ?_)
  show J (ωC α) κ 86 3 0 [(0, .ref (wad (ωC α) 0))] [] σ
  refine j_aload_n C 0 dX11_readTape_0 rfl ?_
  refine j_getr (o := 0) (j := 2) C inT11 (ci := 10) rfl (by decide) (rfl) rfl rfl wd_579 dX11_readTape_1 (o' := 10) rfl ?_
  obtain ⟨r1, s2, hc3, h⟩ := bnd_some h
  cases r1 with
  | none =>
    refine k_V (v := some .null) C vb_X10_next (ci := 9) (T := TX10) (N := 3) rfl (by decide) (c10_next _ hc3) rfl (by decide) wd_419 (rfl) rfl dX11_readTape_4 ?_
    show J (ωC α) κ _ _ 7 _ [.null] s2
    refine j_astore_nN (L' := [(1, .null), (0, .ref (wad (ωC α) 0))]) C dX11_readTape_7 rfl rfl rfl ?_
    refine j_aload_nN C 0 dX11_readTape_8 rfl ?_
    refine j_ifnonnullN C dX11_readTape_9 ?_
    refine j_bipush (v := -4) C dX11_readTape_12 (by decide) ?_
    obtain ⟨hv, hs⟩ := s2_inj h
    subst hv
    subst hs
    exact j_iret C e dX11_readTape_14
  | some q4 =>
    refine k_V (v := some (.ref (wad (ωC α) q4))) C vb_X10_next (ci := 9) (T := TX10) (N := 3) rfl (by decide) (c10_next _ hc3) rfl (by decide) wd_419 (rfl) rfl dX11_readTape_4 ?_
    show J (ωC α) κ _ _ 7 _ [.ref (wad (ωC α) q4)] s2
    refine j_astore_n (L' := [(1, .ref (wad (ωC α) q4)), (0, .ref (wad (ωC α) 0))]) C dX11_readTape_7 rfl rfl rfl ?_
    refine j_aload_n C 0 dX11_readTape_8 rfl ?_
    refine j_ifnonnull (tgt := 15) C dX11_readTape_9 (by decide) ?_
    refine j_aload_n C 1 dX11_readTape_15 rfl ?_
    refine j_getr (o := 0) (j := 4) C inT11 (ci := 10) rfl (by decide) (rfl) rfl rfl wd_581 dX11_readTape_16 (o' := 40) rfl ?_
    refine j_aload_n C 0 dX11_readTape_19 rfl ?_
    obtain ⟨r5, s6, hc7, h⟩ := bnd_some h
    refine k_V (v := some (.int r5)) C vb_X6_readInto (ci := 5) (T := TX6) (N := 5) rfl (by decide) (c6_readInto _ hc7) rfl (by decide) wd_427 (rfl) rfl dX11_readTape_20 ?_
    show J (ωC α) κ _ _ 23 _ [.int r5] s6
    refine j_istore_n (L' := [(2, .int r5), (1, .ref (wad (ωC α) q4)), (0, .ref (wad (ωC α) 0))]) C dX11_readTape_23 rfl rfl rfl ?_
    refine j_aload_n C 2 dX11_readTape_24 rfl ?_
    refine j_getr (o := 0) (j := 3) C inT11 (ci := 10) rfl (by decide) (rfl) rfl rfl wd_580 dX11_readTape_25 (o' := 36) rfl ?_
    refine j_iconst (v := 0) C dX11_readTape_28 (by decide) ?_
    refine j_puti (o := 36) (j := 3) C inT8 tyX8_ok nmX8 (ci := 7) rfl (by decide) (rfl) rfl rfl rfl (tyX8_ok 3 (by decide)) rfl rfl wd_213 dX11_readTape_29 ?_
    refine j_iload_n C 0 dX11_readTape_32 rfl ?_
    refine j_if_lt (tgt := 43) C dX11_readTape_33 (by decide) (fun c8 => ?_) (fun c8 => ?_)
    · replace h := it c8 h
      refine j_aload_n C 2 dX11_readTape_43 rfl ?_
      refine j_getr (o := 0) (j := 2) C inT11 (ci := 10) rfl (by decide) (rfl) rfl rfl wd_579 dX11_readTape_44 (o' := 10) rfl ?_
      obtain ⟨r9, s10, hc11, h⟩ := bnd_some h
      refine k_V (v := some (.int r9)) C vb_X10_keepNext (ci := 9) (T := TX10) (N := 3) rfl (by decide) (c10_keepNext _ hc11) rfl (by decide) wd_573 (rfl) rfl dX11_readTape_47 ?_
      show J (ωC α) κ _ _ 50 _ [.int r9] s10
      obtain ⟨hv, hs⟩ := s2_inj h
      subst hv
      subst hs
      exact j_iret C e dX11_readTape_50
    · replace h := ie c8 h
      refine j_bipush (v := -100) C dX11_readTape_36 (by decide) ?_
      refine j_iload_n C 0 dX11_readTape_38 rfl ?_
      refine j_isub C dX11_readTape_39 ?_
      refine j_goto (tgt := 50) C dX11_readTape_40 (by decide) ?_
      obtain ⟨hv, hs⟩ := s2_inj h
      subst hv
      subst hs
      exact j_iret C e dX11_readTape_50
set_option maxRecDepth 10000 in
theorem c11_text (l : Launch) {α : WA} {fu : Nat}  {σ σ' : M2} {v : Int32}  (h : F11_text fu σ = some (v, σ')) : Ct l (ωC α) yX11_text cX11_text 1 (some FieldType.int) 87 [.ref (wad (ωC α) 0)] σ (some (.int v)) σ' := by
  unfold F11_text at h
  refine Ct.of (own := "EveryoneWins") (L := [(0, .ref (wad (ωC α) 0))]) (by decide +kernel) rfl rfl rfl (fun κ hl e C => ?_)
  show J (ωC α) κ 87 1 0 [(0, .ref (wad (ωC α) 0))] [] σ
  refine j_aload_n C 0 dX11_text_0 rfl ?_
  obtain ⟨r1, s2, hc3, h⟩ := bnd_some h
  refine k_V (v := some (.int r1)) C vb_X11_readTape (ci := 10) (T := TX11) (N := 17) rfl (by decide) (c11_readTape _ hc3) rfl (by decide) wd_415 (rfl) rfl dX11_text_1 ?_
  show J (ωC α) κ _ _ 4 _ [.int r1] s2
  obtain ⟨hv, hs⟩ := s2_inj h
  subst hv
  subst hs
  exact j_iret C e dX11_text_4
set_option maxRecDepth 10000 in
theorem c11_force (l : Launch) {α : WA}  {a1 : Int32} {σ σ' : M2} {v : Int32}  (h : F11_force a1 σ = some (v, σ')) : Ct l (ωC α) yX11_force cX11_force 3 (some FieldType.int) 2 [.ref (wad (ωC α) 0), .int a1] σ (some (.int v)) σ' := by
  unfold F11_force at h
  refine Ct.of (own := "EveryoneWins") (L := [(0, .ref (wad (ωC α) 0)), (1, .int a1)]) (by decide +kernel) rfl rfl rfl (fun κ hl e C => ?_)
  show J (ωC α) κ 2 3 0 [(0, .ref (wad (ωC α) 0)), (1, .int a1)] [] σ
  refine j_iload_n C 1 dX11_force_0 rfl ?_
  refine j_iconst (v := 0) C dX11_force_1 (by decide) ?_
  refine j_aload_n C 0 dX11_force_2 rfl ?_
  refine j_getr (o := 0) (j := 2) C inT11 (ci := 10) rfl (by decide) (rfl) rfl rfl wd_579 dX11_force_3 (o' := 10) rfl ?_
  refine j_geti (o := 10) (j := 1) C inT10 (ci := 9) rfl (by decide) (rfl) rfl rfl wd_193 dX11_force_6 ?_
  refine j_iconst (v := 1) C dX11_force_9 (by decide) ?_
  refine j_isub C dX11_force_10 ?_
  obtain ⟨r1, s2, hc3, h⟩ := bnd_some h
  refine k_S (v := some (.int r1)) C sb_X11_within (c11_within _ hc3) rfl (by decide) wd_638 rfl dX11_force_11 ?_
  show J (ωC α) κ _ _ 14 _ [.int r1] s2
  refine j_if_ne (tgt := 20) C dX11_force_14 (by decide) (fun c4 => ?_) (fun c4 => ?_)
  · replace h := ie c4 h
    refine j_aload_n C 0 dX11_force_20 rfl ?_
    refine j_getr (o := 0) (j := 2) C inT11 (ci := 10) rfl (by decide) (rfl) rfl rfl wd_579 dX11_force_21 (o' := 10) rfl ?_
    refine j_geti (o := 10) (j := 2) C inT10 (ci := 9) rfl (by decide) (rfl) rfl rfl wd_194 dX11_force_24 ?_
    refine j_istore_n (L' := [(2, .int (s2 10 2)), (0, .ref (wad (ωC α) 0)), (1, .int a1)]) C dX11_force_27 rfl rfl rfl ?_
    refine j_aload_n C 1 dX11_force_28 rfl ?_
    refine j_getr (o := 0) (j := 2) C inT11 (ci := 10) rfl (by decide) (rfl) rfl rfl wd_579 dX11_force_29 (o' := 10) rfl ?_
    refine j_iload_n C 2 dX11_force_32 rfl ?_
    refine j_puti (o := 10) (j := 2) C inT10 tyX10_ok nmX10 (ci := 9) rfl (by decide) (rfl) rfl rfl rfl (tyX10_ok 2 (by decide)) rfl rfl wd_194 dX11_force_33 ?_
    refine j_iload_n C 0 dX11_force_36 rfl ?_
    obtain ⟨hv, hs⟩ := s2_inj h
    subst hv
    subst hs
    exact j_iret C e dX11_force_37
  · replace h := it c4 h
    refine j_bipush (v := -2) C dX11_force_17 (by decide) ?_
    obtain ⟨hv, hs⟩ := s2_inj h
    subst hv
    subst hs
    exact j_iret C e dX11_force_19
set_option maxRecDepth 10000 in
theorem c11_isRace (l : Launch) {α : WA}  {a1 : Int32} {σ σ' : M2} {v : Int32}  (h : F11_isRace a1 σ = some (v, σ')) : Ct l (ωC α) yX11_isRace cX11_isRace 2 (some FieldType.boolean) 2 [.ref (wad (ωC α) 0), .int a1] σ (some (.int v)) σ' := by
  unfold F11_isRace at h
  refine Ct.of (own := "EveryoneWins") (L := [(0, .ref (wad (ωC α) 0)), (1, .int a1)]) (by decide +kernel) rfl rfl rfl (fun κ hl e C => ?_)
  show J (ωC α) κ 2 2 0 [(0, .ref (wad (ωC α) 0)), (1, .int a1)] [] σ
  refine j_iload_n C 1 dX11_isRace_0 rfl ?_
  refine j_iconst (v := 0) C dX11_isRace_1 (by decide) ?_
  refine j_aload_n C 0 dX11_isRace_2 rfl ?_
  refine j_getr (o := 0) (j := 1) C inT11 (ci := 10) rfl (by decide) (rfl) rfl rfl wd_578 dX11_isRace_3 (o' := 5) rfl ?_
  refine j_geti (o := 5) (j := 4) C inT5 (ci := 4) rfl (by decide) (rfl) rfl rfl wd_148 dX11_isRace_6 ?_
  refine j_iconst (v := 1) C dX11_isRace_9 (by decide) ?_
  refine j_isub C dX11_isRace_10 ?_
  obtain ⟨r1, s2, hc3, h⟩ := bnd_some h
  refine k_S (v := some (.int r1)) C sb_X11_within (c11_within _ hc3) rfl (by decide) wd_638 rfl dX11_isRace_11 ?_
  show J (ωC α) κ _ _ 14 _ [.int r1] s2
  obtain ⟨g4, h⟩ := gd_some h
  obtain ⟨hv, hs⟩ := s2_inj h
  subst hv
  subst hs
  exact j_zret C e (isZ_n g4) dX11_isRace_14
set_option maxRecDepth 10000 in
theorem b11_asks_46 {α : WA} {κ : KT} {fu : Nat} {v : Int32} {σ' : M2} {x1 : Int32} {x2 : Int32} {x3 : Int32} {x4 : Int32} {y0 : Int32} (C : Cx (ωC α) κ cX11_asks 6 "EveryoneWins" (some FieldType.int)) (e : κ.2.2.2.2.2.2.2.2.2 = (some (.int v), σ'))  {σ : M2} (h : F11_asks_46 fu x1 x2 x3 x4 y0 σ = some (v, σ')) : J (ωC α) κ 4 6 46 [(0, .ref (wad (ωC α) 0)), (1, .int x1), (2, .int x2), (3, .int x3), (4, .int x4)] [.int y0] σ := by
  unfold F11_asks_46 at h
  refine j_istore (L' := [(5, .int y0), (0, .ref (wad (ωC α) 0)), (1, .int x1), (2, .int x2), (3, .int x3), (4, .int x4)]) C dX11_asks_46 rfl rfl ?_
  refine j_iload C 0 dX11_asks_48 rfl ?_
  refine j_if_eq (tgt := 68) C dX11_asks_50 (by decide) (fun c1 => ?_) (fun c1 => ?_)
  · replace h := it c1 h
    refine j_sipush (v := -1000) C dX11_asks_68 (by decide) ?_
    obtain ⟨hv, hs⟩ := s2_inj h
    subst hv
    subst hs
    exact j_iret C e dX11_asks_71
  · replace h := ie c1 h
    refine j_aload_n C 1 dX11_asks_53 rfl ?_
    refine j_getr (o := 0) (j := 5) C inT11 (ci := 10) rfl (by decide) (rfl) rfl rfl wd_582 dX11_asks_54 (o' := 41) rfl ?_
    refine j_iload_n C 2 dX11_asks_57 rfl ?_
    refine j_iload_n C 3 dX11_asks_58 rfl ?_
    refine j_iload_n C 4 dX11_asks_59 rfl ?_
    refine j_iload C 5 dX11_asks_60 rfl ?_
    obtain ⟨r2, s3, hc4, h⟩ := bnd_some h
    refine k_V (v := some (.int r2)) C vb_X2_says (ci := 2) (T := TX2) (N := 12) rfl (by decide) (c2_says _ hc4) rfl (by decide) wd_690 (rfl) rfl dX11_asks_62 ?_
    show J (ωC α) κ _ _ 65 _ [.int r2] s3
    refine j_goto (tgt := 71) C dX11_asks_65 (by decide) ?_
    obtain ⟨hv, hs⟩ := s2_inj h
    subst hv
    subst hs
    exact j_iret C e dX11_asks_71
set_option maxRecDepth 10000 in
theorem b11_asks_45 {α : WA} {κ : KT} {fu : Nat} {v : Int32} {σ' : M2} {x1 : Int32} {x2 : Int32} {x3 : Int32} {x4 : Int32} (C : Cx (ωC α) κ cX11_asks 6 "EveryoneWins" (some FieldType.int)) (e : κ.2.2.2.2.2.2.2.2.2 = (some (.int v), σ'))  {σ : M2} (h : F11_asks_45 fu x1 x2 x3 x4 σ = some (v, σ')) : J (ωC α) κ 4 6 45 [(0, .ref (wad (ωC α) 0)), (1, .int x1), (2, .int x2), (3, .int x3), (4, .int x4)] [] σ := by
  unfold F11_asks_45 at h
  refine j_iconst (v := 0) C dX11_asks_45 (by decide) ?_
  exact (b11_asks_46 C e h)
set_option maxRecDepth 10000 in
theorem b11_asks_30 {α : WA} {κ : KT} {fu : Nat} {v : Int32} {σ' : M2} {x1 : Int32} {x2 : Int32} {x3 : Int32} {x4 : Int32} (C : Cx (ωC α) κ cX11_asks 6 "EveryoneWins" (some FieldType.int)) (e : κ.2.2.2.2.2.2.2.2.2 = (some (.int v), σ'))  {σ : M2} (h : F11_asks_30 fu x1 x2 x3 x4 σ = some (v, σ')) : J (ωC α) κ 4 6 30 [(0, .ref (wad (ωC α) 0)), (1, .int x1), (2, .int x2), (3, .int x3), (4, .int x4)] [] σ := by
  unfold F11_asks_30 at h
  refine j_iload C 4 dX11_asks_30 rfl ?_
  refine j_iconst (v := 0) C dX11_asks_32 (by decide) ?_
  refine j_bipush (v := 6) C dX11_asks_33 (by decide) ?_
  obtain ⟨r1, s2, hc3, h⟩ := bnd_some h
  refine k_S (v := some (.int r1)) C sb_X11_within (c11_within _ hc3) rfl (by decide) wd_638 rfl dX11_asks_35 ?_
  show J (ωC α) κ _ _ 38 _ [.int r1] s2
  refine j_if_eq (tgt := 45) C dX11_asks_38 (by decide) (fun c4 => ?_) (fun c4 => ?_)
  · replace h := it c4 h
    exact (b11_asks_45 C e h)
  · replace h := ie c4 h
    refine j_iconst (v := 1) C dX11_asks_41 (by decide) ?_
    refine j_goto (tgt := 46) C dX11_asks_42 (by decide) ?_
    exact (b11_asks_46 C e h)
set_option maxRecDepth 10000 in
theorem c11_asks (l : Launch) {α : WA} {fu : Nat} {a1 : Int32} {a2 : Int32} {a3 : Int32} {a4 : Int32} {σ σ' : M2} {v : Int32}  (h : F11_asks fu a1 a2 a3 a4 σ = some (v, σ')) : Ct l (ωC α) yX11_asks cX11_asks 6 (some FieldType.int) 4 [.ref (wad (ωC α) 0), .int a1, .int a2, .int a3, .int a4] σ (some (.int v)) σ' := by
  unfold F11_asks at h
  refine Ct.of (own := "EveryoneWins") (L := [(0, .ref (wad (ωC α) 0)), (1, .int a1), (2, .int a2), (3, .int a3), (4, .int a4)]) (by decide +kernel) rfl rfl rfl (fun κ hl e C => ?_)
  show J (ωC α) κ 4 6 0 [(0, .ref (wad (ωC α) 0)), (1, .int a1), (2, .int a2), (3, .int a3), (4, .int a4)] [] σ
  refine j_iload_n C 1 dX11_asks_0 rfl ?_
  refine j_iconst (v := 0) C dX11_asks_1 (by decide) ?_
  refine j_iconst (v := 2) C dX11_asks_2 (by decide) ?_
  obtain ⟨r1, s2, hc3, h⟩ := bnd_some h
  refine k_S (v := some (.int r1)) C sb_X11_within (c11_within _ hc3) rfl (by decide) wd_638 rfl dX11_asks_3 ?_
  show J (ωC α) κ _ _ 6 _ [.int r1] s2
  refine j_if_eq (tgt := 45) C dX11_asks_6 (by decide) (fun c4 => ?_) (fun c4 => ?_)
  · replace h := it c4 h
    exact (b11_asks_45 C e h)
  · replace h := ie c4 h
    refine j_aload_n C 0 dX11_asks_9 rfl ?_
    refine j_iload_n C 2 dX11_asks_10 rfl ?_
    obtain ⟨r5, s6, hc7, h⟩ := bnd_some h
    refine k_V (v := some (.int r5)) C vb_X11_isChild (ci := 10) (T := TX11) (N := 17) rfl (by decide) (c11_isChild _ hc7) rfl (by decide) wd_650 (rfl) rfl dX11_asks_11 ?_
    show J (ωC α) κ _ _ 14 _ [.int r5] s6
    refine j_if_eq (tgt := 45) C dX11_asks_14 (by decide) (fun c8 => ?_) (fun c8 => ?_)
    · replace h := it c8 h
      exact (b11_asks_45 C e h)
    · replace h := ie c8 h
      refine j_iload_n C 3 dX11_asks_17 rfl ?_
      refine j_iconst (v := -1) C dX11_asks_18 (by decide) ?_
      refine j_icmp_eq (tgt := 30) C dX11_asks_19 (by decide) (fun c9 => ?_) (fun c9 => ?_)
      · replace h := it c9 h
        exact (b11_asks_30 C e h)
      · replace h := ie c9 h
        refine j_aload_n C 0 dX11_asks_22 rfl ?_
        refine j_iload_n C 3 dX11_asks_23 rfl ?_
        obtain ⟨r10, s11, hc12, h⟩ := bnd_some h
        refine k_V (v := some (.int r10)) C vb_X11_isRace (ci := 10) (T := TX11) (N := 17) rfl (by decide) (c11_isRace _ hc12) rfl (by decide) wd_686 (rfl) rfl dX11_asks_24 ?_
        show J (ωC α) κ _ _ 27 _ [.int r10] s11
        refine j_if_eq (tgt := 45) C dX11_asks_27 (by decide) (fun c13 => ?_) (fun c13 => ?_)
        · replace h := it c13 h
          exact (b11_asks_45 C e h)
        · replace h := ie c13 h
          exact (b11_asks_30 C e h)
set_option maxRecDepth 10000 in
theorem c11_areChildren (l : Launch) {α : WA}  {a1 : Int32} {σ σ' : M2} {v : Int32}  (h : F11_areChildren a1 σ = some (v, σ')) : Ct l (ωC α) yX11_areChildren cX11_areChildren 2 (some FieldType.boolean) 2 [.ref (wad (ωC α) 0), .int a1] σ (some (.int v)) σ' := by
  unfold F11_areChildren at h
  refine Ct.of (own := "EveryoneWins") (L := [(0, .ref (wad (ωC α) 0)), (1, .int a1)]) (by decide +kernel) rfl rfl rfl (fun κ hl e C => ?_)
  show J (ωC α) κ 2 2 0 [(0, .ref (wad (ωC α) 0)), (1, .int a1)] [] σ
  refine j_iload_n C 1 dX11_areChildren_0 rfl ?_
  refine j_iconst (v := 0) C dX11_areChildren_1 (by decide) ?_
  refine j_iconst (v := 1) C dX11_areChildren_2 (by decide) ?_
  refine j_aload_n C 0 dX11_areChildren_3 rfl ?_
  refine j_getr (o := 0) (j := 0) C inT11 (ci := 10) rfl (by decide) (rfl) rfl rfl wd_577 dX11_areChildren_4 (o' := 1) rfl ?_
  refine j_geti (o := 1) (j := 3) C inT1 (ci := 1) rfl (by decide) (rfl) rfl rfl wd_117 dX11_areChildren_7 ?_
  refine j_ishl C dX11_areChildren_10 ?_
  refine j_iconst (v := 1) C dX11_areChildren_11 (by decide) ?_
  refine j_isub C dX11_areChildren_12 ?_
  obtain ⟨r1, s2, hc3, h⟩ := bnd_some h
  refine k_S (v := some (.int r1)) C sb_X11_within (c11_within _ hc3) rfl (by decide) wd_638 rfl dX11_areChildren_13 ?_
  show J (ωC α) κ _ _ 16 _ [.int r1] s2
  obtain ⟨g4, h⟩ := gd_some h
  obtain ⟨hv, hs⟩ := s2_inj h
  subst hv
  subst hs
  exact j_zret C e (isZ_n g4) dX11_areChildren_16
set_option maxRecDepth 10000 in
theorem c11_race (l : Launch) {α : WA}  {a1 : Int32} {a2 : Int32} {σ σ' : M2} {v : Int32}  (h : F11_race a1 a2 σ = some (v, σ')) : Ct l (ωC α) yX11_race cX11_race 3 (some FieldType.int) 3 [.ref (wad (ωC α) 0), .int a1, .int a2] σ (some (.int v)) σ' := by
  unfold F11_race at h
  refine Ct.of (own := "EveryoneWins") (L := [(0, .ref (wad (ωC α) 0)), (1, .int a1), (2, .int a2)]) (by decide +kernel) rfl rfl rfl (fun κ hl e C => ?_)
  show J (ωC α) κ 3 3 0 [(0, .ref (wad (ωC α) 0)), (1, .int a1), (2, .int a2)] [] σ
  refine j_iload_n C 1 dX11_race_0 rfl ?_
  refine j_iconst (v := 0) C dX11_race_1 (by decide) ?_
  refine j_bipush (v := 59) C dX11_race_2 (by decide) ?_
  obtain ⟨r1, s2, hc3, h⟩ := bnd_some h
  refine k_S (v := some (.int r1)) C sb_X11_within (c11_within _ hc3) rfl (by decide) wd_638 rfl dX11_race_4 ?_
  show J (ωC α) κ _ _ 7 _ [.int r1] s2
  refine j_if_eq (tgt := 18) C dX11_race_7 (by decide) (fun c4 => ?_) (fun c4 => ?_)
  · replace h := it c4 h
    refine j_bipush (v := -2) C dX11_race_18 (by decide) ?_
    obtain ⟨hv, hs⟩ := s2_inj h
    subst hv
    subst hs
    exact j_iret C e dX11_race_20
  · replace h := ie c4 h
    refine j_aload_n C 0 dX11_race_10 rfl ?_
    refine j_iload_n C 2 dX11_race_11 rfl ?_
    obtain ⟨r5, s6, hc7, h⟩ := bnd_some h
    refine k_V (v := some (.int r5)) C vb_X11_areChildren (ci := 10) (T := TX11) (N := 17) rfl (by decide) (c11_areChildren _ hc7) rfl (by decide) wd_737 (rfl) rfl dX11_race_12 ?_
    show J (ωC α) κ _ _ 15 _ [.int r5] s6
    refine j_if_ne (tgt := 21) C dX11_race_15 (by decide) (fun c8 => ?_) (fun c8 => ?_)
    · replace h := ie c8 h
      refine j_aload_n C 0 dX11_race_21 rfl ?_
      refine j_getr (o := 0) (j := 1) C inT11 (ci := 10) rfl (by decide) (rfl) rfl rfl wd_578 dX11_race_22 (o' := 5) rfl ?_
      refine j_iload_n C 1 dX11_race_25 rfl ?_
      refine j_bipush (v := 10) C dX11_race_26 (by decide) ?_
      refine j_idiv C dX11_race_28 (by decide) ?_
      refine j_iload_n C 1 dX11_race_29 rfl ?_
      refine j_bipush (v := 10) C dX11_race_30 (by decide) ?_
      refine j_irem C dX11_race_32 (by decide) ?_
      refine j_iload_n C 2 dX11_race_33 rfl ?_
      obtain ⟨r9, s10, hc11, h⟩ := bnd_some h
      refine k_V (v := some (.int r9)) C vb_X5_add (ci := 4) (T := TX5) (N := 5) rfl (by decide) (c5_add _ hc11) rfl (by decide) wd_741 (rfl) rfl dX11_race_34 ?_
      show J (ωC α) κ _ _ 37 _ [.int r9] s10
      obtain ⟨hv, hs⟩ := s2_inj h
      subst hv
      subst hs
      exact j_iret C e dX11_race_37
    · replace h := it c8 h
      refine j_bipush (v := -2) C dX11_race_18 (by decide) ?_
      obtain ⟨hv, hs⟩ := s2_inj h
      subst hv
      subst hs
      exact j_iret C e dX11_race_20
set_option maxRecDepth 10000 in
theorem b11_enter_36 {α : WA} {κ : KT}  {v : Int32} {σ' : M2} {x1 : Int32} {x2 : Int32} {x3 : Int32} (C : Cx (ωC α) κ cX11_enter 4 "EveryoneWins" (some FieldType.int)) (e : κ.2.2.2.2.2.2.2.2.2 = (some (.int v), σ'))  {σ : M2} (h : F11_enter_36 x1 x2 x3 σ = some (v, σ')) : J (ωC α) κ 3 4 36 [(0, .ref (wad (ωC α) 0)), (1, .int x1), (2, .int x2), (3, .int x3)] [] σ := by
  unfold F11_enter_36 at h
  refine j_iload_n C 2 dX11_enter_36 rfl ?_
  refine j_iconst (v := 1) C dX11_enter_37 (by decide) ?_
  refine j_icmp_ne (tgt := 63) C dX11_enter_38 (by decide) (fun c1 => ?_) (fun c1 => ?_)
  · replace h := ie c1 h
    refine j_bipush (v := -7) C dX11_enter_63 (by decide) ?_
    obtain ⟨hv, hs⟩ := s2_inj h
    subst hv
    subst hs
    exact j_iret C e dX11_enter_65
  · replace h := it c1 h
    refine j_iload_n C 3 dX11_enter_41 rfl ?_
    refine j_iconst (v := 0) C dX11_enter_42 (by decide) ?_
    refine j_iconst (v := 3) C dX11_enter_43 (by decide) ?_
    obtain ⟨r2, s3, hc4, h⟩ := bnd_some h
    refine k_S (v := some (.int r2)) C sb_X11_within (c11_within _ hc4) rfl (by decide) wd_638 rfl dX11_enter_44 ?_
    show J (ωC α) κ _ _ 47 _ [.int r2] s3
    refine j_if_eq (tgt := 63) C dX11_enter_47 (by decide) (fun c5 => ?_) (fun c5 => ?_)
    · replace h := it c5 h
      refine j_bipush (v := -7) C dX11_enter_63 (by decide) ?_
      obtain ⟨hv, hs⟩ := s2_inj h
      subst hv
      subst hs
      exact j_iret C e dX11_enter_65
    · replace h := ie c5 h
      refine j_aload_n C 0 dX11_enter_50 rfl ?_
      refine j_getr (o := 0) (j := 1) C inT11 (ci := 10) rfl (by decide) (rfl) rfl rfl wd_578 dX11_enter_51 (o' := 5) rfl ?_
      refine j_getr (o := 5) (j := 3) C inT5 (ci := 4) rfl (by decide) (rfl) rfl rfl wd_146 dX11_enter_54 (o' := 9) rfl ?_
      refine j_iload_n C 1 dX11_enter_57 rfl ?_
      refine j_iload_n C 3 dX11_enter_58 rfl ?_
      obtain ⟨r6, s7, hc8, h⟩ := bnd_some h
      refine k_S (v := some (.int r6)) C sb_X11_replaced (c11_replaced _ hc8) rfl (by decide) wd_658 rfl dX11_enter_59 ?_
      show J (ωC α) κ _ _ 62 _ [.int r6] s7
      obtain ⟨hv, hs⟩ := s2_inj h
      subst hv
      subst hs
      exact j_iret C e dX11_enter_62
set_option maxRecDepth 10000 in
theorem c11_enter (l : Launch) {α : WA}  {a1 : Int32} {a2 : Int32} {a3 : Int32} {σ σ' : M2} {v : Int32}  (h : F11_enter a1 a2 a3 σ = some (v, σ')) : Ct l (ωC α) yX11_enter cX11_enter 4 (some FieldType.int) 3 [.ref (wad (ωC α) 0), .int a1, .int a2, .int a3] σ (some (.int v)) σ' := by
  unfold F11_enter at h
  refine Ct.of (own := "EveryoneWins") (L := [(0, .ref (wad (ωC α) 0)), (1, .int a1), (2, .int a2), (3, .int a3)]) (by decide +kernel) rfl rfl rfl (fun κ hl e C => ?_)
  show J (ωC α) κ 3 4 0 [(0, .ref (wad (ωC α) 0)), (1, .int a1), (2, .int a2), (3, .int a3)] [] σ
  refine j_aload_n C 0 dX11_enter_0 rfl ?_
  refine j_iload_n C 1 dX11_enter_1 rfl ?_
  obtain ⟨r1, s2, hc3, h⟩ := bnd_some h
  refine k_V (v := some (.int r1)) C vb_X11_isRace (ci := 10) (T := TX11) (N := 17) rfl (by decide) (c11_isRace _ hc3) rfl (by decide) wd_686 (rfl) rfl dX11_enter_2 ?_
  show J (ωC α) κ _ _ 5 _ [.int r1] s2
  refine j_if_ne (tgt := 11) C dX11_enter_5 (by decide) (fun c4 => ?_) (fun c4 => ?_)
  · replace h := ie c4 h
    refine j_iload_n C 2 dX11_enter_11 rfl ?_
    refine j_if_ne (tgt := 36) C dX11_enter_12 (by decide) (fun c5 => ?_) (fun c5 => ?_)
    · replace h := ie c5 h
      exact (b11_enter_36 C e h)
    · replace h := it c5 h
      refine j_aload_n C 0 dX11_enter_15 rfl ?_
      refine j_iload_n C 3 dX11_enter_16 rfl ?_
      obtain ⟨r6, s7, hc8, h⟩ := bnd_some h
      refine k_V (v := some (.int r6)) C vb_X11_areChildren (ci := 10) (T := TX11) (N := 17) rfl (by decide) (c11_areChildren _ hc8) rfl (by decide) wd_737 (rfl) rfl dX11_enter_17 ?_
      show J (ωC α) κ _ _ 20 _ [.int r6] s7
      refine j_if_eq (tgt := 36) C dX11_enter_20 (by decide) (fun c9 => ?_) (fun c9 => ?_)
      · replace h := it c9 h
        exact (b11_enter_36 C e h)
      · replace h := ie c9 h
        refine j_aload_n C 0 dX11_enter_23 rfl ?_
        refine j_getr (o := 0) (j := 1) C inT11 (ci := 10) rfl (by decide) (rfl) rfl rfl wd_578 dX11_enter_24 (o' := 5) rfl ?_
        refine j_getr (o := 5) (j := 2) C inT5 (ci := 4) rfl (by decide) (rfl) rfl rfl wd_143 dX11_enter_27 (o' := 8) rfl ?_
        refine j_iload_n C 1 dX11_enter_30 rfl ?_
        refine j_iload_n C 3 dX11_enter_31 rfl ?_
        obtain ⟨r10, s11, hc12, h⟩ := bnd_some h
        refine k_S (v := some (.int r10)) C sb_X11_replaced (c11_replaced _ hc12) rfl (by decide) wd_658 rfl dX11_enter_32 ?_
        show J (ωC α) κ _ _ 35 _ [.int r10] s11
        obtain ⟨hv, hs⟩ := s2_inj h
        subst hv
        subst hs
        exact j_iret C e dX11_enter_35
  · replace h := it c4 h
    refine j_bipush (v := -6) C dX11_enter_8 (by decide) ?_
    obtain ⟨hv, hs⟩ := s2_inj h
    subst hv
    subst hs
    exact j_iret C e dX11_enter_10
set_option maxRecDepth 10000 in
theorem c11_card (l : Launch) {α : WA}  {a1 : Int32} {a2 : Int32} {σ σ' : M2} {v : Int32}  (h : F11_card a1 a2 σ = some (v, σ')) : Ct l (ωC α) yX11_card cX11_card 3 (some FieldType.int) 3 [.ref (wad (ωC α) 0), .int a1, .int a2] σ (some (.int v)) σ' := by
  unfold F11_card at h
  refine Ct.of (own := "EveryoneWins") (L := [(0, .ref (wad (ωC α) 0)), (1, .int a1), (2, .int a2)]) (by decide +kernel) rfl rfl rfl (fun κ hl e C => ?_)
  show J (ωC α) κ 3 3 0 [(0, .ref (wad (ωC α) 0)), (1, .int a1), (2, .int a2)] [] σ
  refine j_aload_n C 0 dX11_card_0 rfl ?_
  refine j_iload_n C 1 dX11_card_1 rfl ?_
  obtain ⟨r1, s2, hc3, h⟩ := bnd_some h
  refine k_V (v := some (.int r1)) C vb_X11_isRace (ci := 10) (T := TX11) (N := 17) rfl (by decide) (c11_isRace _ hc3) rfl (by decide) wd_686 (rfl) rfl dX11_card_2 ?_
  show J (ωC α) κ _ _ 5 _ [.int r1] s2
  refine j_if_ne (tgt := 11) C dX11_card_5 (by decide) (fun c4 => ?_) (fun c4 => ?_)
  · replace h := ie c4 h
    refine j_iload_n C 2 dX11_card_11 rfl ?_
    refine j_iconst (v := 0) C dX11_card_12 (by decide) ?_
    refine j_iconst (v := 3) C dX11_card_13 (by decide) ?_
    obtain ⟨r5, s6, hc7, h⟩ := bnd_some h
    refine k_S (v := some (.int r5)) C sb_X11_within (c11_within _ hc7) rfl (by decide) wd_638 rfl dX11_card_14 ?_
    show J (ωC α) κ _ _ 17 _ [.int r5] s6
    refine j_if_eq (tgt := 35) C dX11_card_17 (by decide) (fun c8 => ?_) (fun c8 => ?_)
    · replace h := it c8 h
      refine j_bipush (v := -7) C dX11_card_35 (by decide) ?_
      obtain ⟨hv, hs⟩ := s2_inj h
      subst hv
      subst hs
      exact j_iret C e dX11_card_37
    · replace h := ie c8 h
      refine j_aload_n C 0 dX11_card_20 rfl ?_
      refine j_getr (o := 0) (j := 1) C inT11 (ci := 10) rfl (by decide) (rfl) rfl rfl wd_578 dX11_card_21 (o' := 5) rfl ?_
      refine j_iload_n C 2 dX11_card_24 rfl ?_
      obtain ⟨r9, s10, hc11, h⟩ := bnd_some h
      refine k_V (v := some (.ref (wad (ωC α) r9))) C vb_X5_row (ci := 4) (T := TX5) (N := 5) rfl (by decide) (c5_row _ hc11) rfl (by decide) wd_754 (rfl) rfl dX11_card_25 ?_
      show J (ωC α) κ _ _ 28 _ [.ref (wad (ωC α) r9)] s10
      refine j_iload_n C 1 dX11_card_28 rfl ?_
      obtain ⟨r12, s13, hc14, h⟩ := bnd_some h
      refine k_S (v := some (.int r12)) C sb_X11_at (c11_at _ hc14) rfl (by decide) wd_661 rfl dX11_card_29 ?_
      show J (ωC α) κ _ _ 32 _ [.int r12] s13
      refine j_goto (tgt := 37) C dX11_card_32 (by decide) ?_
      obtain ⟨hv, hs⟩ := s2_inj h
      subst hv
      subst hs
      exact j_iret C e dX11_card_37
  · replace h := it c4 h
    refine j_bipush (v := -6) C dX11_card_8 (by decide) ?_
    obtain ⟨hv, hs⟩ := s2_inj h
    subst hv
    subst hs
    exact j_iret C e dX11_card_10
set_option maxRecDepth 10000 in
theorem c11_comes (l : Launch) {α : WA} {fu : Nat} {a1 : Int32} {a2 : Int32} {σ σ' : M2} {v : Int32}  (h : F11_comes fu a1 a2 σ = some (v, σ')) : Ct l (ωC α) yX11_comes cX11_comes 3 (some FieldType.int) 5 [.ref (wad (ωC α) 0), .int a1, .int a2] σ (some (.int v)) σ' := by
  unfold F11_comes at h
  refine Ct.of (own := "EveryoneWins") (L := [(0, .ref (wad (ωC α) 0)), (1, .int a1), (2, .int a2)]) (by decide +kernel) rfl rfl rfl (fun κ hl e C => ?_)
  show J (ωC α) κ 5 3 0 [(0, .ref (wad (ωC α) 0)), (1, .int a1), (2, .int a2)] [] σ
  refine j_aload_n C 0 dX11_comes_0 rfl ?_
  refine j_iload_n C 1 dX11_comes_1 rfl ?_
  obtain ⟨r1, s2, hc3, h⟩ := bnd_some h
  refine k_V (v := some (.int r1)) C vb_X11_isRace (ci := 10) (T := TX11) (N := 17) rfl (by decide) (c11_isRace _ hc3) rfl (by decide) wd_686 (rfl) rfl dX11_comes_2 ?_
  show J (ωC α) κ _ _ 5 _ [.int r1] s2
  refine j_if_ne (tgt := 11) C dX11_comes_5 (by decide) (fun c4 => ?_) (fun c4 => ?_)
  · replace h := ie c4 h
    refine j_iload_n C 2 dX11_comes_11 rfl ?_
    refine j_iconst (v := 0) C dX11_comes_12 (by decide) ?_
    refine j_bipush (v := 7) C dX11_comes_13 (by decide) ?_
    obtain ⟨r5, s6, hc7, h⟩ := bnd_some h
    refine k_S (v := some (.int r5)) C sb_X11_within (c11_within _ hc7) rfl (by decide) wd_638 rfl dX11_comes_15 ?_
    show J (ωC α) κ _ _ 18 _ [.int r5] s6
    refine j_if_ne (tgt := 24) C dX11_comes_18 (by decide) (fun c8 => ?_) (fun c8 => ?_)
    · replace h := ie c8 h
      refine j_aload_n C 0 dX11_comes_24 rfl ?_
      refine j_getr (o := 0) (j := 5) C inT11 (ci := 10) rfl (by decide) (rfl) rfl rfl wd_582 dX11_comes_25 (o' := 41) rfl ?_
      obtain ⟨r9, s10, hc11, h⟩ := bnd_some h
      refine k_V (v := none) C vb_X2_begin (ci := 2) (T := TX2) (N := 12) rfl (by decide) (c2_begin _ hc11) rfl (by decide) wd_762 (rfl) rfl dX11_comes_28 ?_
      show J (ωC α) κ _ _ 31 _ [] s10
      refine j_iload_n C 2 dX11_comes_31 rfl ?_
      refine j_aload_n C 0 dX11_comes_32 rfl ?_
      refine j_getr (o := 0) (j := 5) C inT11 (ci := 10) rfl (by decide) (rfl) rfl rfl wd_582 dX11_comes_33 (o' := 41) rfl ?_
      refine j_iload_n C 1 dX11_comes_36 rfl ?_
      obtain ⟨r12, s13, hc14, h⟩ := bnd_some h
      refine k_V (v := some (.int r12)) C vb_X2_lineUp (ci := 2) (T := TX2) (N := 12) rfl (by decide) (c2_lineUp _ hc14) rfl (by decide) wd_766 (rfl) rfl dX11_comes_37 ?_
      show J (ωC α) κ _ _ 40 _ [.int r12, .int a2] s13
      refine j_icmp_ge (tgt := 57) C dX11_comes_40 (by decide) (fun c15 => ?_) (fun c15 => ?_)
      · replace h := it c15 h
        refine j_iconst (v := -1) C dX11_comes_57 (by decide) ?_
        obtain ⟨hv, hs⟩ := s2_inj h
        subst hv
        subst hs
        exact j_iret C e dX11_comes_58
      · replace h := ie c15 h
        refine j_aload_n C 0 dX11_comes_43 rfl ?_
        refine j_getr (o := 0) (j := 5) C inT11 (ci := 10) rfl (by decide) (rfl) rfl rfl wd_582 dX11_comes_44 (o' := 41) rfl ?_
        refine j_getr (o := 41) (j := 4) C inT2 (ci := 2) rfl (by decide) (rfl) rfl rfl wd_261 dX11_comes_47 (o' := 43) rfl ?_
        refine j_iload_n C 2 dX11_comes_50 rfl ?_
        obtain ⟨r16, s17, hc18, h⟩ := bnd_some h
        refine k_S (v := some (.int r16)) C sb_X11_at (c11_at _ hc18) rfl (by decide) wd_661 rfl dX11_comes_51 ?_
        show J (ωC α) κ _ _ 54 _ [.int r16] s17
        refine j_goto (tgt := 58) C dX11_comes_54 (by decide) ?_
        obtain ⟨hv, hs⟩ := s2_inj h
        subst hv
        subst hs
        exact j_iret C e dX11_comes_58
    · replace h := it c8 h
      refine j_bipush (v := -7) C dX11_comes_21 (by decide) ?_
      obtain ⟨hv, hs⟩ := s2_inj h
      subst hv
      subst hs
      exact j_iret C e dX11_comes_23
  · replace h := it c4 h
    refine j_bipush (v := -6) C dX11_comes_8 (by decide) ?_
    obtain ⟨hv, hs⟩ := s2_inj h
    subst hv
    subst hs
    exact j_iret C e dX11_comes_10
set_option maxRecDepth 10000 in
theorem c11_does (l : Launch) {α : WA} {fu : Nat} {a1 : Int32} {a2 : Int32} {σ σ' : M2} {v : Int32}  (h : F11_does fu a1 a2 σ = some (v, σ')) : Ct l (ωC α) yX11_does cX11_does 3 (some FieldType.int) 4 [.ref (wad (ωC α) 0), .int a1, .int a2] σ (some (.int v)) σ' := by
  unfold F11_does at h
  refine Ct.of (own := "EveryoneWins") (L := [(0, .ref (wad (ωC α) 0)), (1, .int a1), (2, .int a2)]) (by decide +kernel) rfl rfl rfl (fun κ hl e C => ?_)
  show J (ωC α) κ 4 3 0 [(0, .ref (wad (ωC α) 0)), (1, .int a1), (2, .int a2)] [] σ
  refine j_aload_n C 0 dX11_does_0 rfl ?_
  refine j_iload_n C 1 dX11_does_1 rfl ?_
  obtain ⟨r1, s2, hc3, h⟩ := bnd_some h
  refine k_V (v := some (.int r1)) C vb_X11_isChild (ci := 10) (T := TX11) (N := 17) rfl (by decide) (c11_isChild _ hc3) rfl (by decide) wd_650 (rfl) rfl dX11_does_2 ?_
  show J (ωC α) κ _ _ 5 _ [.int r1] s2
  refine j_if_ne (tgt := 12) C dX11_does_5 (by decide) (fun c4 => ?_) (fun c4 => ?_)
  · replace h := ie c4 h
    refine j_aload_n C 0 dX11_does_12 rfl ?_
    refine j_iload_n C 2 dX11_does_13 rfl ?_
    obtain ⟨r5, s6, hc7, h⟩ := bnd_some h
    refine k_V (v := some (.int r5)) C vb_X11_isRace (ci := 10) (T := TX11) (N := 17) rfl (by decide) (c11_isRace _ hc7) rfl (by decide) wd_686 (rfl) rfl dX11_does_14 ?_
    show J (ωC α) κ _ _ 17 _ [.int r5] s6
    refine j_if_ne (tgt := 24) C dX11_does_17 (by decide) (fun c8 => ?_) (fun c8 => ?_)
    · replace h := ie c8 h
      refine j_aload_n C 0 dX11_does_24 rfl ?_
      refine j_getr (o := 0) (j := 5) C inT11 (ci := 10) rfl (by decide) (rfl) rfl rfl wd_582 dX11_does_25 (o' := 41) rfl ?_
      refine j_iload_n C 1 dX11_does_28 rfl ?_
      refine j_iload_n C 2 dX11_does_29 rfl ?_
      refine j_aload_n C 0 dX11_does_30 rfl ?_
      refine j_getr (o := 0) (j := 5) C inT11 (ci := 10) rfl (by decide) (rfl) rfl rfl wd_582 dX11_does_31 (o' := 41) rfl ?_
      refine j_iconst (v := 0) C dX11_does_34 (by decide) ?_
      refine j_iload_n C 1 dX11_does_35 rfl ?_
      refine j_iload_n C 2 dX11_does_36 rfl ?_
      refine j_iconst (v := 0) C dX11_does_37 (by decide) ?_
      obtain ⟨r9, s10, hc11, h⟩ := bnd_some h
      refine k_V (v := some (.int r9)) C vb_X2_says (ci := 2) (T := TX2) (N := 12) rfl (by decide) (c2_says _ hc11) rfl (by decide) wd_690 (rfl) rfl dX11_does_38 ?_
      show J (ωC α) κ _ _ 41 _ [.int r9, .int a2, .int a1, .ref (wad (ωC α) 41)] s10
      obtain ⟨r12, s13, hc14, h⟩ := bnd_some h
      refine k_V (v := some (.int r12)) C vb_X2_scoreOf (ci := 2) (T := TX2) (N := 12) rfl (by decide) (c2_scoreOf _ hc14) rfl (by decide) wd_796 (rfl) rfl dX11_does_41 ?_
      show J (ωC α) κ _ _ 44 _ [.int r12] s13
      obtain ⟨hv, hs⟩ := s2_inj h
      subst hv
      subst hs
      exact j_iret C e dX11_does_44
    · replace h := it c8 h
      refine j_sipush (v := -1006) C dX11_does_20 (by decide) ?_
      obtain ⟨hv, hs⟩ := s2_inj h
      subst hv
      subst hs
      exact j_iret C e dX11_does_23
  · replace h := it c4 h
    refine j_sipush (v := -1005) C dX11_does_8 (by decide) ?_
    obtain ⟨hv, hs⟩ := s2_inj h
    subst hv
    subst hs
    exact j_iret C e dX11_does_11
set_option maxRecDepth 10000 in
theorem b11_day_24 {α : WA} {κ : KT} {fu : Nat} {v : Int32} {σ' : M2} {x1 : Int32} (C : Cx (ωC α) κ cX11_day 2 "EveryoneWins" (some FieldType.int)) (e : κ.2.2.2.2.2.2.2.2.2 = (some (.int v), σ'))  {σ : M2} (h : F11_day_24 fu x1 σ = some (v, σ')) : J (ωC α) κ 7 2 24 [(0, .ref (wad (ωC α) 0)), (1, .int x1)] [] σ := by
  unfold F11_day_24 at h
  refine j_aload_n C 0 dX11_day_24 rfl ?_
  refine j_getr (o := 0) (j := 5) C inT11 (ci := 10) rfl (by decide) (rfl) rfl rfl wd_582 dX11_day_25 (o' := 41) rfl ?_
  obtain ⟨r1, s2, hc3, h⟩ := bnd_some h
  refine k_V (v := none) C vb_X2_run (ci := 2) (T := TX2) (N := 12) rfl (by decide) (c2_run _ hc3) rfl (by decide) wd_801 (rfl) rfl dX11_day_28 ?_
  show J (ωC α) κ _ _ 31 _ [] s2
  refine j_iload_n C 1 dX11_day_31 rfl ?_
  by_cases c4 : x1 = (0 : Int32)
  · replace h := it c4 h
    refine j_tabEq (tgt := 64) C dX11_day_32 c4 (by decide) (by decide) rfl (by decide) ?_
    refine j_aload_n C 0 dX11_day_64 rfl ?_
    refine j_getr (o := 0) (j := 5) C inT11 (ci := 10) rfl (by decide) (rfl) rfl rfl wd_582 dX11_day_65 (o' := 41) rfl ?_
    refine j_geti (o := 41) (j := 11) C inT2 (ci := 2) rfl (by decide) (rfl) rfl rfl wd_276 dX11_day_68 ?_
    obtain ⟨hv, hs⟩ := s2_inj h
    subst hv
    subst hs
    exact j_iret C e dX11_day_71
  replace h := ie c4 h
  by_cases c5 : x1 = (1 : Int32)
  · replace h := it c5 h
    refine j_tabEq (tgt := 72) C dX11_day_32 c5 (by decide) (by decide) rfl (by decide) ?_
    refine j_aload_n C 0 dX11_day_72 rfl ?_
    refine j_getr (o := 0) (j := 5) C inT11 (ci := 10) rfl (by decide) (rfl) rfl rfl wd_582 dX11_day_73 (o' := 41) rfl ?_
    refine j_geti (o := 41) (j := 10) C inT2 (ci := 2) rfl (by decide) (rfl) rfl rfl wd_274 dX11_day_76 ?_
    obtain ⟨hv, hs⟩ := s2_inj h
    subst hv
    subst hs
    exact j_iret C e dX11_day_79
  replace h := ie c5 h
  by_cases c6 : x1 = (2 : Int32)
  · replace h := it c6 h
    refine j_tabEq (tgt := 80) C dX11_day_32 c6 (by decide) (by decide) rfl (by decide) ?_
    refine j_aload_n C 0 dX11_day_80 rfl ?_
    refine j_getr (o := 0) (j := 5) C inT11 (ci := 10) rfl (by decide) (rfl) rfl rfl wd_582 dX11_day_81 (o' := 41) rfl ?_
    refine j_geti (o := 41) (j := 8) C inT2 (ci := 2) rfl (by decide) (rfl) rfl rfl wd_269 dX11_day_84 ?_
    obtain ⟨hv, hs⟩ := s2_inj h
    subst hv
    subst hs
    exact j_iret C e dX11_day_87
  replace h := ie c6 h
  by_cases c7 : x1 = (3 : Int32)
  · replace h := it c7 h
    refine j_tabEq (tgt := 88) C dX11_day_32 c7 (by decide) (by decide) rfl (by decide) ?_
    refine j_aload_n C 0 dX11_day_88 rfl ?_
    refine j_getr (o := 0) (j := 5) C inT11 (ci := 10) rfl (by decide) (rfl) rfl rfl wd_582 dX11_day_89 (o' := 41) rfl ?_
    refine j_geti (o := 41) (j := 9) C inT2 (ci := 2) rfl (by decide) (rfl) rfl rfl wd_271 dX11_day_92 ?_
    obtain ⟨hv, hs⟩ := s2_inj h
    subst hv
    subst hs
    exact j_iret C e dX11_day_95
  replace h := ie c7 h
  refine j_tableOut (tgt := 96) C dX11_day_32 (by have q0 := ne_ti c4 (z := 0) (by decide); have q1 := ne_ti c5 (z := 1) (by decide); have q2 := ne_ti c6 (z := 2) (by decide); have q3 := ne_ti c7 (z := 3) (by decide); omega) (by decide) ?_
  refine j_aload_n C 0 dX11_day_96 rfl ?_
  refine j_getr (o := 0) (j := 5) C inT11 (ci := 10) rfl (by decide) (rfl) rfl rfl wd_582 dX11_day_97 (o' := 41) rfl ?_
  refine j_getr (o := 41) (j := 3) C inT2 (ci := 2) rfl (by decide) (rfl) rfl rfl wd_259 dX11_day_100 (o' := 42) rfl ?_
  refine j_iload_n C 1 dX11_day_103 rfl ?_
  refine j_bipush (v := 10) C dX11_day_104 (by decide) ?_
  refine j_isub C dX11_day_106 ?_
  obtain ⟨r8, s9, hc10, h⟩ := bnd_some h
  refine k_S (v := some (.int r8)) C sb_X11_at (c11_at _ hc10) rfl (by decide) wd_661 rfl dX11_day_107 ?_
  show J (ωC α) κ _ _ 110 _ [.int r8] s9
  obtain ⟨hv, hs⟩ := s2_inj h
  subst hv
  subst hs
  exact j_iret C e dX11_day_110
set_option maxRecDepth 10000 in
theorem c11_day (l : Launch) {α : WA} {fu : Nat} {a1 : Int32} {σ σ' : M2} {v : Int32}  (h : F11_day fu a1 σ = some (v, σ')) : Ct l (ωC α) yX11_day cX11_day 2 (some FieldType.int) 7 [.ref (wad (ωC α) 0), .int a1] σ (some (.int v)) σ' := by
  unfold F11_day at h
  refine Ct.of (own := "EveryoneWins") (L := [(0, .ref (wad (ωC α) 0)), (1, .int a1)]) (by decide +kernel) rfl rfl rfl (fun κ hl e C => ?_)
  show J (ωC α) κ 7 2 0 [(0, .ref (wad (ωC α) 0)), (1, .int a1)] [] σ
  refine j_iload_n C 1 dX11_day_0 rfl ?_
  refine j_iconst (v := 0) C dX11_day_1 (by decide) ?_
  refine j_iconst (v := 3) C dX11_day_2 (by decide) ?_
  obtain ⟨r1, s2, hc3, h⟩ := bnd_some h
  refine k_S (v := some (.int r1)) C sb_X11_within (c11_within _ hc3) rfl (by decide) wd_638 rfl dX11_day_3 ?_
  show J (ωC α) κ _ _ 6 _ [.int r1] s2
  refine j_if_ne (tgt := 24) C dX11_day_6 (by decide) (fun c4 => ?_) (fun c4 => ?_)
  · replace h := ie c4 h
    exact (b11_day_24 C e h)
  · replace h := it c4 h
    refine j_aload_n C 0 dX11_day_9 rfl ?_
    refine j_iload_n C 1 dX11_day_10 rfl ?_
    refine j_bipush (v := 10) C dX11_day_11 (by decide) ?_
    refine j_isub C dX11_day_13 ?_
    obtain ⟨r5, s6, hc7, h⟩ := bnd_some h
    refine k_V (v := some (.int r5)) C vb_X11_isChild (ci := 10) (T := TX11) (N := 17) rfl (by decide) (c11_isChild _ hc7) rfl (by decide) wd_650 (rfl) rfl dX11_day_14 ?_
    show J (ωC α) κ _ _ 17 _ [.int r5] s6
    refine j_if_ne (tgt := 24) C dX11_day_17 (by decide) (fun c8 => ?_) (fun c8 => ?_)
    · replace h := ie c8 h
      exact (b11_day_24 C e h)
    · replace h := it c8 h
      refine j_sipush (v := -1000) C dX11_day_20 (by decide) ?_
      obtain ⟨hv, hs⟩ := s2_inj h
      subst hv
      subst hs
      exact j_iret C e dX11_day_23
set_option maxRecDepth 10000 in
theorem b11_changingRunners_122 {α : WA} {κ : KT} {fu : Nat} {v : Int32} {σ' : M2} {x1 : Int32} {x2 : Int32} {x3 : Int32} {x4 : Int32} {x5 : Int32} (C : Cx (ωC α) κ cX11_changingRunners 6 "EveryoneWins" (some FieldType.int)) (e : κ.2.2.2.2.2.2.2.2.2 = (some (.int v), σ')) {k20 : Int32 → M2 → Option (Int32 × M2)} (hk20 : ∀ (x3' : Int32) (σ : M2), k20 x3' σ = some (v, σ') → J (ωC α) κ 7 6 20 [(0, .ref (wad (ωC α) 0)), (1, .int x1), (2, .int x2), (3, .int x3')] [] σ) {k47 : Int32 → M2 → Option (Int32 × M2)} (hk47 : ∀ (x5' : Int32) (σ : M2), k47 x5' σ = some (v, σ') → J (ωC α) κ 7 6 47 [(0, .ref (wad (ωC α) 0)), (1, .int x1), (2, .int x2), (3, .int x3), (4, .int x4), (5, .int x5')] [] σ) {σ : M2} (h : F11_changingRunners_122 fu k20 k47 x1 x2 x3 x4 x5 σ = some (v, σ')) : J (ωC α) κ 7 6 122 [(0, .ref (wad (ωC α) 0)), (1, .int x1), (2, .int x2), (3, .int x3), (4, .int x4), (5, .int x5)] [] σ := by
  unfold F11_changingRunners_122 at h
  refine j_iinc (L' := [(5, .int (x5 + 1)), (0, .ref (wad (ωC α) 0)), (1, .int x1), (2, .int x2), (3, .int x3), (4, .int x4)]) C 5 dX11_changingRunners_122 rfl rfl rfl rfl ?_
  refine j_goto (tgt := 47) C dX11_changingRunners_125 (by decide) ?_
  exact j_sub [1, 2, 3, 4, 5, 0] rfl (hk47 _ _ h)
set_option maxRecDepth 10000 in
theorem b11_changingRunners_76 {α : WA} {κ : KT} {fu : Nat} {v : Int32} {σ' : M2} {x1 : Int32} {x2 : Int32} {x3 : Int32} {x4 : Int32} {x5 : Int32} {y0 : Int32} {y1 : Int32} (C : Cx (ωC α) κ cX11_changingRunners 6 "EveryoneWins" (some FieldType.int)) (e : κ.2.2.2.2.2.2.2.2.2 = (some (.int v), σ')) {k20 : Int32 → M2 → Option (Int32 × M2)} (hk20 : ∀ (x3' : Int32) (σ : M2), k20 x3' σ = some (v, σ') → J (ωC α) κ 7 6 20 [(0, .ref (wad (ωC α) 0)), (1, .int x1), (2, .int x2), (3, .int x3')] [] σ) {k47 : Int32 → M2 → Option (Int32 × M2)} (hk47 : ∀ (x5' : Int32) (σ : M2), k47 x5' σ = some (v, σ') → J (ωC α) κ 7 6 47 [(0, .ref (wad (ωC α) 0)), (1, .int x1), (2, .int x2), (3, .int x3), (4, .int x4), (5, .int x5')] [] σ) {σ : M2} (h : F11_changingRunners_76 fu k20 k47 x1 x2 x3 x4 x5 y0 y1 σ = some (v, σ')) : J (ωC α) κ 7 6 76 [(0, .ref (wad (ωC α) 0)), (1, .int x1), (2, .int x2), (3, .int x3), (4, .int x4), (5, .int x5)] [.int y0, .int y1] σ := by
  unfold F11_changingRunners_76 at h
  refine j_icmp_ne (tgt := 122) C dX11_changingRunners_76 (by decide) (fun c1 => ?_) (fun c1 => ?_)
  · replace h := ie c1 h
    exact (b11_changingRunners_122 C e hk20 hk47 h)
  · replace h := it c1 h
    refine j_aload_n C 0 dX11_changingRunners_79 rfl ?_
    refine j_getr (o := 0) (j := 1) C inT11 (ci := 10) rfl (by decide) (rfl) rfl rfl wd_578 dX11_changingRunners_80 (o' := 5) rfl ?_
    refine j_getr (o := 5) (j := 2) C inT5 (ci := 4) rfl (by decide) (rfl) rfl rfl wd_143 dX11_changingRunners_83 (o' := 8) rfl ?_
    refine j_iload_n C 3 dX11_changingRunners_86 rfl ?_
    refine j_iload C 4 dX11_changingRunners_87 rfl ?_
    refine j_iconst (v := 1) C dX11_changingRunners_89 (by decide) ?_
    refine j_iload C 5 dX11_changingRunners_90 rfl ?_
    refine j_ishl C dX11_changingRunners_92 ?_
    refine j_ixor C dX11_changingRunners_93 ?_
    obtain ⟨r2, s3, hc4, h⟩ := bnd_some h
    refine k_S (v := none) C sb_X11_set (c11_set _ hc4) rfl (by decide) wd_662 rfl dX11_changingRunners_94 ?_
    show J (ωC α) κ _ _ 97 _ [] s3
    refine j_aload_n C 0 dX11_changingRunners_97 rfl ?_
    refine j_getr (o := 0) (j := 5) C inT11 (ci := 10) rfl (by decide) (rfl) rfl rfl wd_582 dX11_changingRunners_98 (o' := 41) rfl ?_
    obtain ⟨r5, s6, hc7, h⟩ := bnd_some h
    refine k_V (v := none) C vb_X2_run (ci := 2) (T := TX2) (N := 12) rfl (by decide) (c2_run _ hc7) rfl (by decide) wd_801 (rfl) rfl dX11_changingRunners_101 ?_
    show J (ωC α) κ _ _ 104 _ [] s6
    refine j_aload_n C 0 dX11_changingRunners_104 rfl ?_
    refine j_getr (o := 0) (j := 6) C inT11 (ci := 10) rfl (by decide) (rfl) rfl rfl wd_583 dX11_changingRunners_105 (o' := 47) rfl ?_
    refine j_bipush (v := 10) C dX11_changingRunners_108 (by decide) ?_
    refine j_iload_n C 3 dX11_changingRunners_110 rfl ?_
    refine j_imul C dX11_changingRunners_111 ?_
    refine j_iload C 5 dX11_changingRunners_112 rfl ?_
    refine j_iadd C dX11_changingRunners_114 ?_
    refine j_aload_n C 0 dX11_changingRunners_115 rfl ?_
    refine j_getr (o := 0) (j := 5) C inT11 (ci := 10) rfl (by decide) (rfl) rfl rfl wd_582 dX11_changingRunners_116 (o' := 41) rfl ?_
    obtain ⟨r8, s9, hc10, h⟩ := bnd_some h
    refine k_V (v := none) C vb_X0_weigh (ci := 0) (T := TX0) (N := 3) rfl (by decide) (c0_weigh _ hc10) rfl (by decide) wd_844 (rfl) rfl dX11_changingRunners_119 ?_
    show J (ωC α) κ _ _ 122 _ [] s9
    exact (b11_changingRunners_122 C e hk20 hk47 h)
set_option maxRecDepth 10000 in
theorem b11_changingRunners_47 {α : WA} {κ : KT} {fu : Nat} {v : Int32} {σ' : M2} {x1 : Int32} {x2 : Int32} {x3 : Int32} {x4 : Int32} {x5 : Int32} (C : Cx (ωC α) κ cX11_changingRunners 6 "EveryoneWins" (some FieldType.int)) (e : κ.2.2.2.2.2.2.2.2.2 = (some (.int v), σ')) {k20 : Int32 → M2 → Option (Int32 × M2)} (hk20 : ∀ (x3' : Int32) (σ : M2), k20 x3' σ = some (v, σ') → J (ωC α) κ 7 6 20 [(0, .ref (wad (ωC α) 0)), (1, .int x1), (2, .int x2), (3, .int x3')] [] σ) {σ : M2} (h : F11_changingRunners_47 fu k20 x1 x2 x3 x4 x5 σ = some (v, σ')) : J (ωC α) κ 7 6 47 [(0, .ref (wad (ωC α) 0)), (1, .int x1), (2, .int x2), (3, .int x3), (4, .int x4), (5, .int x5)] [] σ := by
  unfold F11_changingRunners_47 at h
  refine wl1_ind (fun x5 σ => J (ωC α) κ 7 6 47 [(0, .ref (wad (ωC α) 0)), (1, .int x1), (2, .int x2), (3, .int x3), (4, .int x4), (5, .int x5)] [] σ) ?_ fu x5 σ h
  intro k47 hk47 x5 σ h
  try dsimp only at h
  show J (ωC α) κ 7 6 47 [(0, .ref (wad (ωC α) 0)), (1, .int x1), (2, .int x2), (3, .int x3), (4, .int x4), (5, .int x5)] [] σ
  refine j_iload C 5 dX11_changingRunners_47 rfl ?_
  refine j_aload_n C 0 dX11_changingRunners_49 rfl ?_
  refine j_getr (o := 0) (j := 0) C inT11 (ci := 10) rfl (by decide) (rfl) rfl rfl wd_577 dX11_changingRunners_50 (o' := 1) rfl ?_
  refine j_geti (o := 1) (j := 3) C inT1 (ci := 1) rfl (by decide) (rfl) rfl rfl wd_117 dX11_changingRunners_53 ?_
  refine j_icmp_ge (tgt := 128) C dX11_changingRunners_56 (by decide) (fun c1 => ?_) (fun c1 => ?_)
  · replace h := it c1 h
    refine j_aload_n C 0 dX11_changingRunners_128 rfl ?_
    refine j_getr (o := 0) (j := 1) C inT11 (ci := 10) rfl (by decide) (rfl) rfl rfl wd_578 dX11_changingRunners_129 (o' := 5) rfl ?_
    refine j_getr (o := 5) (j := 2) C inT5 (ci := 4) rfl (by decide) (rfl) rfl rfl wd_143 dX11_changingRunners_132 (o' := 8) rfl ?_
    refine j_iload_n C 3 dX11_changingRunners_135 rfl ?_
    refine j_iload C 4 dX11_changingRunners_136 rfl ?_
    obtain ⟨r2, s3, hc4, h⟩ := bnd_some h
    refine k_S (v := none) C sb_X11_set (c11_set _ hc4) rfl (by decide) wd_662 rfl dX11_changingRunners_138 ?_
    show J (ωC α) κ _ _ 141 _ [] s3
    refine j_iinc (L' := [(3, .int (x3 + 1)), (0, .ref (wad (ωC α) 0)), (1, .int x1), (2, .int x2), (4, .int x4), (5, .int x5)]) C 3 dX11_changingRunners_141 rfl rfl rfl rfl ?_
    refine j_goto (tgt := 20) C dX11_changingRunners_144 (by decide) ?_
    exact j_sub [1, 2, 3, 0] rfl (hk20 _ _ h)
  · replace h := ie c1 h
    refine j_iload C 4 dX11_changingRunners_59 rfl ?_
    refine j_iload C 5 dX11_changingRunners_61 rfl ?_
    obtain ⟨r5, s6, hc7, h⟩ := bnd_some h
    refine k_S (v := some (.int r5)) C sb_X11_has (c11_has _ hc7) rfl (by decide) wd_843 rfl dX11_changingRunners_63 ?_
    show J (ωC α) κ _ _ 66 _ [.int r5] s6
    refine j_iload_n C 2 dX11_changingRunners_66 rfl ?_
    refine j_iconst (v := 1) C dX11_changingRunners_67 (by decide) ?_
    refine j_icmp_ne (tgt := 75) C dX11_changingRunners_68 (by decide) (fun c8 => ?_) (fun c8 => ?_)
    · replace h := ie c8 h
      refine j_iconst (v := 0) C dX11_changingRunners_75 (by decide) ?_
      exact (b11_changingRunners_76 C e hk20 hk47 h)
    · replace h := it c8 h
      refine j_iconst (v := 1) C dX11_changingRunners_71 (by decide) ?_
      refine j_goto (tgt := 76) C dX11_changingRunners_72 (by decide) ?_
      exact (b11_changingRunners_76 C e hk20 hk47 h)
set_option maxRecDepth 10000 in
theorem b11_changingRunners_20 {α : WA} {κ : KT} {fu : Nat} {v : Int32} {σ' : M2} {x1 : Int32} {x2 : Int32} {x3 : Int32} (C : Cx (ωC α) κ cX11_changingRunners 6 "EveryoneWins" (some FieldType.int)) (e : κ.2.2.2.2.2.2.2.2.2 = (some (.int v), σ'))  {σ : M2} (h : F11_changingRunners_20 fu x1 x2 x3 σ = some (v, σ')) : J (ωC α) κ 7 6 20 [(0, .ref (wad (ωC α) 0)), (1, .int x1), (2, .int x2), (3, .int x3)] [] σ := by
  unfold F11_changingRunners_20 at h
  refine wl1_ind (fun x3 σ => J (ωC α) κ 7 6 20 [(0, .ref (wad (ωC α) 0)), (1, .int x1), (2, .int x2), (3, .int x3)] [] σ) ?_ fu x3 σ h
  intro k20 hk20 x3 σ h
  try dsimp only at h
  show J (ωC α) κ 7 6 20 [(0, .ref (wad (ωC α) 0)), (1, .int x1), (2, .int x2), (3, .int x3)] [] σ
  refine j_iload_n C 3 dX11_changingRunners_20 rfl ?_
  refine j_aload_n C 0 dX11_changingRunners_21 rfl ?_
  refine j_getr (o := 0) (j := 1) C inT11 (ci := 10) rfl (by decide) (rfl) rfl rfl wd_578 dX11_changingRunners_22 (o' := 5) rfl ?_
  refine j_geti (o := 5) (j := 4) C inT5 (ci := 4) rfl (by decide) (rfl) rfl rfl wd_148 dX11_changingRunners_25 ?_
  refine j_icmp_ge (tgt := 147) C dX11_changingRunners_28 (by decide) (fun c1 => ?_) (fun c1 => ?_)
  · replace h := it c1 h
    refine j_aload_n C 0 dX11_changingRunners_147 rfl ?_
    refine j_getr (o := 0) (j := 6) C inT11 (ci := 10) rfl (by decide) (rfl) rfl rfl wd_583 dX11_changingRunners_148 (o' := 47) rfl ?_
    refine j_iload_n C 1 dX11_changingRunners_151 rfl ?_
    obtain ⟨r2, s3, hc4, h⟩ := bnd_some h
    refine k_V (v := some (.int r2)) C vb_X0_tells (ci := 0) (T := TX0) (N := 3) rfl (by decide) (c0_tells _ hc4) rfl (by decide) wd_848 (rfl) rfl dX11_changingRunners_152 ?_
    show J (ωC α) κ _ _ 155 _ [.int r2] s3
    obtain ⟨hv, hs⟩ := s2_inj h
    subst hv
    subst hs
    exact j_iret C e dX11_changingRunners_155
  · replace h := ie c1 h
    refine j_aload_n C 0 dX11_changingRunners_31 rfl ?_
    refine j_getr (o := 0) (j := 1) C inT11 (ci := 10) rfl (by decide) (rfl) rfl rfl wd_578 dX11_changingRunners_32 (o' := 5) rfl ?_
    refine j_getr (o := 5) (j := 2) C inT5 (ci := 4) rfl (by decide) (rfl) rfl rfl wd_143 dX11_changingRunners_35 (o' := 8) rfl ?_
    refine j_iload_n C 3 dX11_changingRunners_38 rfl ?_
    obtain ⟨r5, s6, hc7, h⟩ := bnd_some h
    refine k_S (v := some (.int r5)) C sb_X11_at (c11_at _ hc7) rfl (by decide) wd_661 rfl dX11_changingRunners_39 ?_
    show J (ωC α) κ _ _ 42 _ [.int r5] s6
    refine j_istore (L' := [(4, .int r5), (0, .ref (wad (ωC α) 0)), (1, .int x1), (2, .int x2), (3, .int x3)]) C dX11_changingRunners_42 rfl rfl ?_
    refine j_iconst (v := 0) C dX11_changingRunners_44 (by decide) ?_
    refine j_istore (L' := [(5, .int (0 : Int32)), (4, .int r5), (0, .ref (wad (ωC α) 0)), (1, .int x1), (2, .int x2), (3, .int x3)]) C dX11_changingRunners_45 rfl rfl ?_
    exact j_sub [2, 3, 4, 5, 1, 0] rfl (b11_changingRunners_47 C e hk20 h)
set_option maxRecDepth 10000 in
theorem c11_changingRunners (l : Launch) {α : WA} {fu : Nat} {a1 : Int32} {a2 : Int32} {σ σ' : M2} {v : Int32}  (h : F11_changingRunners fu a1 a2 σ = some (v, σ')) : Ct l (ωC α) yX11_changingRunners cX11_changingRunners 6 (some FieldType.int) 7 [.ref (wad (ωC α) 0), .int a1, .int a2] σ (some (.int v)) σ' := by
  unfold F11_changingRunners at h
  refine Ct.of (own := "EveryoneWins") (L := [(0, .ref (wad (ωC α) 0)), (1, .int a1), (2, .int a2)]) (by decide +kernel) rfl rfl rfl (fun κ hl e C => ?_)
  show J (ωC α) κ 7 6 0 [(0, .ref (wad (ωC α) 0)), (1, .int a1), (2, .int a2)] [] σ
  refine j_aload_n C 0 dX11_changingRunners_0 rfl ?_
  refine j_getr (o := 0) (j := 5) C inT11 (ci := 10) rfl (by decide) (rfl) rfl rfl wd_582 dX11_changingRunners_1 (o' := 41) rfl ?_
  obtain ⟨r1, s2, hc3, h⟩ := bnd_some h
  refine k_V (v := none) C vb_X2_run (ci := 2) (T := TX2) (N := 12) rfl (by decide) (c2_run _ hc3) rfl (by decide) wd_801 (rfl) rfl dX11_changingRunners_4 ?_
  show J (ωC α) κ _ _ 7 _ [] s2
  refine j_aload_n C 0 dX11_changingRunners_7 rfl ?_
  refine j_getr (o := 0) (j := 6) C inT11 (ci := 10) rfl (by decide) (rfl) rfl rfl wd_583 dX11_changingRunners_8 (o' := 47) rfl ?_
  refine j_aload_n C 0 dX11_changingRunners_11 rfl ?_
  refine j_getr (o := 0) (j := 5) C inT11 (ci := 10) rfl (by decide) (rfl) rfl rfl wd_582 dX11_changingRunners_12 (o' := 41) rfl ?_
  obtain ⟨r4, s5, hc6, h⟩ := bnd_some h
  refine k_V (v := none) C vb_X0_startFrom (ci := 0) (T := TX0) (N := 3) rfl (by decide) (c0_startFrom _ hc6) rfl (by decide) wd_835 (rfl) rfl dX11_changingRunners_15 ?_
  show J (ωC α) κ _ _ 18 _ [] s5
  refine j_iconst (v := 0) C dX11_changingRunners_18 (by decide) ?_
  refine j_istore_n (L' := [(3, .int (0 : Int32)), (0, .ref (wad (ωC α) 0)), (1, .int a1), (2, .int a2)]) C dX11_changingRunners_19 rfl rfl rfl ?_
  exact j_sub [1, 2, 3, 0] rfl (b11_changingRunners_20 C e h)
set_option maxRecDepth 10000 in
theorem c11_let (l : Launch) {α : WA} {fu : Nat} {a1 : Int32} {σ σ' : M2} {v : Int32}  (h : F11_let fu a1 σ = some (v, σ')) : Ct l (ωC α) yX11_let cX11_let 2 (some FieldType.int) 8 [.ref (wad (ωC α) 0), .int a1] σ (some (.int v)) σ' := by
  unfold F11_let at h
  refine Ct.of (own := "EveryoneWins") (L := [(0, .ref (wad (ωC α) 0)), (1, .int a1)]) (by decide +kernel) rfl rfl rfl (fun κ hl e C => ?_)
  show J (ωC α) κ 8 2 0 [(0, .ref (wad (ωC α) 0)), (1, .int a1)] [] σ
  refine j_iload_n C 1 dX11_let_0 rfl ?_
  refine j_iconst (v := 0) C dX11_let_1 (by decide) ?_
  refine j_iconst (v := 2) C dX11_let_2 (by decide) ?_
  obtain ⟨r1, s2, hc3, h⟩ := bnd_some h
  refine k_S (v := some (.int r1)) C sb_X11_within (c11_within _ hc3) rfl (by decide) wd_638 rfl dX11_let_3 ?_
  show J (ωC α) κ _ _ 6 _ [.int r1] s2
  refine j_if_eq (tgt := 18) C dX11_let_6 (by decide) (fun c4 => ?_) (fun c4 => ?_)
  · replace h := it c4 h
    refine j_sipush (v := -1000) C dX11_let_18 (by decide) ?_
    obtain ⟨hv, hs⟩ := s2_inj h
    subst hv
    subst hs
    exact j_iret C e dX11_let_21
  · replace h := ie c4 h
    refine j_aload_n C 0 dX11_let_9 rfl ?_
    refine j_iload_n C 1 dX11_let_10 rfl ?_
    refine j_iconst (v := 0) C dX11_let_11 (by decide) ?_
    obtain ⟨r5, s6, hc7, h⟩ := bnd_some h
    refine k_V (v := some (.int r5)) C vb_X11_changingRunners (ci := 10) (T := TX11) (N := 17) rfl (by decide) (c11_changingRunners _ hc7) rfl (by decide) wd_831 (rfl) rfl dX11_let_12 ?_
    show J (ωC α) κ _ _ 15 _ [.int r5] s6
    refine j_goto (tgt := 21) C dX11_let_15 (by decide) ?_
    obtain ⟨hv, hs⟩ := s2_inj h
    subst hv
    subst hs
    exact j_iret C e dX11_let_21
set_option maxRecDepth 10000 in
theorem c11_spare (l : Launch) {α : WA} {fu : Nat} {a1 : Int32} {σ σ' : M2} {v : Int32}  (h : F11_spare fu a1 σ = some (v, σ')) : Ct l (ωC α) yX11_spare cX11_spare 2 (some FieldType.int) 8 [.ref (wad (ωC α) 0), .int a1] σ (some (.int v)) σ' := by
  unfold F11_spare at h
  refine Ct.of (own := "EveryoneWins") (L := [(0, .ref (wad (ωC α) 0)), (1, .int a1)]) (by decide +kernel) rfl rfl rfl (fun κ hl e C => ?_)
  show J (ωC α) κ 8 2 0 [(0, .ref (wad (ωC α) 0)), (1, .int a1)] [] σ
  refine j_iload_n C 1 dX11_spare_0 rfl ?_
  refine j_iconst (v := 0) C dX11_spare_1 (by decide) ?_
  refine j_iconst (v := 2) C dX11_spare_2 (by decide) ?_
  obtain ⟨r1, s2, hc3, h⟩ := bnd_some h
  refine k_S (v := some (.int r1)) C sb_X11_within (c11_within _ hc3) rfl (by decide) wd_638 rfl dX11_spare_3 ?_
  show J (ωC α) κ _ _ 6 _ [.int r1] s2
  refine j_if_eq (tgt := 18) C dX11_spare_6 (by decide) (fun c4 => ?_) (fun c4 => ?_)
  · replace h := it c4 h
    refine j_sipush (v := -1000) C dX11_spare_18 (by decide) ?_
    obtain ⟨hv, hs⟩ := s2_inj h
    subst hv
    subst hs
    exact j_iret C e dX11_spare_21
  · replace h := ie c4 h
    refine j_aload_n C 0 dX11_spare_9 rfl ?_
    refine j_iload_n C 1 dX11_spare_10 rfl ?_
    refine j_iconst (v := 1) C dX11_spare_11 (by decide) ?_
    obtain ⟨r5, s6, hc7, h⟩ := bnd_some h
    refine k_V (v := some (.int r5)) C vb_X11_changingRunners (ci := 10) (T := TX11) (N := 17) rfl (by decide) (c11_changingRunners _ hc7) rfl (by decide) wd_831 (rfl) rfl dX11_spare_12 ?_
    show J (ωC α) κ _ _ 15 _ [.int r5] s6
    refine j_goto (tgt := 21) C dX11_spare_15 (by decide) ?_
    obtain ⟨hv, hs⟩ := s2_inj h
    subst hv
    subst hs
    exact j_iret C e dX11_spare_21
set_option maxRecDepth 10000 in
theorem b11_drop_33 {α : WA} {κ : KT} {fu : Nat} {v : Int32} {σ' : M2} {x1 : Int32} {x2 : Int32} (C : Cx (ωC α) κ cX11_drop 3 "EveryoneWins" (some FieldType.int)) (e : κ.2.2.2.2.2.2.2.2.2 = (some (.int v), σ'))  {σ : M2} (h : F11_drop_33 fu x1 x2 σ = some (v, σ')) : J (ωC α) κ 7 3 33 [(0, .ref (wad (ωC α) 0)), (1, .int x1), (2, .int x2)] [] σ := by
  unfold F11_drop_33 at h
  refine wl1_ind (fun x2 σ => J (ωC α) κ 7 3 33 [(0, .ref (wad (ωC α) 0)), (1, .int x1), (2, .int x2)] [] σ) ?_ fu x2 σ h
  intro k33 hk33 x2 σ h
  try dsimp only at h
  show J (ωC α) κ 7 3 33 [(0, .ref (wad (ωC α) 0)), (1, .int x1), (2, .int x2)] [] σ
  refine j_iload_n C 2 dX11_drop_33 rfl ?_
  refine j_aload_n C 0 dX11_drop_34 rfl ?_
  refine j_getr (o := 0) (j := 1) C inT11 (ci := 10) rfl (by decide) (rfl) rfl rfl wd_578 dX11_drop_35 (o' := 5) rfl ?_
  refine j_geti (o := 5) (j := 4) C inT5 (ci := 4) rfl (by decide) (rfl) rfl rfl wd_148 dX11_drop_38 ?_
  refine j_icmp_ge (tgt := 70) C dX11_drop_41 (by decide) (fun c1 => ?_) (fun c1 => ?_)
  · replace h := it c1 h
    refine j_aload_n C 0 dX11_drop_70 rfl ?_
    refine j_getr (o := 0) (j := 6) C inT11 (ci := 10) rfl (by decide) (rfl) rfl rfl wd_583 dX11_drop_71 (o' := 47) rfl ?_
    refine j_iload_n C 1 dX11_drop_74 rfl ?_
    obtain ⟨r2, s3, hc4, h⟩ := bnd_some h
    refine k_V (v := some (.int r2)) C vb_X0_tells (ci := 0) (T := TX0) (N := 3) rfl (by decide) (c0_tells _ hc4) rfl (by decide) wd_848 (rfl) rfl dX11_drop_75 ?_
    show J (ωC α) κ _ _ 78 _ [.int r2] s3
    obtain ⟨hv, hs⟩ := s2_inj h
    subst hv
    subst hs
    exact j_iret C e dX11_drop_78
  · replace h := ie c1 h
    refine j_aload_n C 0 dX11_drop_44 rfl ?_
    refine j_getr (o := 0) (j := 5) C inT11 (ci := 10) rfl (by decide) (rfl) rfl rfl wd_582 dX11_drop_45 (o' := 41) rfl ?_
    refine j_iload_n C 2 dX11_drop_48 rfl ?_
    obtain ⟨r5, s6, hc7, h⟩ := bnd_some h
    refine k_V (v := none) C vb_X2_runWithout (ci := 2) (T := TX2) (N := 12) rfl (by decide) (c2_runWithout _ hc7) rfl (by decide) wd_860 (rfl) rfl dX11_drop_49 ?_
    show J (ωC α) κ _ _ 52 _ [] s6
    refine j_aload_n C 0 dX11_drop_52 rfl ?_
    refine j_getr (o := 0) (j := 6) C inT11 (ci := 10) rfl (by decide) (rfl) rfl rfl wd_583 dX11_drop_53 (o' := 47) rfl ?_
    refine j_iload_n C 2 dX11_drop_56 rfl ?_
    refine j_aload_n C 0 dX11_drop_57 rfl ?_
    refine j_getr (o := 0) (j := 5) C inT11 (ci := 10) rfl (by decide) (rfl) rfl rfl wd_582 dX11_drop_58 (o' := 41) rfl ?_
    obtain ⟨r8, s9, hc10, h⟩ := bnd_some h
    refine k_V (v := none) C vb_X0_weigh (ci := 0) (T := TX0) (N := 3) rfl (by decide) (c0_weigh _ hc10) rfl (by decide) wd_844 (rfl) rfl dX11_drop_61 ?_
    show J (ωC α) κ _ _ 64 _ [] s9
    refine j_iinc (L' := [(2, .int (x2 + 1)), (0, .ref (wad (ωC α) 0)), (1, .int x1)]) C 2 dX11_drop_64 rfl rfl rfl rfl ?_
    refine j_goto (tgt := 33) C dX11_drop_67 (by decide) ?_
    exact j_sub [1, 2, 0] rfl (hk33 _ _ h)
set_option maxRecDepth 10000 in
theorem c11_drop (l : Launch) {α : WA} {fu : Nat} {a1 : Int32} {σ σ' : M2} {v : Int32}  (h : F11_drop fu a1 σ = some (v, σ')) : Ct l (ωC α) yX11_drop cX11_drop 3 (some FieldType.int) 7 [.ref (wad (ωC α) 0), .int a1] σ (some (.int v)) σ' := by
  unfold F11_drop at h
  refine Ct.of (own := "EveryoneWins") (L := [(0, .ref (wad (ωC α) 0)), (1, .int a1)]) (by decide +kernel) rfl rfl rfl (fun κ hl e C => ?_)
  show J (ωC α) κ 7 3 0 [(0, .ref (wad (ωC α) 0)), (1, .int a1)] [] σ
  refine j_iload_n C 1 dX11_drop_0 rfl ?_
  refine j_iconst (v := 0) C dX11_drop_1 (by decide) ?_
  refine j_iconst (v := 2) C dX11_drop_2 (by decide) ?_
  obtain ⟨r1, s2, hc3, h⟩ := bnd_some h
  refine k_S (v := some (.int r1)) C sb_X11_within (c11_within _ hc3) rfl (by decide) wd_638 rfl dX11_drop_3 ?_
  show J (ωC α) κ _ _ 6 _ [.int r1] s2
  refine j_if_ne (tgt := 13) C dX11_drop_6 (by decide) (fun c4 => ?_) (fun c4 => ?_)
  · replace h := ie c4 h
    refine j_aload_n C 0 dX11_drop_13 rfl ?_
    refine j_getr (o := 0) (j := 5) C inT11 (ci := 10) rfl (by decide) (rfl) rfl rfl wd_582 dX11_drop_14 (o' := 41) rfl ?_
    obtain ⟨r5, s6, hc7, h⟩ := bnd_some h
    refine k_V (v := none) C vb_X2_run (ci := 2) (T := TX2) (N := 12) rfl (by decide) (c2_run _ hc7) rfl (by decide) wd_801 (rfl) rfl dX11_drop_17 ?_
    show J (ωC α) κ _ _ 20 _ [] s6
    refine j_aload_n C 0 dX11_drop_20 rfl ?_
    refine j_getr (o := 0) (j := 6) C inT11 (ci := 10) rfl (by decide) (rfl) rfl rfl wd_583 dX11_drop_21 (o' := 47) rfl ?_
    refine j_aload_n C 0 dX11_drop_24 rfl ?_
    refine j_getr (o := 0) (j := 5) C inT11 (ci := 10) rfl (by decide) (rfl) rfl rfl wd_582 dX11_drop_25 (o' := 41) rfl ?_
    obtain ⟨r8, s9, hc10, h⟩ := bnd_some h
    refine k_V (v := none) C vb_X0_startFrom (ci := 0) (T := TX0) (N := 3) rfl (by decide) (c0_startFrom _ hc10) rfl (by decide) wd_835 (rfl) rfl dX11_drop_28 ?_
    show J (ωC α) κ _ _ 31 _ [] s9
    refine j_iconst (v := 0) C dX11_drop_31 (by decide) ?_
    refine j_istore_n (L' := [(2, .int (0 : Int32)), (0, .ref (wad (ωC α) 0)), (1, .int a1)]) C dX11_drop_32 rfl rfl rfl ?_
    exact j_sub [1, 2, 0] rfl (b11_drop_33 C e h)
  · replace h := it c4 h
    refine j_sipush (v := -1000) C dX11_drop_9 (by decide) ?_
    obtain ⟨hv, hs⟩ := s2_inj h
    subst hv
    subst hs
    exact j_iret C e dX11_drop_12
set_option maxRecDepth 10000 in
theorem c11_order (l : Launch) {α : WA} {fu : Nat} {a1 : Int32} {σ σ' : M2} {v : Int32}  (h : F11_order fu a1 σ = some (v, σ')) : Ct l (ωC α) yX11_order cX11_order 2 (some FieldType.int) 7 [.ref (wad (ωC α) 0), .int a1] σ (some (.int v)) σ' := by
  unfold F11_order at h
  refine Ct.of (own := "EveryoneWins") (L := [(0, .ref (wad (ωC α) 0)), (1, .int a1)]) (by decide +kernel) rfl rfl rfl (fun κ hl e C => ?_)
  show J (ωC α) κ 7 2 0 [(0, .ref (wad (ωC α) 0)), (1, .int a1)] [] σ
  refine j_iload_n C 1 dX11_order_0 rfl ?_
  refine j_iconst (v := 0) C dX11_order_1 (by decide) ?_
  refine j_iconst (v := 2) C dX11_order_2 (by decide) ?_
  obtain ⟨r1, s2, hc3, h⟩ := bnd_some h
  refine k_S (v := some (.int r1)) C sb_X11_within (c11_within _ hc3) rfl (by decide) wd_638 rfl dX11_order_3 ?_
  show J (ωC α) κ _ _ 6 _ [.int r1] s2
  refine j_if_ne (tgt := 13) C dX11_order_6 (by decide) (fun c4 => ?_) (fun c4 => ?_)
  · replace h := ie c4 h
    refine j_aload_n C 0 dX11_order_13 rfl ?_
    refine j_getr (o := 0) (j := 5) C inT11 (ci := 10) rfl (by decide) (rfl) rfl rfl wd_582 dX11_order_14 (o' := 41) rfl ?_
    obtain ⟨r5, s6, hc7, h⟩ := bnd_some h
    refine k_V (v := none) C vb_X2_run (ci := 2) (T := TX2) (N := 12) rfl (by decide) (c2_run _ hc7) rfl (by decide) wd_801 (rfl) rfl dX11_order_17 ?_
    show J (ωC α) κ _ _ 20 _ [] s6
    refine j_aload_n C 0 dX11_order_20 rfl ?_
    refine j_getr (o := 0) (j := 6) C inT11 (ci := 10) rfl (by decide) (rfl) rfl rfl wd_583 dX11_order_21 (o' := 47) rfl ?_
    refine j_aload_n C 0 dX11_order_24 rfl ?_
    refine j_getr (o := 0) (j := 5) C inT11 (ci := 10) rfl (by decide) (rfl) rfl rfl wd_582 dX11_order_25 (o' := 41) rfl ?_
    obtain ⟨r8, s9, hc10, h⟩ := bnd_some h
    refine k_V (v := none) C vb_X0_startFrom (ci := 0) (T := TX0) (N := 3) rfl (by decide) (c0_startFrom _ hc10) rfl (by decide) wd_835 (rfl) rfl dX11_order_28 ?_
    show J (ωC α) κ _ _ 31 _ [] s9
    refine j_aload_n C 0 dX11_order_31 rfl ?_
    refine j_getr (o := 0) (j := 7) C inT11 (ci := 10) rfl (by decide) (rfl) rfl rfl wd_584 dX11_order_32 (o' := 48) rfl ?_
    refine j_aload_n C 0 dX11_order_35 rfl ?_
    refine j_getr (o := 0) (j := 6) C inT11 (ci := 10) rfl (by decide) (rfl) rfl rfl wd_583 dX11_order_36 (o' := 47) rfl ?_
    obtain ⟨r11, s12, hc13, h⟩ := bnd_some h
    refine k_V (v := none) C vb_X4_weighAll (ci := 3) (T := TX4) (N := 5) rfl (by decide) (c4_weighAll _ hc13) rfl (by decide) wd_865 (rfl) rfl dX11_order_39 ?_
    show J (ωC α) κ _ _ 42 _ [] s12
    refine j_aload_n C 0 dX11_order_42 rfl ?_
    refine j_getr (o := 0) (j := 6) C inT11 (ci := 10) rfl (by decide) (rfl) rfl rfl wd_583 dX11_order_43 (o' := 47) rfl ?_
    refine j_iload_n C 1 dX11_order_46 rfl ?_
    obtain ⟨r14, s15, hc16, h⟩ := bnd_some h
    refine k_V (v := some (.int r14)) C vb_X0_tells (ci := 0) (T := TX0) (N := 3) rfl (by decide) (c0_tells _ hc16) rfl (by decide) wd_848 (rfl) rfl dX11_order_47 ?_
    show J (ωC α) κ _ _ 50 _ [.int r14] s15
    obtain ⟨hv, hs⟩ := s2_inj h
    subst hv
    subst hs
    exact j_iret C e dX11_order_50
  · replace h := it c4 h
    refine j_sipush (v := -1000) C dX11_order_9 (by decide) ?_
    obtain ⟨hv, hs⟩ := s2_inj h
    subst hv
    subst hs
    exact j_iret C e dX11_order_12
set_option maxRecDepth 10000 in
theorem b11_tie_59 {α : WA} {κ : KT} {fu : Nat} {v : Int32} {σ' : M2} {x1 : Int32} {x2 : Int32} {x3 : Int32} {x4 : Int32} (C : Cx (ωC α) κ cX11_tie 5 "EveryoneWins" (some FieldType.int)) (e : κ.2.2.2.2.2.2.2.2.2 = (some (.int v), σ')) {k33 : Int32 → M2 → Option (Int32 × M2)} (hk33 : ∀ (x2' : Int32) (σ : M2), k33 x2' σ = some (v, σ') → J (ωC α) κ 7 5 33 [(0, .ref (wad (ωC α) 0)), (1, .int x1), (2, .int x2')] [] σ) {σ : M2} (h : F11_tie_59 fu k33 x1 x2 x3 x4 σ = some (v, σ')) : J (ωC α) κ 7 5 59 [(0, .ref (wad (ωC α) 0)), (1, .int x1), (2, .int x2), (3, .int x3), (4, .int x4)] [] σ := by
  unfold F11_tie_59 at h
  refine wl1_ind (fun x4 σ => J (ωC α) κ 7 5 59 [(0, .ref (wad (ωC α) 0)), (1, .int x1), (2, .int x2), (3, .int x3), (4, .int x4)] [] σ) ?_ fu x4 σ h
  intro k59 hk59 x4 σ h
  try dsimp only at h
  show J (ωC α) κ 7 5 59 [(0, .ref (wad (ωC α) 0)), (1, .int x1), (2, .int x2), (3, .int x3), (4, .int x4)] [] σ
  refine j_iload C 4 dX11_tie_59 rfl ?_
  refine j_iconst (v := 3) C dX11_tie_61 (by decide) ?_
  refine j_icmp_gt (tgt := 109) C dX11_tie_62 (by decide) (fun c1 => ?_) (fun c1 => ?_)
  · replace h := it c1 h
    refine j_aload_n C 0 dX11_tie_109 rfl ?_
    refine j_getr (o := 0) (j := 1) C inT11 (ci := 10) rfl (by decide) (rfl) rfl rfl wd_578 dX11_tie_110 (o' := 5) rfl ?_
    refine j_getr (o := 5) (j := 3) C inT5 (ci := 4) rfl (by decide) (rfl) rfl rfl wd_146 dX11_tie_113 (o' := 9) rfl ?_
    refine j_iload_n C 2 dX11_tie_116 rfl ?_
    refine j_iload_n C 3 dX11_tie_117 rfl ?_
    obtain ⟨r2, s3, hc4, h⟩ := bnd_some h
    refine k_S (v := none) C sb_X11_set (c11_set _ hc4) rfl (by decide) wd_662 rfl dX11_tie_118 ?_
    show J (ωC α) κ _ _ 121 _ [] s3
    refine j_iinc (L' := [(2, .int (x2 + 1)), (0, .ref (wad (ωC α) 0)), (1, .int x1), (3, .int x3), (4, .int x4)]) C 2 dX11_tie_121 rfl rfl rfl rfl ?_
    refine j_goto (tgt := 33) C dX11_tie_124 (by decide) ?_
    exact j_sub [1, 2, 0] rfl (hk33 _ _ h)
  · replace h := ie c1 h
    refine j_aload_n C 0 dX11_tie_65 rfl ?_
    refine j_getr (o := 0) (j := 1) C inT11 (ci := 10) rfl (by decide) (rfl) rfl rfl wd_578 dX11_tie_66 (o' := 5) rfl ?_
    refine j_getr (o := 5) (j := 3) C inT5 (ci := 4) rfl (by decide) (rfl) rfl rfl wd_146 dX11_tie_69 (o' := 9) rfl ?_
    refine j_iload_n C 2 dX11_tie_72 rfl ?_
    refine j_iload C 4 dX11_tie_73 rfl ?_
    obtain ⟨r5, s6, hc7, h⟩ := bnd_some h
    refine k_S (v := none) C sb_X11_set (c11_set _ hc7) rfl (by decide) wd_662 rfl dX11_tie_75 ?_
    show J (ωC α) κ _ _ 78 _ [] s6
    refine j_aload_n C 0 dX11_tie_78 rfl ?_
    refine j_getr (o := 0) (j := 5) C inT11 (ci := 10) rfl (by decide) (rfl) rfl rfl wd_582 dX11_tie_79 (o' := 41) rfl ?_
    obtain ⟨r8, s9, hc10, h⟩ := bnd_some h
    refine k_V (v := none) C vb_X2_run (ci := 2) (T := TX2) (N := 12) rfl (by decide) (c2_run _ hc10) rfl (by decide) wd_801 (rfl) rfl dX11_tie_82 ?_
    show J (ωC α) κ _ _ 85 _ [] s9
    refine j_aload_n C 0 dX11_tie_85 rfl ?_
    refine j_getr (o := 0) (j := 6) C inT11 (ci := 10) rfl (by decide) (rfl) rfl rfl wd_583 dX11_tie_86 (o' := 47) rfl ?_
    refine j_bipush (v := 10) C dX11_tie_89 (by decide) ?_
    refine j_iload_n C 2 dX11_tie_91 rfl ?_
    refine j_imul C dX11_tie_92 ?_
    refine j_iload C 4 dX11_tie_93 rfl ?_
    refine j_iadd C dX11_tie_95 ?_
    refine j_aload_n C 0 dX11_tie_96 rfl ?_
    refine j_getr (o := 0) (j := 5) C inT11 (ci := 10) rfl (by decide) (rfl) rfl rfl wd_582 dX11_tie_97 (o' := 41) rfl ?_
    obtain ⟨r11, s12, hc13, h⟩ := bnd_some h
    refine k_V (v := none) C vb_X0_weigh (ci := 0) (T := TX0) (N := 3) rfl (by decide) (c0_weigh _ hc13) rfl (by decide) wd_844 (rfl) rfl dX11_tie_100 ?_
    show J (ωC α) κ _ _ 103 _ [] s12
    refine j_iinc (L' := [(4, .int (x4 + 1)), (0, .ref (wad (ωC α) 0)), (1, .int x1), (2, .int x2), (3, .int x3)]) C 4 dX11_tie_103 rfl rfl rfl rfl ?_
    refine j_goto (tgt := 59) C dX11_tie_106 (by decide) ?_
    exact j_sub [1, 2, 3, 4, 0] rfl (hk59 _ _ h)
set_option maxRecDepth 10000 in
theorem b11_tie_33 {α : WA} {κ : KT} {fu : Nat} {v : Int32} {σ' : M2} {x1 : Int32} {x2 : Int32} (C : Cx (ωC α) κ cX11_tie 5 "EveryoneWins" (some FieldType.int)) (e : κ.2.2.2.2.2.2.2.2.2 = (some (.int v), σ'))  {σ : M2} (h : F11_tie_33 fu x1 x2 σ = some (v, σ')) : J (ωC α) κ 7 5 33 [(0, .ref (wad (ωC α) 0)), (1, .int x1), (2, .int x2)] [] σ := by
  unfold F11_tie_33 at h
  refine wl1_ind (fun x2 σ => J (ωC α) κ 7 5 33 [(0, .ref (wad (ωC α) 0)), (1, .int x1), (2, .int x2)] [] σ) ?_ fu x2 σ h
  intro k33 hk33 x2 σ h
  try dsimp only at h
  show J (ωC α) κ 7 5 33 [(0, .ref (wad (ωC α) 0)), (1, .int x1), (2, .int x2)] [] σ
  refine j_iload_n C 2 dX11_tie_33 rfl ?_
  refine j_aload_n C 0 dX11_tie_34 rfl ?_
  refine j_getr (o := 0) (j := 1) C inT11 (ci := 10) rfl (by decide) (rfl) rfl rfl wd_578 dX11_tie_35 (o' := 5) rfl ?_
  refine j_geti (o := 5) (j := 4) C inT5 (ci := 4) rfl (by decide) (rfl) rfl rfl wd_148 dX11_tie_38 ?_
  refine j_icmp_ge (tgt := 127) C dX11_tie_41 (by decide) (fun c1 => ?_) (fun c1 => ?_)
  · replace h := it c1 h
    refine j_aload_n C 0 dX11_tie_127 rfl ?_
    refine j_getr (o := 0) (j := 6) C inT11 (ci := 10) rfl (by decide) (rfl) rfl rfl wd_583 dX11_tie_128 (o' := 47) rfl ?_
    refine j_iload_n C 1 dX11_tie_131 rfl ?_
    obtain ⟨r2, s3, hc4, h⟩ := bnd_some h
    refine k_V (v := some (.int r2)) C vb_X0_tells (ci := 0) (T := TX0) (N := 3) rfl (by decide) (c0_tells _ hc4) rfl (by decide) wd_848 (rfl) rfl dX11_tie_132 ?_
    show J (ωC α) κ _ _ 135 _ [.int r2] s3
    obtain ⟨hv, hs⟩ := s2_inj h
    subst hv
    subst hs
    exact j_iret C e dX11_tie_135
  · replace h := ie c1 h
    refine j_aload_n C 0 dX11_tie_44 rfl ?_
    refine j_getr (o := 0) (j := 1) C inT11 (ci := 10) rfl (by decide) (rfl) rfl rfl wd_578 dX11_tie_45 (o' := 5) rfl ?_
    refine j_getr (o := 5) (j := 3) C inT5 (ci := 4) rfl (by decide) (rfl) rfl rfl wd_146 dX11_tie_48 (o' := 9) rfl ?_
    refine j_iload_n C 2 dX11_tie_51 rfl ?_
    obtain ⟨r5, s6, hc7, h⟩ := bnd_some h
    refine k_S (v := some (.int r5)) C sb_X11_at (c11_at _ hc7) rfl (by decide) wd_661 rfl dX11_tie_52 ?_
    show J (ωC α) κ _ _ 55 _ [.int r5] s6
    refine j_istore_n (L' := [(3, .int r5), (0, .ref (wad (ωC α) 0)), (1, .int x1), (2, .int x2)]) C dX11_tie_55 rfl rfl rfl ?_
    refine j_iconst (v := 0) C dX11_tie_56 (by decide) ?_
    refine j_istore (L' := [(4, .int (0 : Int32)), (3, .int r5), (0, .ref (wad (ωC α) 0)), (1, .int x1), (2, .int x2)]) C dX11_tie_57 rfl rfl ?_
    exact j_sub [2, 3, 4, 1, 0] rfl (b11_tie_59 C e hk33 h)
set_option maxRecDepth 10000 in
theorem c11_tie (l : Launch) {α : WA} {fu : Nat} {a1 : Int32} {σ σ' : M2} {v : Int32}  (h : F11_tie fu a1 σ = some (v, σ')) : Ct l (ωC α) yX11_tie cX11_tie 5 (some FieldType.int) 7 [.ref (wad (ωC α) 0), .int a1] σ (some (.int v)) σ' := by
  unfold F11_tie at h
  refine Ct.of (own := "EveryoneWins") (L := [(0, .ref (wad (ωC α) 0)), (1, .int a1)]) (by decide +kernel) rfl rfl rfl (fun κ hl e C => ?_)
  show J (ωC α) κ 7 5 0 [(0, .ref (wad (ωC α) 0)), (1, .int a1)] [] σ
  refine j_iload_n C 1 dX11_tie_0 rfl ?_
  refine j_iconst (v := 0) C dX11_tie_1 (by decide) ?_
  refine j_iconst (v := 2) C dX11_tie_2 (by decide) ?_
  obtain ⟨r1, s2, hc3, h⟩ := bnd_some h
  refine k_S (v := some (.int r1)) C sb_X11_within (c11_within _ hc3) rfl (by decide) wd_638 rfl dX11_tie_3 ?_
  show J (ωC α) κ _ _ 6 _ [.int r1] s2
  refine j_if_ne (tgt := 13) C dX11_tie_6 (by decide) (fun c4 => ?_) (fun c4 => ?_)
  · replace h := ie c4 h
    refine j_aload_n C 0 dX11_tie_13 rfl ?_
    refine j_getr (o := 0) (j := 5) C inT11 (ci := 10) rfl (by decide) (rfl) rfl rfl wd_582 dX11_tie_14 (o' := 41) rfl ?_
    obtain ⟨r5, s6, hc7, h⟩ := bnd_some h
    refine k_V (v := none) C vb_X2_run (ci := 2) (T := TX2) (N := 12) rfl (by decide) (c2_run _ hc7) rfl (by decide) wd_801 (rfl) rfl dX11_tie_17 ?_
    show J (ωC α) κ _ _ 20 _ [] s6
    refine j_aload_n C 0 dX11_tie_20 rfl ?_
    refine j_getr (o := 0) (j := 6) C inT11 (ci := 10) rfl (by decide) (rfl) rfl rfl wd_583 dX11_tie_21 (o' := 47) rfl ?_
    refine j_aload_n C 0 dX11_tie_24 rfl ?_
    refine j_getr (o := 0) (j := 5) C inT11 (ci := 10) rfl (by decide) (rfl) rfl rfl wd_582 dX11_tie_25 (o' := 41) rfl ?_
    obtain ⟨r8, s9, hc10, h⟩ := bnd_some h
    refine k_V (v := none) C vb_X0_startFrom (ci := 0) (T := TX0) (N := 3) rfl (by decide) (c0_startFrom _ hc10) rfl (by decide) wd_835 (rfl) rfl dX11_tie_28 ?_
    show J (ωC α) κ _ _ 31 _ [] s9
    refine j_iconst (v := 0) C dX11_tie_31 (by decide) ?_
    refine j_istore_n (L' := [(2, .int (0 : Int32)), (0, .ref (wad (ωC α) 0)), (1, .int a1)]) C dX11_tie_32 rfl rfl rfl ?_
    exact j_sub [1, 2, 0] rfl (b11_tie_33 C e h)
  · replace h := it c4 h
    refine j_sipush (v := -1000) C dX11_tie_9 (by decide) ?_
    obtain ⟨hv, hs⟩ := s2_inj h
    subst hv
    subst hs
    exact j_iret C e dX11_tie_12
set_option maxRecDepth 10000 in
theorem b11_needs_100 {α : WA} {κ : KT} {fu : Nat} {v : Int32} {σ' : M2} {x1 : Int32} {x3 : Int32} {x4 : Int32} (C : Cx (ωC α) κ cX11_needs 6 "EveryoneWins" (some FieldType.int)) (e : κ.2.2.2.2.2.2.2.2.2 = (some (.int v), σ'))  {σ : M2} (h : F11_needs_100 fu x1 x3 x4 σ = some (v, σ')) : J (ωC α) κ 7 6 100 [(0, .ref (wad (ωC α) 0)), (1, .int x1), (3, .int x3), (4, .int x4)] [] σ := by
  unfold F11_needs_100 at h
  refine j_aload_n C 0 dX11_needs_100 rfl ?_
  refine j_getr (o := 0) (j := 0) C inT11 (ci := 10) rfl (by decide) (rfl) rfl rfl wd_577 dX11_needs_101 (o' := 1) rfl ?_
  refine j_getr (o := 1) (j := 2) C inT1 (ci := 1) rfl (by decide) (rfl) rfl rfl wd_115 dX11_needs_104 (o' := 4) rfl ?_
  refine j_iload_n C 1 dX11_needs_107 rfl ?_
  refine j_iload_n C 2 dX11_needs_108 rfl ?_
  obtain ⟨r1, s2, hc3, h⟩ := bnd_some h
  refine k_S (v := none) C sb_X11_set (c11_set _ hc3) rfl (by decide) wd_662 rfl dX11_needs_109 ?_
  show J (ωC α) κ _ _ 112 _ [] s2
  refine j_iload C 3 dX11_needs_112 rfl ?_
  obtain ⟨hv, hs⟩ := s2_inj h
  subst hv
  subst hs
  exact j_iret C e dX11_needs_114
