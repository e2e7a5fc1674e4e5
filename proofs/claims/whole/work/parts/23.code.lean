set_option maxRecDepth 10000 in
theorem b11_needs_94 {α : WA} {κ : KT} {fu : Nat} {v : Int32} {σ' : M2} {x1 : Int32} {x2 : Int32} {x3 : Int32} {x4 : Int32} {x5 : Int32} (C : Cx (ωC α) κ cX11_needs 6 "EveryoneWins" (some FieldType.int)) (e : κ.2.2.2.2.2.2.2.2.2 = (some (.int v), σ')) {k42 : Int32 → Int32 → M2 → Option (Int32 × M2)} (hk42 : ∀ (x4' : Int32) (x5' : Int32) (σ : M2), k42 x4' x5' σ = some (v, σ') → J (ωC α) κ 7 6 42 [(0, .ref (wad (ωC α) 0)), (1, .int x1), (2, .int x2), (3, .int x3), (4, .int x4'), (5, .int x5')] [] σ) {σ : M2} (h : F11_needs_94 fu k42 x1 x2 x3 x4 x5 σ = some (v, σ')) : J (ωC α) κ 7 6 94 [(0, .ref (wad (ωC α) 0)), (1, .int x1), (2, .int x2), (3, .int x3), (4, .int x4), (5, .int x5)] [] σ := by
  unfold F11_needs_94 at h
  refine j_iinc (L' := [(5, .int (x5 + 1)), (0, .ref (wad (ωC α) 0)), (1, .int x1), (2, .int x2), (3, .int x3), (4, .int x4)]) C 5 dX11_needs_94 rfl rfl rfl rfl ?_
  refine j_goto (tgt := 42) C dX11_needs_97 (by decide) ?_
  exact j_sub [1, 2, 3, 4, 5, 0] rfl (hk42 _ _ _ h)
set_option maxRecDepth 10000 in
theorem b11_needs_42 {α : WA} {κ : KT} {fu : Nat} {v : Int32} {σ' : M2} {x1 : Int32} {x2 : Int32} {x3 : Int32} {x4 : Int32} {x5 : Int32} (C : Cx (ωC α) κ cX11_needs 6 "EveryoneWins" (some FieldType.int)) (e : κ.2.2.2.2.2.2.2.2.2 = (some (.int v), σ'))  {σ : M2} (h : F11_needs_42 fu x1 x2 x3 x4 x5 σ = some (v, σ')) : J (ωC α) κ 7 6 42 [(0, .ref (wad (ωC α) 0)), (1, .int x1), (2, .int x2), (3, .int x3), (4, .int x4), (5, .int x5)] [] σ := by
  unfold F11_needs_42 at h
  refine wl2_ind (fun x4 x5 σ => J (ωC α) κ 7 6 42 [(0, .ref (wad (ωC α) 0)), (1, .int x1), (2, .int x2), (3, .int x3), (4, .int x4), (5, .int x5)] [] σ) ?_ fu x4 x5 σ h
  intro k42 hk42 x4 x5 σ h
  try dsimp only at h
  show J (ωC α) κ 7 6 42 [(0, .ref (wad (ωC α) 0)), (1, .int x1), (2, .int x2), (3, .int x3), (4, .int x4), (5, .int x5)] [] σ
  refine j_iload C 5 dX11_needs_42 rfl ?_
  refine j_bipush (v := 99) C dX11_needs_44 (by decide) ?_
  refine j_icmp_gt (tgt := 100) C dX11_needs_46 (by decide) (fun c1 => ?_) (fun c1 => ?_)
  · replace h := it c1 h
    exact j_sub [0, 1, 3, 4] rfl (b11_needs_100 C e h)
  · replace h := ie c1 h
    refine j_iload C 4 dX11_needs_49 rfl ?_
    refine j_iconst (v := -1) C dX11_needs_51 (by decide) ?_
    refine j_icmp_ne (tgt := 100) C dX11_needs_52 (by decide) (fun c2 => ?_) (fun c2 => ?_)
    · replace h := ie c2 h
      exact j_sub [0, 1, 3, 4] rfl (b11_needs_100 C e h)
    · replace h := it c2 h
      refine j_aload_n C 0 dX11_needs_55 rfl ?_
      refine j_getr (o := 0) (j := 0) C inT11 (ci := 10) rfl (by decide) (rfl) rfl rfl wd_577 dX11_needs_56 (o' := 1) rfl ?_
      refine j_getr (o := 1) (j := 2) C inT1 (ci := 1) rfl (by decide) (rfl) rfl rfl wd_115 dX11_needs_59 (o' := 4) rfl ?_
      refine j_iload_n C 1 dX11_needs_62 rfl ?_
      refine j_iload C 5 dX11_needs_63 rfl ?_
      obtain ⟨r3, s4, hc5, h⟩ := bnd_some h
      refine k_S (v := none) C sb_X11_set (c11_set _ hc5) rfl (by decide) wd_662 rfl dX11_needs_65 ?_
      show J (ωC α) κ _ _ 68 _ [] s4
      refine j_aload_n C 0 dX11_needs_68 rfl ?_
      refine j_getr (o := 0) (j := 5) C inT11 (ci := 10) rfl (by decide) (rfl) rfl rfl wd_582 dX11_needs_69 (o' := 41) rfl ?_
      obtain ⟨r6, s7, hc8, h⟩ := bnd_some h
      refine k_V (v := none) C vb_X2_run (ci := 2) (T := TX2) (N := 12) rfl (by decide) (c2_run _ hc8) rfl (by decide) wd_801 (rfl) rfl dX11_needs_72 ?_
      show J (ωC α) κ _ _ 75 _ [] s7
      refine j_aload_n C 0 dX11_needs_75 rfl ?_
      refine j_getr (o := 0) (j := 5) C inT11 (ci := 10) rfl (by decide) (rfl) rfl rfl wd_582 dX11_needs_76 (o' := 41) rfl ?_
      refine j_getr (o := 41) (j := 3) C inT2 (ci := 2) rfl (by decide) (rfl) rfl rfl wd_259 dX11_needs_79 (o' := 42) rfl ?_
      refine j_iload_n C 1 dX11_needs_82 rfl ?_
      obtain ⟨r9, s10, hc11, h⟩ := bnd_some h
      refine k_S (v := some (.int r9)) C sb_X11_at (c11_at _ hc11) rfl (by decide) wd_661 rfl dX11_needs_83 ?_
      show J (ωC α) κ _ _ 86 _ [.int r9] s10
      refine j_iload_n C 2 dX11_needs_86 rfl ?_
      refine j_icmp_lt (tgt := 94) C dX11_needs_87 (by decide) (fun c12 => ?_) (fun c12 => ?_)
      · replace h := it c12 h
        exact (b11_needs_94 C e hk42 h)
      · replace h := ie c12 h
        refine j_iload C 5 dX11_needs_90 rfl ?_
        refine j_istore (L' := [(4, .int x5), (0, .ref (wad (ωC α) 0)), (1, .int x1), (2, .int x2), (3, .int x3), (5, .int x5)]) C dX11_needs_92 rfl rfl ?_
        exact j_sub [1, 2, 3, 4, 0, 5] rfl (b11_needs_94 C e hk42 h)
set_option maxRecDepth 10000 in
theorem c11_needs (l : Launch) {α : WA} {fu : Nat} {a1 : Int32} {a2 : Int32} {σ σ' : M2} {v : Int32}  (h : F11_needs fu a1 a2 σ = some (v, σ')) : Ct l (ωC α) yX11_needs cX11_needs 6 (some FieldType.int) 7 [.ref (wad (ωC α) 0), .int a1, .int a2] σ (some (.int v)) σ' := by
  unfold F11_needs at h
  refine Ct.of (own := "EveryoneWins") (L := [(0, .ref (wad (ωC α) 0)), (1, .int a1), (2, .int a2)]) (by decide +kernel) rfl rfl rfl (fun κ hl e C => ?_)
  show J (ωC α) κ 7 6 0 [(0, .ref (wad (ωC α) 0)), (1, .int a1), (2, .int a2)] [] σ
  refine j_aload_n C 0 dX11_needs_0 rfl ?_
  refine j_iload_n C 1 dX11_needs_1 rfl ?_
  obtain ⟨r1, s2, hc3, h⟩ := bnd_some h
  refine k_V (v := some (.int r1)) C vb_X11_isChild (ci := 10) (T := TX11) (N := 17) rfl (by decide) (c11_isChild _ hc3) rfl (by decide) wd_650 (rfl) rfl dX11_needs_2 ?_
  show J (ωC α) κ _ _ 5 _ [.int r1] s2
  refine j_if_ne (tgt := 11) C dX11_needs_5 (by decide) (fun c4 => ?_) (fun c4 => ?_)
  · replace h := ie c4 h
    refine j_iload_n C 2 dX11_needs_11 rfl ?_
    refine j_iconst (v := 0) C dX11_needs_12 (by decide) ?_
    refine j_bipush (v := 6) C dX11_needs_13 (by decide) ?_
    obtain ⟨r5, s6, hc7, h⟩ := bnd_some h
    refine k_S (v := some (.int r5)) C sb_X11_within (c11_within _ hc7) rfl (by decide) wd_638 rfl dX11_needs_15 ?_
    show J (ωC α) κ _ _ 18 _ [.int r5] s6
    refine j_if_ne (tgt := 24) C dX11_needs_18 (by decide) (fun c8 => ?_) (fun c8 => ?_)
    · replace h := ie c8 h
      refine j_aload_n C 0 dX11_needs_24 rfl ?_
      refine j_getr (o := 0) (j := 0) C inT11 (ci := 10) rfl (by decide) (rfl) rfl rfl wd_577 dX11_needs_25 (o' := 1) rfl ?_
      refine j_getr (o := 1) (j := 2) C inT1 (ci := 1) rfl (by decide) (rfl) rfl rfl wd_115 dX11_needs_28 (o' := 4) rfl ?_
      refine j_iload_n C 1 dX11_needs_31 rfl ?_
      obtain ⟨r9, s10, hc11, h⟩ := bnd_some h
      refine k_S (v := some (.int r9)) C sb_X11_at (c11_at _ hc11) rfl (by decide) wd_661 rfl dX11_needs_32 ?_
      show J (ωC α) κ _ _ 35 _ [.int r9] s10
      refine j_istore_n (L' := [(3, .int r9), (0, .ref (wad (ωC α) 0)), (1, .int a1), (2, .int a2)]) C dX11_needs_35 rfl rfl rfl ?_
      refine j_iconst (v := -1) C dX11_needs_36 (by decide) ?_
      refine j_istore (L' := [(4, .int (-1 : Int32)), (3, .int r9), (0, .ref (wad (ωC α) 0)), (1, .int a1), (2, .int a2)]) C dX11_needs_37 rfl rfl ?_
      refine j_iconst (v := 0) C dX11_needs_39 (by decide) ?_
      refine j_istore (L' := [(5, .int (0 : Int32)), (4, .int (-1 : Int32)), (3, .int r9), (0, .ref (wad (ωC α) 0)), (1, .int a1), (2, .int a2)]) C dX11_needs_40 rfl rfl ?_
      exact j_sub [3, 4, 5, 2, 1, 0] rfl (b11_needs_42 C e h)
    · replace h := it c8 h
      refine j_bipush (v := -7) C dX11_needs_21 (by decide) ?_
      obtain ⟨hv, hs⟩ := s2_inj h
      subst hv
      subst hs
      exact j_iret C e dX11_needs_23
  · replace h := it c4 h
    refine j_bipush (v := -5) C dX11_needs_8 (by decide) ?_
    obtain ⟨hv, hs⟩ := s2_inj h
    subst hv
    subst hs
    exact j_iret C e dX11_needs_10
set_option maxRecDepth 10000 in
theorem b11_sheetAt_22 {α : WA} {κ : KT}  {v : Option Nat} {σ' : M2}  (C : Cx (ωC α) κ cX11_sheetAt 2 "EveryoneWins" (some (FieldType.object "EveryoneWins$Sheet"))) (e : κ.2.2.2.2.2.2.2.2.2 = (some (va_rf (v.map (wad (ωC α)))), σ'))  {σ : M2} (h : F11_sheetAt_22  σ = some (v, σ')) : J (ωC α) κ 1 2 22 [] [] σ := by
  unfold F11_sheetAt_22 at h
  refine j_null C dX11_sheetAt_22 ?_
  obtain ⟨hv, hs⟩ := s2_inj h
  subst hv
  subst hs
  exact j_aret C rfl (Or.inl ⟨_, rfl⟩) (Or.inl rfl) e dX11_sheetAt_23
set_option maxRecDepth 10000 in
theorem c11_sheetAt (l : Launch) {α : WA}  {a1 : Int32} {σ σ' : M2} {v : Option Nat}  (h : F11_sheetAt a1 σ = some (v, σ')) : Ct l (ωC α) yX11_sheetAt cX11_sheetAt 2 (some (FieldType.object "EveryoneWins$Sheet")) 1 [.ref (wad (ωC α) 0), .int a1] σ (some (va_rf (v.map (wad (ωC α))))) σ' := by
  unfold F11_sheetAt at h
  refine Ct.of (own := "EveryoneWins") (L := [(0, .ref (wad (ωC α) 0)), (1, .int a1)]) (by decide +kernel) rfl rfl rfl (fun κ hl e C => ?_)
  show J (ωC α) κ 1 2 0 [(0, .ref (wad (ωC α) 0)), (1, .int a1)] [] σ
  refine j_iload_n C 1 dX11_sheetAt_0 rfl ?_
  refine j_if_lt (tgt := 22) C dX11_sheetAt_1 (by decide) (fun c1 => ?_) (fun c1 => ?_)
  · replace h := it c1 h
    exact j_sub [] rfl (b11_sheetAt_22 C e h)
  · replace h := ie c1 h
    refine j_iload_n C 1 dX11_sheetAt_4 rfl ?_
    refine j_aload_n C 0 dX11_sheetAt_5 rfl ?_
    refine j_getr (o := 0) (j := 8) C inT11 (ci := 10) rfl (by decide) (rfl) rfl rfl wd_585 dX11_sheetAt_6 (o' := 58) rfl ?_
    refine j_alen (o := 58) (t := 1) (N := 4) (v := 4) C rfl (by decide) rfl dX11_sheetAt_9 ?_
    refine j_icmp_ge (tgt := 22) C dX11_sheetAt_10 (by decide) (fun c2 => ?_) (fun c2 => ?_)
    · replace h := it c2 h
      exact j_sub [] rfl (b11_sheetAt_22 C e h)
    · replace h := ie c2 h
      refine j_aload_n C 0 dX11_sheetAt_13 rfl ?_
      refine j_getr (o := 0) (j := 8) C inT11 (ci := 10) rfl (by decide) (rfl) rfl rfl wd_585 dX11_sheetAt_14 (o' := 58) rfl ?_
      refine j_iload_n C 1 dX11_sheetAt_17 rfl ?_
      obtain ⟨g3, h⟩ := gd_some h
      refine j_aaload (N := 4) C rfl (inb_in g3) dX11_sheetAt_18 ?_
      refine j_goto (tgt := 23) C dX11_sheetAt_19 (by decide) ?_
      obtain ⟨hv, hs⟩ := s2_inj h
      subst hv
      subst hs
      exact j_aret C rfl (Or.inl ⟨_, rfl⟩) (Or.inr ⟨_, rfl⟩) e dX11_sheetAt_23
set_option maxRecDepth 10000 in
theorem c11_refusalOfTelling (l : Launch) {α : WA}  {a1 : Option Nat} {σ σ' : M2} {v : Int32}  (h : F11_refusalOfTelling a1 σ = some (v, σ')) : Ct l (ωC α) yX11_refusalOfTelling cX11_refusalOfTelling 2 (some FieldType.int) 2 [.ref (wad (ωC α) 0), va_rf (a1.map (wad (ωC α)))] σ (some (.int v)) σ' := by
  cases a1 with
  | none =>
    unfold F11_refusalOfTelling at h
    show Ct l (ωC α) yX11_refusalOfTelling cX11_refusalOfTelling 2 (some FieldType.int) 2 [.ref (wad (ωC α) 0), .null] σ _ σ'
    refine Ct.of (own := "EveryoneWins") (L := [(0, .ref (wad (ωC α) 0)), (1, .null)]) (by decide +kernel) rfl rfl rfl (fun κ hl e C => ?_)
    show J (ωC α) κ 2 2 0 [(0, .ref (wad (ωC α) 0)), (1, .null)] [] σ
    refine j_aload_nN C 1 dX11_refusalOfTelling_0 rfl ?_
    refine j_ifnonnullN C dX11_refusalOfTelling_1 ?_
    refine j_bipush (v := -2) C dX11_refusalOfTelling_4 (by decide) ?_
    obtain ⟨hv, hs⟩ := s2_inj h
    subst hv
    subst hs
    exact j_iret C e dX11_refusalOfTelling_6
  | some q =>
    unfold F11_refusalOfTelling at h
    show Ct l (ωC α) yX11_refusalOfTelling cX11_refusalOfTelling 2 (some FieldType.int) 2 [.ref (wad (ωC α) 0), .ref (wad (ωC α) q)] σ _ σ'
    refine Ct.of (own := "EveryoneWins") (L := [(0, .ref (wad (ωC α) 0)), (1, .ref (wad (ωC α) q))]) (by decide +kernel) rfl rfl rfl (fun κ hl e C => ?_)
    show J (ωC α) κ 2 2 0 [(0, .ref (wad (ωC α) 0)), (1, .ref (wad (ωC α) q))] [] σ
    refine j_aload_n C 1 dX11_refusalOfTelling_0 rfl ?_
    refine j_ifnonnull (tgt := 7) C dX11_refusalOfTelling_1 (by decide) ?_
    refine j_aload_n C 1 dX11_refusalOfTelling_7 rfl ?_
    obtain ⟨g1, h⟩ := gd_some h
    obtain ⟨r2, s3, hc4, h⟩ := bnd_some h
    refine k_V (v := some (.int r2)) C vb_X7_isMissing (ci := 6) (T := TX7) (N := 3) rfl (by decide) (c7_isMissing _ hc4) rfl (by decide) wd_920 (isO_sh g1) rfl dX11_refusalOfTelling_8 ?_
    show J (ωC α) κ _ _ 11 _ [.int r2] s3
    refine j_if_eq (tgt := 17) C dX11_refusalOfTelling_11 (by decide) (fun c5 => ?_) (fun c5 => ?_)
    · replace h := it c5 h
      refine j_aload_n C 1 dX11_refusalOfTelling_17 rfl ?_
      refine j_geti (o := q) (j := 2) C inT7 (ci := 6) rfl (by decide) (isO_sh g1) rfl rfl wd_354 dX11_refusalOfTelling_18 ?_
      refine j_aload_n C 0 dX11_refusalOfTelling_21 rfl ?_
      refine j_getr (o := 0) (j := 1) C inT11 (ci := 10) rfl (by decide) (rfl) rfl rfl wd_578 dX11_refusalOfTelling_22 (o' := 5) rfl ?_
      refine j_geti (o := 5) (j := 4) C inT5 (ci := 4) rfl (by decide) (rfl) rfl rfl wd_148 dX11_refusalOfTelling_25 ?_
      refine j_icmp_eq (tgt := 36) C dX11_refusalOfTelling_28 (by decide) (fun c6 => ?_) (fun c6 => ?_)
      · replace h := it c6 h
        refine j_iconst (v := 0) C dX11_refusalOfTelling_36 (by decide) ?_
        obtain ⟨hv, hs⟩ := s2_inj h
        subst hv
        subst hs
        exact j_iret C e dX11_refusalOfTelling_37
      · replace h := ie c6 h
        refine j_bipush (v := -2) C dX11_refusalOfTelling_31 (by decide) ?_
        refine j_goto (tgt := 37) C dX11_refusalOfTelling_33 (by decide) ?_
        obtain ⟨hv, hs⟩ := s2_inj h
        subst hv
        subst hs
        exact j_iret C e dX11_refusalOfTelling_37
    · replace h := ie c5 h
      refine j_bipush (v := -11) C dX11_refusalOfTelling_14 (by decide) ?_
      obtain ⟨hv, hs⟩ := s2_inj h
      subst hv
      subst hs
      exact j_iret C e dX11_refusalOfTelling_16
set_option maxRecDepth 10000 in
theorem b11_firstOtherwise_2 {α : WA} {κ : KT} {fu : Nat} {v : Int32} {σ' : M2} {x1 : Nat} {x2 : Int32} (C : Cx (ωC α) κ cX11_firstOtherwise 3 "EveryoneWins" (some FieldType.int)) (e : κ.2.2.2.2.2.2.2.2.2 = (some (.int v), σ'))  {σ : M2} (h : F11_firstOtherwise_2 fu x1 x2 σ = some (v, σ')) : J (ωC α) κ 3 3 2 [(0, .ref (wad (ωC α) 0)), (1, .ref (wad (ωC α) x1)), (2, .int x2)] [] σ := by
  unfold F11_firstOtherwise_2 at h
  refine wl1_ind (fun x2 σ => J (ωC α) κ 3 3 2 [(0, .ref (wad (ωC α) 0)), (1, .ref (wad (ωC α) x1)), (2, .int x2)] [] σ) ?_ fu x2 σ h
  intro k2 hk2 x2 σ h
  try dsimp only at h
  show J (ωC α) κ 3 3 2 [(0, .ref (wad (ωC α) 0)), (1, .ref (wad (ωC α) x1)), (2, .int x2)] [] σ
  refine j_iload_n C 2 dX11_firstOtherwise_2 rfl ?_
  refine j_aload_n C 0 dX11_firstOtherwise_3 rfl ?_
  refine j_getr (o := 0) (j := 1) C inT11 (ci := 10) rfl (by decide) (rfl) rfl rfl wd_578 dX11_firstOtherwise_4 (o' := 5) rfl ?_
  refine j_geti (o := 5) (j := 4) C inT5 (ci := 4) rfl (by decide) (rfl) rfl rfl wd_148 dX11_firstOtherwise_7 ?_
  refine j_icmp_ge (tgt := 40) C dX11_firstOtherwise_10 (by decide) (fun c1 => ?_) (fun c1 => ?_)
  · replace h := it c1 h
    refine j_iconst (v := -1) C dX11_firstOtherwise_40 (by decide) ?_
    obtain ⟨hv, hs⟩ := s2_inj h
    subst hv
    subst hs
    exact j_iret C e dX11_firstOtherwise_41
  · replace h := ie c1 h
    refine j_aload_n C 1 dX11_firstOtherwise_13 rfl ?_
    refine j_iload_n C 2 dX11_firstOtherwise_14 rfl ?_
    obtain ⟨g2, h⟩ := gd_some h
    obtain ⟨r3, s4, hc5, h⟩ := bnd_some h
    refine k_V (v := some (.int r3)) C vb_X7_read (ci := 6) (T := TX7) (N := 3) rfl (by decide) (c7_read _ hc5) rfl (by decide) wd_928 (isO_sh g2) rfl dX11_firstOtherwise_15 ?_
    show J (ωC α) κ _ _ 18 _ [.int r3] s4
    refine j_aload_n C 0 dX11_firstOtherwise_18 rfl ?_
    refine j_getr (o := 0) (j := 5) C inT11 (ci := 10) rfl (by decide) (rfl) rfl rfl wd_582 dX11_firstOtherwise_19 (o' := 41) rfl ?_
    refine j_getr (o := 41) (j := 5) C inT2 (ci := 2) rfl (by decide) (rfl) rfl rfl wd_263 dX11_firstOtherwise_22 (o' := 44) rfl ?_
    refine j_iload_n C 2 dX11_firstOtherwise_25 rfl ?_
    obtain ⟨r6, s7, hc8, h⟩ := bnd_some h
    refine k_S (v := some (.int r6)) C sb_X11_at (c11_at _ hc8) rfl (by decide) wd_661 rfl dX11_firstOtherwise_26 ?_
    show J (ωC α) κ _ _ 29 _ [.int r6, .int r3] s7
    refine j_icmp_eq (tgt := 34) C dX11_firstOtherwise_29 (by decide) (fun c9 => ?_) (fun c9 => ?_)
    · replace h := it c9 h
      refine j_iinc (L' := [(2, .int (x2 + 1)), (0, .ref (wad (ωC α) 0)), (1, .ref (wad (ωC α) x1))]) C 2 dX11_firstOtherwise_34 rfl rfl rfl rfl ?_
      refine j_goto (tgt := 2) C dX11_firstOtherwise_37 (by decide) ?_
      exact j_sub [1, 2, 0] rfl (hk2 _ _ h)
    · replace h := ie c9 h
      refine j_iload_n C 2 dX11_firstOtherwise_32 rfl ?_
      obtain ⟨hv, hs⟩ := s2_inj h
      subst hv
      subst hs
      exact j_iret C e dX11_firstOtherwise_33
set_option maxRecDepth 10000 in
theorem c11_firstOtherwise (l : Launch) {α : WA} {fu : Nat} {a1 : Nat} {σ σ' : M2} {v : Int32}  (h : F11_firstOtherwise fu a1 σ = some (v, σ')) : Ct l (ωC α) yX11_firstOtherwise cX11_firstOtherwise 3 (some FieldType.int) 3 [.ref (wad (ωC α) 0), .ref (wad (ωC α) a1)] σ (some (.int v)) σ' := by
  unfold F11_firstOtherwise at h
  refine Ct.of (own := "EveryoneWins") (L := [(0, .ref (wad (ωC α) 0)), (1, .ref (wad (ωC α) a1))]) (by decide +kernel) rfl rfl rfl (fun κ hl e C => ?_)
  show J (ωC α) κ 3 3 0 [(0, .ref (wad (ωC α) 0)), (1, .ref (wad (ωC α) a1))] [] σ
  refine j_iconst (v := 0) C dX11_firstOtherwise_0 (by decide) ?_
  refine j_istore_n (L' := [(2, .int (0 : Int32)), (0, .ref (wad (ωC α) 0)), (1, .ref (wad (ωC α) a1))]) C dX11_firstOtherwise_1 rfl rfl rfl ?_
  exact j_sub [1, 2, 0] rfl (b11_firstOtherwise_2 C e h)
set_option maxRecDepth 10000 in
theorem c11_judge (l : Launch) {α : WA} {fu : Nat} {a1 : Int32} {σ σ' : M2} {v : Int32}  (h : F11_judge fu a1 σ = some (v, σ')) : Ct l (ωC α) yX11_judge cX11_judge 4 (some FieldType.int) 7 [.ref (wad (ωC α) 0), .int a1] σ (some (.int v)) σ' := by
  unfold F11_judge at h
  refine Ct.of (own := "EveryoneWins") (L := [(0, .ref (wad (ωC α) 0)), (1, .int a1)]) (by decide +kernel) rfl rfl rfl (fun κ hl e C => ?_)
  show J (ωC α) κ 7 4 0 [(0, .ref (wad (ωC α) 0)), (1, .int a1)] [] σ
  refine j_aload_n C 0 dX11_judge_0 rfl ?_
  refine j_iload_n C 1 dX11_judge_1 rfl ?_
  obtain ⟨r1, s2, hc3, h⟩ := bnd_some h
  cases r1 with
  | none =>
    refine k_V (v := some .null) C vb_X11_sheetAt (ci := 10) (T := TX11) (N := 17) rfl (by decide) (c11_sheetAt _ hc3) rfl (by decide) wd_912 (rfl) rfl dX11_judge_2 ?_
    show J (ωC α) κ _ _ 5 _ [.null] s2
    refine j_astore_nN (L' := [(2, .null), (0, .ref (wad (ωC α) 0)), (1, .int a1)]) C dX11_judge_5 rfl rfl rfl ?_
    refine j_aload_n C 1 dX11_judge_6 rfl ?_
    refine j_aload_nN C 0 dX11_judge_7 rfl ?_
    obtain ⟨r4, s5, hc6, h⟩ := bnd_some h
    refine k_V (v := some (.int r4)) C vb_X11_refusalOfTelling (ci := 10) (T := TX11) (N := 17) rfl (by decide) (c11_refusalOfTelling _ hc6) rfl (by decide) wd_916 (rfl) rfl dX11_judge_8 ?_
    show J (ωC α) κ _ _ 11 _ [.int r4] s5
    refine j_istore_n (L' := [(3, .int r4), (2, .null), (0, .ref (wad (ωC α) 0)), (1, .int a1)]) C dX11_judge_11 rfl rfl rfl ?_
    refine j_aload_nN C 1 dX11_judge_12 rfl ?_
    refine j_ifnullN (tgt := 20) C dX11_judge_13 (by decide) ?_
    refine j_iload_n C 0 dX11_judge_20 rfl ?_
    obtain ⟨hv, hs⟩ := s2_inj h
    subst hv
    subst hs
    exact j_iret C e dX11_judge_21
  | some q7 =>
    refine k_V (v := some (.ref (wad (ωC α) q7))) C vb_X11_sheetAt (ci := 10) (T := TX11) (N := 17) rfl (by decide) (c11_sheetAt _ hc3) rfl (by decide) wd_912 (rfl) rfl dX11_judge_2 ?_
    show J (ωC α) κ _ _ 5 _ [.ref (wad (ωC α) q7)] s2
    refine j_astore_n (L' := [(2, .ref (wad (ωC α) q7)), (0, .ref (wad (ωC α) 0)), (1, .int a1)]) C dX11_judge_5 rfl rfl rfl ?_
    refine j_aload_n C 1 dX11_judge_6 rfl ?_
    refine j_aload_n C 0 dX11_judge_7 rfl ?_
    obtain ⟨r8, s9, hc10, h⟩ := bnd_some h
    refine k_V (v := some (.int r8)) C vb_X11_refusalOfTelling (ci := 10) (T := TX11) (N := 17) rfl (by decide) (c11_refusalOfTelling _ hc10) rfl (by decide) wd_916 (rfl) rfl dX11_judge_8 ?_
    show J (ωC α) κ _ _ 11 _ [.int r8] s9
    refine j_istore_n (L' := [(3, .int r8), (2, .ref (wad (ωC α) q7)), (0, .ref (wad (ωC α) 0)), (1, .int a1)]) C dX11_judge_11 rfl rfl rfl ?_
    refine j_aload_n C 1 dX11_judge_12 rfl ?_
    refine j_ifnull C dX11_judge_13 ?_
    refine j_iload_n C 0 dX11_judge_16 rfl ?_
    refine j_if_eq (tgt := 22) C dX11_judge_17 (by decide) (fun c11 => ?_) (fun c11 => ?_)
    · replace h := it c11 h
      refine j_aload_n C 2 dX11_judge_22 rfl ?_
      refine j_getr (o := 0) (j := 5) C inT11 (ci := 10) rfl (by decide) (rfl) rfl rfl wd_582 dX11_judge_23 (o' := 41) rfl ?_
      obtain ⟨r12, s13, hc14, h⟩ := bnd_some h
      refine k_V (v := none) C vb_X2_run (ci := 2) (T := TX2) (N := 12) rfl (by decide) (c2_run _ hc14) rfl (by decide) wd_801 (rfl) rfl dX11_judge_26 ?_
      show J (ωC α) κ _ _ 29 _ [] s13
      refine j_aload_n C 2 dX11_judge_29 rfl ?_
      refine j_aload_n C 1 dX11_judge_30 rfl ?_
      obtain ⟨r15, s16, hc17, h⟩ := bnd_some h
      refine k_V (v := some (.int r15)) C vb_X11_firstOtherwise (ci := 10) (T := TX11) (N := 17) rfl (by decide) (c11_firstOtherwise _ hc17) rfl (by decide) wd_924 (rfl) rfl dX11_judge_31 ?_
      show J (ωC α) κ _ _ 34 _ [.int r15] s16
      obtain ⟨hv, hs⟩ := s2_inj h
      subst hv
      subst hs
      exact j_iret C e dX11_judge_34
    · replace h := ie c11 h
      refine j_iload_n C 0 dX11_judge_20 rfl ?_
      obtain ⟨hv, hs⟩ := s2_inj h
      subst hv
      subst hs
      exact j_iret C e dX11_judge_21
set_option maxRecDepth 10000 in
theorem b11_tryAll_94 {α : WA} {κ : KT} {fu : Nat} {σ' : M2} {x1 : Nat} {x2 : Nat} {x3 : Int32} {x5 : Int32} {x6 : Int32} (C : Cx (ωC α) κ cX11_tryAll 7 "EveryoneWins" (none)) (e : κ.2.2.2.2.2.2.2.2.2 = (none, σ')) {k26 : Int32 → M2 → Option (Unit × M2)} (hk26 : ∀ (x6' : Int32) (σ : M2), k26 x6' σ = some ((), σ') → J (ωC α) κ 7 7 26 [(0, .ref (wad (ωC α) 0)), (1, .ref (wad (ωC α) x1)), (2, .ref (wad (ωC α) x2)), (3, .int x3), (5, .int x5), (6, .int x6')] [] σ) {σ : M2} (h : F11_tryAll_94 fu k26 x1 x2 x3 x5 x6 σ = some ((), σ')) : J (ωC α) κ 7 7 94 [(0, .ref (wad (ωC α) 0)), (1, .ref (wad (ωC α) x1)), (2, .ref (wad (ωC α) x2)), (3, .int x3), (5, .int x5), (6, .int x6)] [] σ := by
  unfold F11_tryAll_94 at h
  refine j_iinc (L' := [(6, .int (x6 + (-1))), (0, .ref (wad (ωC α) 0)), (1, .ref (wad (ωC α) x1)), (2, .ref (wad (ωC α) x2)), (3, .int x3), (5, .int x5)]) C 5 dX11_tryAll_94 rfl rfl rfl rfl ?_
  refine j_goto (tgt := 26) C dX11_tryAll_97 (by decide) ?_
  exact j_sub [1, 2, 3, 4, 5, 0] rfl (hk26 _ _ h)
set_option maxRecDepth 10000 in
theorem b11_tryAll_74 {α : WA} {κ : KT} {fu : Nat} {σ' : M2} {x1 : Nat} {x2 : Nat} {x3 : Int32} {x5 : Int32} {x6 : Int32} {y0 : Int32} {y1 : Int32} (C : Cx (ωC α) κ cX11_tryAll 7 "EveryoneWins" (none)) (e : κ.2.2.2.2.2.2.2.2.2 = (none, σ')) {k26 : Int32 → M2 → Option (Unit × M2)} (hk26 : ∀ (x6' : Int32) (σ : M2), k26 x6' σ = some ((), σ') → J (ωC α) κ 7 7 26 [(0, .ref (wad (ωC α) 0)), (1, .ref (wad (ωC α) x1)), (2, .ref (wad (ωC α) x2)), (3, .int x3), (5, .int x5), (6, .int x6')] [] σ) {σ : M2} (h : F11_tryAll_74 fu k26 x1 x2 x3 x5 x6 y0 y1 σ = some ((), σ')) : J (ωC α) κ 7 7 74 [(0, .ref (wad (ωC α) 0)), (1, .ref (wad (ωC α) x1)), (2, .ref (wad (ωC α) x2)), (3, .int x3), (5, .int x5), (6, .int x6)] [.int y0, .int y1, .ref (wad (ωC α) 0)] σ := by
  unfold F11_tryAll_74 at h
  refine j_ior C dX11_tryAll_74 ?_
  refine j_puti (o := 0) (j := 14) C inT11 tyX11_ok nmX11 (ci := 10) rfl (by decide) (rfl) rfl rfl rfl (tyX11_ok 14 (by decide)) rfl rfl wd_591 dX11_tryAll_75 ?_
  refine j_aload_n C 0 dX11_tryAll_78 rfl ?_
  refine j_dup C dX11_tryAll_79 rfl ?_
  refine j_geti (o := 0) (j := 15) C inT11 (ci := 10) rfl (by decide) (rfl) rfl rfl wd_592 dX11_tryAll_80 ?_
  refine j_iconst (v := 1) C dX11_tryAll_83 (by decide) ?_
  refine j_iadd C dX11_tryAll_84 ?_
  refine j_puti (o := 0) (j := 15) C inT11 tyX11_ok nmX11 (ci := 10) rfl (by decide) (rfl) rfl rfl rfl (tyX11_ok 15 (by decide)) rfl rfl wd_592 dX11_tryAll_85 ?_
  refine j_aload_n C 0 dX11_tryAll_88 rfl ?_
  refine j_iload C 5 dX11_tryAll_89 rfl ?_
  refine j_puti (o := 0) (j := 16) C inT11 tyX11_ok nmX11 (ci := 10) rfl (by decide) (rfl) rfl rfl rfl (tyX11_ok 16 (by decide)) rfl rfl wd_593 dX11_tryAll_91 ?_
  exact (b11_tryAll_94 C e hk26 h)
set_option maxRecDepth 10000 in
theorem b11_tryAll_26 {α : WA} {κ : KT} {fu : Nat} {σ' : M2} {x1 : Nat} {x2 : Nat} {x3 : Int32} {x5 : Int32} {x6 : Int32} (C : Cx (ωC α) κ cX11_tryAll 7 "EveryoneWins" (none)) (e : κ.2.2.2.2.2.2.2.2.2 = (none, σ'))  {σ : M2} (h : F11_tryAll_26 fu x1 x2 x3 x5 x6 σ = some ((), σ')) : J (ωC α) κ 7 7 26 [(0, .ref (wad (ωC α) 0)), (1, .ref (wad (ωC α) x1)), (2, .ref (wad (ωC α) x2)), (3, .int x3), (5, .int x5), (6, .int x6)] [] σ := by
  unfold F11_tryAll_26 at h
  refine wl1_ind (fun x6 σ => J (ωC α) κ 7 7 26 [(0, .ref (wad (ωC α) 0)), (1, .ref (wad (ωC α) x1)), (2, .ref (wad (ωC α) x2)), (3, .int x3), (5, .int x5), (6, .int x6)] [] σ) ?_ fu x6 σ h
  intro k26 hk26 x6 σ h
  try dsimp only at h
  show J (ωC α) κ 7 7 26 [(0, .ref (wad (ωC α) 0)), (1, .ref (wad (ωC α) x1)), (2, .ref (wad (ωC α) x2)), (3, .int x3), (5, .int x5), (6, .int x6)] [] σ
  refine j_iload C 5 dX11_tryAll_26 rfl ?_
  refine j_if_lt (tgt := 100) C dX11_tryAll_28 (by decide) (fun c1 => ?_) (fun c1 => ?_)
  · replace h := it c1 h
    refine j_aload_n C 2 dX11_tryAll_100 rfl ?_
    refine j_iload_n C 3 dX11_tryAll_101 rfl ?_
    refine j_iload C 4 dX11_tryAll_102 rfl ?_
    obtain ⟨r2, s3, hc4, h⟩ := bnd_some h
    refine k_S (v := none) C sb_X11_set (c11_set _ hc4) rfl (by decide) wd_662 rfl dX11_tryAll_104 ?_
    show J (ωC α) κ _ _ 107 _ [] s3
    obtain ⟨-, hs⟩ := s2_inj h
    subst hs
    exact j_vret C e dX11_tryAll_107
  · replace h := ie c1 h
    refine j_aload_n C 2 dX11_tryAll_31 rfl ?_
    refine j_iload_n C 3 dX11_tryAll_32 rfl ?_
    refine j_iload C 5 dX11_tryAll_33 rfl ?_
    obtain ⟨r5, s6, hc7, h⟩ := bnd_some h
    refine k_S (v := none) C sb_X11_set (c11_set _ hc7) rfl (by decide) wd_662 rfl dX11_tryAll_35 ?_
    show J (ωC α) κ _ _ 38 _ [] s6
    refine j_aload_n C 0 dX11_tryAll_38 rfl ?_
    refine j_getr (o := 0) (j := 5) C inT11 (ci := 10) rfl (by decide) (rfl) rfl rfl wd_582 dX11_tryAll_39 (o' := 41) rfl ?_
    obtain ⟨r8, s9, hc10, h⟩ := bnd_some h
    refine k_V (v := none) C vb_X2_run (ci := 2) (T := TX2) (N := 12) rfl (by decide) (c2_run _ hc10) rfl (by decide) wd_801 (rfl) rfl dX11_tryAll_42 ?_
    show J (ωC α) κ _ _ 45 _ [] s9
    refine j_aload_n C 0 dX11_tryAll_45 rfl ?_
    refine j_aload_n C 1 dX11_tryAll_46 rfl ?_
    obtain ⟨r11, s12, hc13, h⟩ := bnd_some h
    refine k_V (v := some (.int r11)) C vb_X11_firstOtherwise (ci := 10) (T := TX11) (N := 17) rfl (by decide) (c11_firstOtherwise _ hc13) rfl (by decide) wd_924 (rfl) rfl dX11_tryAll_47 ?_
    show J (ωC α) κ _ _ 50 _ [.int r11] s12
    refine j_iconst (v := -1) C dX11_tryAll_50 (by decide) ?_
    refine j_icmp_ne (tgt := 94) C dX11_tryAll_51 (by decide) (fun c14 => ?_) (fun c14 => ?_)
    · replace h := ie c14 h
      exact (b11_tryAll_94 C e hk26 h)
    · replace h := it c14 h
      refine j_aload_n C 0 dX11_tryAll_54 rfl ?_
      refine j_dup C dX11_tryAll_55 rfl ?_
      refine j_geti (o := 0) (j := 14) C inT11 (ci := 10) rfl (by decide) (rfl) rfl rfl wd_591 dX11_tryAll_56 ?_
      refine j_iload C 5 dX11_tryAll_59 rfl ?_
      refine j_bipush (v := 9) C dX11_tryAll_61 (by decide) ?_
      refine j_icmp_gt (tgt := 73) C dX11_tryAll_63 (by decide) (fun c15 => ?_) (fun c15 => ?_)
      · replace h := it c15 h
        refine j_iconst (v := 0) C dX11_tryAll_73 (by decide) ?_
        exact (b11_tryAll_74 C e hk26 h)
      · replace h := ie c15 h
        refine j_iconst (v := 1) C dX11_tryAll_66 (by decide) ?_
        refine j_iload C 5 dX11_tryAll_67 rfl ?_
        refine j_ishl C dX11_tryAll_69 ?_
        refine j_goto (tgt := 74) C dX11_tryAll_70 (by decide) ?_
        exact (b11_tryAll_74 C e hk26 h)
set_option maxRecDepth 10000 in
theorem c11_tryAll (l : Launch) {α : WA} {fu : Nat} {a1 : Nat} {a2 : Nat} {a3 : Int32} {a4 : Int32} {σ σ' : M2}  (h : F11_tryAll fu a1 a2 a3 a4 σ = some ((), σ')) : Ct l (ωC α) yX11_tryAll cX11_tryAll 7 (none) 7 [.ref (wad (ωC α) 0), .ref (wad (ωC α) a1), .ref (wad (ωC α) a2), .int a3, .int a4] σ (none) σ' := by
  unfold F11_tryAll at h
  refine Ct.of (own := "EveryoneWins") (L := [(0, .ref (wad (ωC α) 0)), (1, .ref (wad (ωC α) a1)), (2, .ref (wad (ωC α) a2)), (3, .int a3), (4, .int a4)]) (by decide +kernel) rfl rfl rfl (fun κ hl e C => ?_)
  show J (ωC α) κ 7 7 0 [(0, .ref (wad (ωC α) 0)), (1, .ref (wad (ωC α) a1)), (2, .ref (wad (ωC α) a2)), (3, .int a3), (4, .int a4)] [] σ
  refine j_aload_n C 2 dX11_tryAll_0 rfl ?_
  refine j_iload_n C 3 dX11_tryAll_1 rfl ?_
  obtain ⟨r1, s2, hc3, h⟩ := bnd_some h
  refine k_S (v := some (.int r1)) C sb_X11_at (c11_at _ hc3) rfl (by decide) wd_661 rfl dX11_tryAll_2 ?_
  show J (ωC α) κ _ _ 5 _ [.int r1] s2
  refine j_istore (L' := [(5, .int r1), (0, .ref (wad (ωC α) 0)), (1, .ref (wad (ωC α) a1)), (2, .ref (wad (ωC α) a2)), (3, .int a3), (4, .int a4)]) C dX11_tryAll_5 rfl rfl ?_
  refine j_aload_n C 1 dX11_tryAll_7 rfl ?_
  refine j_iconst (v := 0) C dX11_tryAll_8 (by decide) ?_
  refine j_puti (o := 0) (j := 14) C inT11 tyX11_ok nmX11 (ci := 10) rfl (by decide) (rfl) rfl rfl rfl (tyX11_ok 14 (by decide)) rfl rfl wd_591 dX11_tryAll_9 ?_
  refine j_aload_n C 1 dX11_tryAll_12 rfl ?_
  refine j_iconst (v := 0) C dX11_tryAll_13 (by decide) ?_
  refine j_puti (o := 0) (j := 15) C inT11 tyX11_ok nmX11 (ci := 10) rfl (by decide) (rfl) rfl rfl rfl (tyX11_ok 15 (by decide)) rfl rfl wd_592 dX11_tryAll_14 ?_
  refine j_aload_n C 1 dX11_tryAll_17 rfl ?_
  refine j_iconst (v := -1) C dX11_tryAll_18 (by decide) ?_
  refine j_puti (o := 0) (j := 16) C inT11 tyX11_ok nmX11 (ci := 10) rfl (by decide) (rfl) rfl rfl rfl (tyX11_ok 16 (by decide)) rfl rfl wd_593 dX11_tryAll_19 ?_
  refine j_iload C 5 dX11_tryAll_22 rfl ?_
  refine j_istore (L' := [(6, .int a4), (5, .int r1), (0, .ref (wad (ωC α) 0)), (1, .ref (wad (ωC α) a1)), (2, .ref (wad (ωC α) a2)), (3, .int a3), (4, .int a4)]) C dX11_tryAll_24 rfl rfl ?_
  exact j_sub [2, 3, 4, 5, 1, 0] rfl (b11_tryAll_26 C e h)
set_option maxRecDepth 10000 in
theorem b11_kinds_126 {α : WA} {κ : KT} {fu : Nat} {v : Int32} {σ' : M2}  (C : Cx (ωC α) κ cX11_kinds 6 "EveryoneWins" (some FieldType.int)) (e : κ.2.2.2.2.2.2.2.2.2 = (some (.int v), σ'))  {σ : M2} (h : F11_kinds_126 fu σ = some (v, σ')) : J (ωC α) κ 8 6 126 [(0, .ref (wad (ωC α) 0))] [] σ := by
  unfold F11_kinds_126 at h
  refine j_aload_n C 0 dX11_kinds_126 rfl ?_
  refine j_geti (o := 0) (j := 14) C inT11 (ci := 10) rfl (by decide) (rfl) rfl rfl wd_591 dX11_kinds_127 ?_
  obtain ⟨hv, hs⟩ := s2_inj h
  subst hv
  subst hs
  exact j_iret C e dX11_kinds_130
set_option maxRecDepth 10000 in
theorem c11_kinds (l : Launch) {α : WA} {fu : Nat} {a1 : Int32} {a2 : Int32} {a3 : Int32} {σ σ' : M2} {v : Int32}  (h : F11_kinds fu a1 a2 a3 σ = some (v, σ')) : Ct l (ωC α) yX11_kinds cX11_kinds 6 (some FieldType.int) 8 [.ref (wad (ωC α) 0), .int a1, .int a2, .int a3] σ (some (.int v)) σ' := by
  unfold F11_kinds at h
  refine Ct.of (own := "EveryoneWins") (L := [(0, .ref (wad (ωC α) 0)), (1, .int a1), (2, .int a2), (3, .int a3)]) (by decide +kernel) rfl rfl rfl (fun κ hl e C => ?_)
  show J (ωC α) κ 8 6 0 [(0, .ref (wad (ωC α) 0)), (1, .int a1), (2, .int a2), (3, .int a3)] [] σ
  refine j_aload_n C 0 dX11_kinds_0 rfl ?_
  refine j_iload_n C 1 dX11_kinds_1 rfl ?_
  obtain ⟨r1, s2, hc3, h⟩ := bnd_some h
  cases r1 with
  | none =>
    refine k_V (v := some .null) C vb_X11_sheetAt (ci := 10) (T := TX11) (N := 17) rfl (by decide) (c11_sheetAt _ hc3) rfl (by decide) wd_912 (rfl) rfl dX11_kinds_2 ?_
    show J (ωC α) κ _ _ 5 _ [.null] s2
    refine j_astoreN (L' := [(4, .null), (0, .ref (wad (ωC α) 0)), (1, .int a1), (2, .int a2), (3, .int a3)]) C dX11_kinds_5 rfl rfl ?_
    refine j_aload_n C 1 dX11_kinds_7 rfl ?_
    refine j_aloadN C 0 dX11_kinds_8 rfl ?_
    obtain ⟨r4, s5, hc6, h⟩ := bnd_some h
    refine k_V (v := some (.int r4)) C vb_X11_refusalOfTelling (ci := 10) (T := TX11) (N := 17) rfl (by decide) (c11_refusalOfTelling _ hc6) rfl (by decide) wd_916 (rfl) rfl dX11_kinds_10 ?_
    show J (ωC α) κ _ _ 13 _ [.int r4] s5
    refine j_istore (L' := [(5, .int r4), (4, .null), (0, .ref (wad (ωC α) 0)), (1, .int a1), (2, .int a2), (3, .int a3)]) C dX11_kinds_13 rfl rfl ?_
    refine j_aloadN C 1 dX11_kinds_15 rfl ?_
    refine j_ifnullN (tgt := 25) C dX11_kinds_17 (by decide) ?_
    refine j_iload C 0 dX11_kinds_25 rfl ?_
    obtain ⟨hv, hs⟩ := s2_inj h
    subst hv
    subst hs
    exact j_iret C e dX11_kinds_27
  | some q7 =>
    refine k_V (v := some (.ref (wad (ωC α) q7))) C vb_X11_sheetAt (ci := 10) (T := TX11) (N := 17) rfl (by decide) (c11_sheetAt _ hc3) rfl (by decide) wd_912 (rfl) rfl dX11_kinds_2 ?_
    show J (ωC α) κ _ _ 5 _ [.ref (wad (ωC α) q7)] s2
    refine j_astore (L' := [(4, .ref (wad (ωC α) q7)), (0, .ref (wad (ωC α) 0)), (1, .int a1), (2, .int a2), (3, .int a3)]) C dX11_kinds_5 rfl rfl ?_
    refine j_aload_n C 1 dX11_kinds_7 rfl ?_
    refine j_aload C 0 dX11_kinds_8 rfl ?_
    obtain ⟨r8, s9, hc10, h⟩ := bnd_some h
    refine k_V (v := some (.int r8)) C vb_X11_refusalOfTelling (ci := 10) (T := TX11) (N := 17) rfl (by decide) (c11_refusalOfTelling _ hc10) rfl (by decide) wd_916 (rfl) rfl dX11_kinds_10 ?_
    show J (ωC α) κ _ _ 13 _ [.int r8] s9
    refine j_istore (L' := [(5, .int r8), (4, .ref (wad (ωC α) q7)), (0, .ref (wad (ωC α) 0)), (1, .int a1), (2, .int a2), (3, .int a3)]) C dX11_kinds_13 rfl rfl ?_
    refine j_aload C 1 dX11_kinds_15 rfl ?_
    refine j_ifnull C dX11_kinds_17 ?_
    refine j_iload C 0 dX11_kinds_20 rfl ?_
    refine j_if_eq (tgt := 28) C dX11_kinds_22 (by decide) (fun c11 => ?_) (fun c11 => ?_)
    · replace h := it c11 h
      refine j_aload_n C 2 dX11_kinds_28 rfl ?_
      refine j_iload_n C 4 dX11_kinds_29 rfl ?_
      obtain ⟨r12, s13, hc14, h⟩ := bnd_some h
      refine k_V (v := some (.int r12)) C vb_X11_isRace (ci := 10) (T := TX11) (N := 17) rfl (by decide) (c11_isRace _ hc14) rfl (by decide) wd_686 (rfl) rfl dX11_kinds_30 ?_
      show J (ωC α) κ _ _ 33 _ [.int r12] s13
      refine j_if_ne (tgt := 39) C dX11_kinds_33 (by decide) (fun c15 => ?_) (fun c15 => ?_)
      · replace h := ie c15 h
        refine j_iload_n C 5 dX11_kinds_39 rfl ?_
        by_cases c16 : a3 = (0 : Int32)
        · replace h := it c16 h
          refine j_tabEq (tgt := 68) C dX11_kinds_40 c16 (by decide) (by decide) rfl (by decide) ?_
          refine j_aload_n C 2 dX11_kinds_68 rfl ?_
          refine j_aload C 1 dX11_kinds_69 rfl ?_
          refine j_aload_n C 2 dX11_kinds_71 rfl ?_
          refine j_getr (o := 0) (j := 1) C inT11 (ci := 10) rfl (by decide) (rfl) rfl rfl wd_578 dX11_kinds_72 (o' := 5) rfl ?_
          refine j_getr (o := 5) (j := 0) C inT5 (ci := 4) rfl (by decide) (rfl) rfl rfl wd_137 dX11_kinds_75 (o' := 6) rfl ?_
          refine j_iload_n C 4 dX11_kinds_78 rfl ?_
          refine j_iconst (v := 5) C dX11_kinds_79 (by decide) ?_
          obtain ⟨r17, s18, hc19, h⟩ := bnd_some h
          refine k_V (v := none) C vb_X11_tryAll (ci := 10) (T := TX11) (N := 17) rfl (by decide) (c11_tryAll _ hc19) rfl (by decide) wd_937 (rfl) rfl dX11_kinds_80 ?_
          show J (ωC α) κ _ _ 83 _ [] s18
          refine j_goto (tgt := 126) C dX11_kinds_83 (by decide) ?_
          exact j_sub [2] rfl (b11_kinds_126 C e h)
        replace h := ie c16 h
        by_cases c20 : a3 = (1 : Int32)
        · replace h := it c20 h
          refine j_tabEq (tgt := 86) C dX11_kinds_40 c20 (by decide) (by decide) rfl (by decide) ?_
          refine j_aload_n C 2 dX11_kinds_86 rfl ?_
          refine j_aload C 1 dX11_kinds_87 rfl ?_
          refine j_aload_n C 2 dX11_kinds_89 rfl ?_
          refine j_getr (o := 0) (j := 1) C inT11 (ci := 10) rfl (by decide) (rfl) rfl rfl wd_578 dX11_kinds_90 (o' := 5) rfl ?_
          refine j_getr (o := 5) (j := 1) C inT5 (ci := 4) rfl (by decide) (rfl) rfl rfl wd_140 dX11_kinds_93 (o' := 7) rfl ?_
          refine j_iload_n C 4 dX11_kinds_96 rfl ?_
          refine j_bipush (v := 9) C dX11_kinds_97 (by decide) ?_
          obtain ⟨r21, s22, hc23, h⟩ := bnd_some h
          refine k_V (v := none) C vb_X11_tryAll (ci := 10) (T := TX11) (N := 17) rfl (by decide) (c11_tryAll _ hc23) rfl (by decide) wd_937 (rfl) rfl dX11_kinds_99 ?_
          show J (ωC α) κ _ _ 102 _ [] s22
          refine j_goto (tgt := 126) C dX11_kinds_102 (by decide) ?_
          exact j_sub [2] rfl (b11_kinds_126 C e h)
        replace h := ie c20 h
        by_cases c24 : a3 = (2 : Int32)
        · replace h := it c24 h
          refine j_tabEq (tgt := 105) C dX11_kinds_40 c24 (by decide) (by decide) rfl (by decide) ?_
          refine j_aload_n C 2 dX11_kinds_105 rfl ?_
          refine j_aload C 1 dX11_kinds_106 rfl ?_
          refine j_aload_n C 2 dX11_kinds_108 rfl ?_
          refine j_getr (o := 0) (j := 1) C inT11 (ci := 10) rfl (by decide) (rfl) rfl rfl wd_578 dX11_kinds_109 (o' := 5) rfl ?_
          refine j_getr (o := 5) (j := 3) C inT5 (ci := 4) rfl (by decide) (rfl) rfl rfl wd_146 dX11_kinds_112 (o' := 9) rfl ?_
          refine j_iload_n C 4 dX11_kinds_115 rfl ?_
          refine j_iconst (v := 3) C dX11_kinds_116 (by decide) ?_
          obtain ⟨r25, s26, hc27, h⟩ := bnd_some h
          refine k_V (v := none) C vb_X11_tryAll (ci := 10) (T := TX11) (N := 17) rfl (by decide) (c11_tryAll _ hc27) rfl (by decide) wd_937 (rfl) rfl dX11_kinds_117 ?_
          show J (ωC α) κ _ _ 120 _ [] s26
          refine j_goto (tgt := 126) C dX11_kinds_120 (by decide) ?_
          exact j_sub [2] rfl (b11_kinds_126 C e h)
        replace h := ie c24 h
        refine j_tableOut (tgt := 123) C dX11_kinds_40 (by have q0 := ne_ti c16 (z := 0) (by decide); have q1 := ne_ti c20 (z := 1) (by decide); have q2 := ne_ti c24 (z := 2) (by decide); omega) (by decide) ?_
        refine j_bipush (v := -7) C dX11_kinds_123 (by decide) ?_
        obtain ⟨hv, hs⟩ := s2_inj h
        subst hv
        subst hs
        exact j_iret C e dX11_kinds_125
      · replace h := it c15 h
        refine j_bipush (v := -6) C dX11_kinds_36 (by decide) ?_
        obtain ⟨hv, hs⟩ := s2_inj h
        subst hv
        subst hs
        exact j_iret C e dX11_kinds_38
    · replace h := ie c11 h
      refine j_iload C 0 dX11_kinds_25 rfl ?_
      obtain ⟨hv, hs⟩ := s2_inj h
      subst hv
      subst hs
      exact j_iret C e dX11_kinds_27
set_option maxRecDepth 10000 in
theorem c11_quick (l : Launch) {α : WA} {fu : Nat} {a1 : Int32} {a2 : Int32} {a3 : Int32} {σ σ' : M2} {v : Int32}  (h : F11_quick fu a1 a2 a3 σ = some (v, σ')) : Ct l (ωC α) yX11_quick cX11_quick 6 (some FieldType.int) 8 [.ref (wad (ωC α) 0), .int a1, .int a2, .int a3] σ (some (.int v)) σ' := by
  unfold F11_quick at h
  refine Ct.of (own := "EveryoneWins") (L := [(0, .ref (wad (ωC α) 0)), (1, .int a1), (2, .int a2), (3, .int a3)]) (by decide +kernel) rfl rfl rfl (fun κ hl e C => ?_)
  show J (ωC α) κ 8 6 0 [(0, .ref (wad (ωC α) 0)), (1, .int a1), (2, .int a2), (3, .int a3)] [] σ
  refine j_aload_n C 0 dX11_quick_0 rfl ?_
  refine j_iload_n C 1 dX11_quick_1 rfl ?_
  obtain ⟨r1, s2, hc3, h⟩ := bnd_some h
  cases r1 with
  | none =>
    refine k_V (v := some .null) C vb_X11_sheetAt (ci := 10) (T := TX11) (N := 17) rfl (by decide) (c11_sheetAt _ hc3) rfl (by decide) wd_912 (rfl) rfl dX11_quick_2 ?_
    show J (ωC α) κ _ _ 5 _ [.null] s2
    refine j_astoreN (L' := [(4, .null), (0, .ref (wad (ωC α) 0)), (1, .int a1), (2, .int a2), (3, .int a3)]) C dX11_quick_5 rfl rfl ?_
    refine j_aload_n C 1 dX11_quick_7 rfl ?_
    refine j_aloadN C 0 dX11_quick_8 rfl ?_
    obtain ⟨r4, s5, hc6, h⟩ := bnd_some h
    refine k_V (v := some (.int r4)) C vb_X11_refusalOfTelling (ci := 10) (T := TX11) (N := 17) rfl (by decide) (c11_refusalOfTelling _ hc6) rfl (by decide) wd_916 (rfl) rfl dX11_quick_10 ?_
    show J (ωC α) κ _ _ 13 _ [.int r4] s5
    refine j_istore (L' := [(5, .int r4), (4, .null), (0, .ref (wad (ωC α) 0)), (1, .int a1), (2, .int a2), (3, .int a3)]) C dX11_quick_13 rfl rfl ?_
    refine j_aloadN C 1 dX11_quick_15 rfl ?_
    refine j_ifnullN (tgt := 25) C dX11_quick_17 (by decide) ?_
    refine j_iload C 0 dX11_quick_25 rfl ?_
    obtain ⟨hv, hs⟩ := s2_inj h
    subst hv
    subst hs
    exact j_iret C e dX11_quick_27
  | some q7 =>
    refine k_V (v := some (.ref (wad (ωC α) q7))) C vb_X11_sheetAt (ci := 10) (T := TX11) (N := 17) rfl (by decide) (c11_sheetAt _ hc3) rfl (by decide) wd_912 (rfl) rfl dX11_quick_2 ?_
    show J (ωC α) κ _ _ 5 _ [.ref (wad (ωC α) q7)] s2
    refine j_astore (L' := [(4, .ref (wad (ωC α) q7)), (0, .ref (wad (ωC α) 0)), (1, .int a1), (2, .int a2), (3, .int a3)]) C dX11_quick_5 rfl rfl ?_
    refine j_aload_n C 1 dX11_quick_7 rfl ?_
    refine j_aload C 0 dX11_quick_8 rfl ?_
    obtain ⟨r8, s9, hc10, h⟩ := bnd_some h
    refine k_V (v := some (.int r8)) C vb_X11_refusalOfTelling (ci := 10) (T := TX11) (N := 17) rfl (by decide) (c11_refusalOfTelling _ hc10) rfl (by decide) wd_916 (rfl) rfl dX11_quick_10 ?_
    show J (ωC α) κ _ _ 13 _ [.int r8] s9
    refine j_istore (L' := [(5, .int r8), (4, .ref (wad (ωC α) q7)), (0, .ref (wad (ωC α) 0)), (1, .int a1), (2, .int a2), (3, .int a3)]) C dX11_quick_13 rfl rfl ?_
    refine j_aload C 1 dX11_quick_15 rfl ?_
    refine j_ifnull C dX11_quick_17 ?_
    refine j_iload C 0 dX11_quick_20 rfl ?_
    refine j_if_eq (tgt := 28) C dX11_quick_22 (by decide) (fun c11 => ?_) (fun c11 => ?_)
    · replace h := it c11 h
      refine j_aload_n C 2 dX11_quick_28 rfl ?_
      refine j_iload_n C 4 dX11_quick_29 rfl ?_
      obtain ⟨r12, s13, hc14, h⟩ := bnd_some h
      refine k_V (v := some (.int r12)) C vb_X11_isChild (ci := 10) (T := TX11) (N := 17) rfl (by decide) (c11_isChild _ hc14) rfl (by decide) wd_650 (rfl) rfl dX11_quick_30 ?_
      show J (ωC α) κ _ _ 33 _ [.int r12] s13
      refine j_if_ne (tgt := 39) C dX11_quick_33 (by decide) (fun c15 => ?_) (fun c15 => ?_)
      · replace h := ie c15 h
        refine j_iload_n C 5 dX11_quick_39 rfl ?_
        refine j_iconst (v := 0) C dX11_quick_40 (by decide) ?_
        refine j_bipush (v := 29) C dX11_quick_41 (by decide) ?_
        obtain ⟨r16, s17, hc18, h⟩ := bnd_some h
        refine k_S (v := some (.int r16)) C sb_X11_within (c11_within _ hc18) rfl (by decide) wd_638 rfl dX11_quick_43 ?_
        show J (ωC α) κ _ _ 46 _ [.int r16] s17
        refine j_if_eq (tgt := 57) C dX11_quick_46 (by decide) (fun c19 => ?_) (fun c19 => ?_)
        · replace h := it c19 h
          refine j_bipush (v := -7) C dX11_quick_57 (by decide) ?_
          obtain ⟨hv, hs⟩ := s2_inj h
          subst hv
          subst hs
          exact j_iret C e dX11_quick_59
        · replace h := ie c19 h
          refine j_iload_n C 5 dX11_quick_49 rfl ?_
          refine j_bipush (v := 10) C dX11_quick_50 (by decide) ?_
          refine j_irem C dX11_quick_52 (by decide) ?_
          refine j_iconst (v := 1) C dX11_quick_53 (by decide) ?_
          refine j_icmp_le (tgt := 60) C dX11_quick_54 (by decide) (fun c20 => ?_) (fun c20 => ?_)
          · replace h := it c20 h
            refine j_aload_n C 2 dX11_quick_60 rfl ?_
            refine j_aload C 1 dX11_quick_61 rfl ?_
            refine j_aload_n C 2 dX11_quick_63 rfl ?_
            refine j_getr (o := 0) (j := 0) C inT11 (ci := 10) rfl (by decide) (rfl) rfl rfl wd_577 dX11_quick_64 (o' := 1) rfl ?_
            refine j_iload_n C 5 dX11_quick_67 rfl ?_
            refine j_bipush (v := 10) C dX11_quick_68 (by decide) ?_
            refine j_idiv C dX11_quick_70 (by decide) ?_
            obtain ⟨r21, s22, hc23, h⟩ := bnd_some h
            refine k_V (v := some (.ref (wad (ωC α) r21))) C vb_X1_row (ci := 1) (T := TX1) (N := 4) rfl (by decide) (c1_row _ hc23) rfl (by decide) wd_654 (rfl) rfl dX11_quick_71 ?_
            show J (ωC α) κ _ _ 74 _ [.ref (wad (ωC α) r21), .ref (wad (ωC α) q7), .ref (wad (ωC α) 0)] s22
            refine j_iload_n C 4 dX11_quick_74 rfl ?_
            refine j_bipush (v := 99) C dX11_quick_75 (by decide) ?_
            obtain ⟨r24, s25, hc26, h⟩ := bnd_some h
            refine k_V (v := none) C vb_X11_tryAll (ci := 10) (T := TX11) (N := 17) rfl (by decide) (c11_tryAll _ hc26) rfl (by decide) wd_937 (rfl) rfl dX11_quick_77 ?_
            show J (ωC α) κ _ _ 80 _ [] s25
            refine j_iload_n C 5 dX11_quick_80 rfl ?_
            refine j_bipush (v := 10) C dX11_quick_81 (by decide) ?_
            refine j_irem C dX11_quick_83 (by decide) ?_
            refine j_if_ne (tgt := 94) C dX11_quick_84 (by decide) (fun c27 => ?_) (fun c27 => ?_)
            · replace h := ie c27 h
              refine j_aload_n C 2 dX11_quick_94 rfl ?_
              refine j_geti (o := 0) (j := 16) C inT11 (ci := 10) rfl (by decide) (rfl) rfl rfl wd_593 dX11_quick_95 ?_
              obtain ⟨hv, hs⟩ := s2_inj h
              subst hv
              subst hs
              exact j_iret C e dX11_quick_98
            · replace h := it c27 h
              refine j_aload_n C 2 dX11_quick_87 rfl ?_
              refine j_geti (o := 0) (j := 15) C inT11 (ci := 10) rfl (by decide) (rfl) rfl rfl wd_592 dX11_quick_88 ?_
              refine j_goto (tgt := 98) C dX11_quick_91 (by decide) ?_
              obtain ⟨hv, hs⟩ := s2_inj h
              subst hv
              subst hs
              exact j_iret C e dX11_quick_98
          · replace h := ie c20 h
            refine j_bipush (v := -7) C dX11_quick_57 (by decide) ?_
            obtain ⟨hv, hs⟩ := s2_inj h
            subst hv
            subst hs
            exact j_iret C e dX11_quick_59
      · replace h := it c15 h
        refine j_bipush (v := -5) C dX11_quick_36 (by decide) ?_
        obtain ⟨hv, hs⟩ := s2_inj h
        subst hv
        subst hs
        exact j_iret C e dX11_quick_38
    · replace h := ie c11 h
      refine j_iload C 0 dX11_quick_25 rfl ?_
      obtain ⟨hv, hs⟩ := s2_inj h
      subst hv
      subst hs
      exact j_iret C e dX11_quick_27
set_option maxRecDepth 10000 in
theorem b11_laws_84 {α : WA} {κ : KT} {fu : Nat} {v : Int32} {σ' : M2} {x2 : Nat} {x4 : Int32} {x6 : Int32} {y0 : Int32} {y1 : Int32} (C : Cx (ωC α) κ cX11_laws 7 "EveryoneWins" (some FieldType.int)) (e : κ.2.2.2.2.2.2.2.2.2 = (some (.int v), σ')) {k37 : Int32 → Int32 → M2 → Option (Int32 × M2)} (hk37 : ∀ (x5' : Int32) (x6' : Int32) (σ : M2), k37 x5' x6' σ = some (v, σ') → J (ωC α) κ 7 7 37 [(0, .ref (wad (ωC α) 0)), (2, .ref (wad (ωC α) x2)), (4, .int x4), (5, .int x5'), (6, .int x6')] [] σ) {σ : M2} (h : F11_laws_84 fu k37 x2 x4 x6 y0 y1 σ = some (v, σ')) : J (ωC α) κ 7 7 84 [(0, .ref (wad (ωC α) 0)), (2, .ref (wad (ωC α) x2)), (4, .int x4), (6, .int x6)] [.int y0, .int y1] σ := by
  unfold F11_laws_84 at h
  refine j_ior C dX11_laws_84 ?_
  refine j_istore (L' := [(5, .int (y1 ||| y0)), (0, .ref (wad (ωC α) 0)), (2, .ref (wad (ωC α) x2)), (4, .int x4), (6, .int x6)]) C dX11_laws_85 rfl rfl ?_
  refine j_iinc (L' := [(6, .int (x6 + 1)), (5, .int (y1 ||| y0)), (0, .ref (wad (ωC α) 0)), (2, .ref (wad (ωC α) x2)), (4, .int x4)]) C 4 dX11_laws_87 rfl rfl rfl rfl ?_
  refine j_goto (tgt := 37) C dX11_laws_90 (by decide) ?_
  exact j_sub [2, 3, 4, 1, 0] rfl (hk37 _ _ _ h)
set_option maxRecDepth 10000 in
theorem b11_laws_37 {α : WA} {κ : KT} {fu : Nat} {v : Int32} {σ' : M2} {x2 : Nat} {x4 : Int32} {x5 : Int32} {x6 : Int32} (C : Cx (ωC α) κ cX11_laws 7 "EveryoneWins" (some FieldType.int)) (e : κ.2.2.2.2.2.2.2.2.2 = (some (.int v), σ'))  {σ : M2} (h : F11_laws_37 fu x2 x4 x5 x6 σ = some (v, σ')) : J (ωC α) κ 7 7 37 [(0, .ref (wad (ωC α) 0)), (2, .ref (wad (ωC α) x2)), (4, .int x4), (5, .int x5), (6, .int x6)] [] σ := by
  unfold F11_laws_37 at h
  refine wl2_ind (fun x5 x6 σ => J (ωC α) κ 7 7 37 [(0, .ref (wad (ωC α) 0)), (2, .ref (wad (ωC α) x2)), (4, .int x4), (5, .int x5), (6, .int x6)] [] σ) ?_ fu x5 x6 σ h
  intro k37 hk37 x5 x6 σ h
  try dsimp only at h
  show J (ωC α) κ 7 7 37 [(0, .ref (wad (ωC α) 0)), (2, .ref (wad (ωC α) x2)), (4, .int x4), (5, .int x5), (6, .int x6)] [] σ
  refine j_iload C 4 dX11_laws_37 rfl ?_
  refine j_aload_n C 0 dX11_laws_39 rfl ?_
  refine j_getr (o := 0) (j := 2) C inT11 (ci := 10) rfl (by decide) (rfl) rfl rfl wd_579 dX11_laws_40 (o' := 10) rfl ?_
  refine j_geti (o := 10) (j := 1) C inT10 (ci := 9) rfl (by decide) (rfl) rfl rfl wd_193 dX11_laws_43 ?_
  refine j_icmp_ge (tgt := 93) C dX11_laws_46 (by decide) (fun c1 => ?_) (fun c1 => ?_)
  · replace h := it c1 h
    refine j_aload_n C 0 dX11_laws_93 rfl ?_
    refine j_getr (o := 0) (j := 2) C inT11 (ci := 10) rfl (by decide) (rfl) rfl rfl wd_579 dX11_laws_94 (o' := 10) rfl ?_
    refine j_iload C 2 dX11_laws_97 rfl ?_
    refine j_puti (o := 10) (j := 2) C inT10 tyX10_ok nmX10 (ci := 9) rfl (by decide) (rfl) rfl rfl rfl (tyX10_ok 2 (by decide)) rfl rfl wd_194 dX11_laws_99 ?_
    refine j_iload C 3 dX11_laws_102 rfl ?_
    obtain ⟨hv, hs⟩ := s2_inj h
    subst hv
    subst hs
    exact j_iret C e dX11_laws_104
  · replace h := ie c1 h
    refine j_aload_n C 0 dX11_laws_49 rfl ?_
    refine j_getr (o := 0) (j := 2) C inT11 (ci := 10) rfl (by decide) (rfl) rfl rfl wd_579 dX11_laws_50 (o' := 10) rfl ?_
    refine j_iload C 4 dX11_laws_53 rfl ?_
    refine j_puti (o := 10) (j := 2) C inT10 tyX10_ok nmX10 (ci := 9) rfl (by decide) (rfl) rfl rfl rfl (tyX10_ok 2 (by decide)) rfl rfl wd_194 dX11_laws_55 ?_
    refine j_aload_n C 0 dX11_laws_58 rfl ?_
    refine j_getr (o := 0) (j := 5) C inT11 (ci := 10) rfl (by decide) (rfl) rfl rfl wd_582 dX11_laws_59 (o' := 41) rfl ?_
    obtain ⟨r2, s3, hc4, h⟩ := bnd_some h
    refine k_V (v := none) C vb_X2_run (ci := 2) (T := TX2) (N := 12) rfl (by decide) (c2_run _ hc4) rfl (by decide) wd_801 (rfl) rfl dX11_laws_62 ?_
    show J (ωC α) κ _ _ 65 _ [] s3
    refine j_iload C 3 dX11_laws_65 rfl ?_
    refine j_aload_n C 0 dX11_laws_67 rfl ?_
    refine j_aload_n C 1 dX11_laws_68 rfl ?_
    obtain ⟨r5, s6, hc7, h⟩ := bnd_some h
    refine k_V (v := some (.int r5)) C vb_X11_firstOtherwise (ci := 10) (T := TX11) (N := 17) rfl (by decide) (c11_firstOtherwise _ hc7) rfl (by decide) wd_924 (rfl) rfl dX11_laws_69 ?_
    show J (ωC α) κ _ _ 72 _ [.int r5, .int x5] s6
    refine j_iconst (v := -1) C dX11_laws_72 (by decide) ?_
    refine j_icmp_ne (tgt := 83) C dX11_laws_73 (by decide) (fun c8 => ?_) (fun c8 => ?_)
    · replace h := ie c8 h
      refine j_iconst (v := 0) C dX11_laws_83 (by decide) ?_
      exact j_sub [0, 1, 2, 4] rfl (b11_laws_84 C e hk37 h)
    · replace h := it c8 h
      refine j_iconst (v := 1) C dX11_laws_76 (by decide) ?_
      refine j_iload C 4 dX11_laws_77 rfl ?_
      refine j_ishl C dX11_laws_79 ?_
      refine j_goto (tgt := 84) C dX11_laws_80 (by decide) ?_
      exact j_sub [0, 1, 2, 4] rfl (b11_laws_84 C e hk37 h)
set_option maxRecDepth 10000 in
theorem c11_laws (l : Launch) {α : WA} {fu : Nat} {a1 : Int32} {σ σ' : M2} {v : Int32}  (h : F11_laws fu a1 σ = some (v, σ')) : Ct l (ωC α) yX11_laws cX11_laws 7 (some FieldType.int) 7 [.ref (wad (ωC α) 0), .int a1] σ (some (.int v)) σ' := by
  unfold F11_laws at h
  refine Ct.of (own := "EveryoneWins") (L := [(0, .ref (wad (ωC α) 0)), (1, .int a1)]) (by decide +kernel) rfl rfl rfl (fun κ hl e C => ?_)
  show J (ωC α) κ 7 7 0 [(0, .ref (wad (ωC α) 0)), (1, .int a1)] [] σ
  refine j_aload_n C 0 dX11_laws_0 rfl ?_
  refine j_iload_n C 1 dX11_laws_1 rfl ?_
  obtain ⟨r1, s2, hc3, h⟩ := bnd_some h
  cases r1 with
  | none =>
    refine k_V (v := some .null) C vb_X11_sheetAt (ci := 10) (T := TX11) (N := 17) rfl (by decide) (c11_sheetAt _ hc3) rfl (by decide) wd_912 (rfl) rfl dX11_laws_2 ?_
    show J (ωC α) κ _ _ 5 _ [.null] s2
    refine j_astore_nN (L' := [(2, .null), (0, .ref (wad (ωC α) 0)), (1, .int a1)]) C dX11_laws_5 rfl rfl rfl ?_
    refine j_aload_n C 1 dX11_laws_6 rfl ?_
    refine j_aload_nN C 0 dX11_laws_7 rfl ?_
    obtain ⟨r4, s5, hc6, h⟩ := bnd_some h
    refine k_V (v := some (.int r4)) C vb_X11_refusalOfTelling (ci := 10) (T := TX11) (N := 17) rfl (by decide) (c11_refusalOfTelling _ hc6) rfl (by decide) wd_916 (rfl) rfl dX11_laws_8 ?_
    show J (ωC α) κ _ _ 11 _ [.int r4] s5
    refine j_istore_n (L' := [(3, .int r4), (2, .null), (0, .ref (wad (ωC α) 0)), (1, .int a1)]) C dX11_laws_11 rfl rfl rfl ?_
    refine j_aload_nN C 1 dX11_laws_12 rfl ?_
    refine j_ifnullN (tgt := 20) C dX11_laws_13 (by decide) ?_
    refine j_iload_n C 0 dX11_laws_20 rfl ?_
    obtain ⟨hv, hs⟩ := s2_inj h
    subst hv
    subst hs
    exact j_iret C e dX11_laws_21
  | some q7 =>
    refine k_V (v := some (.ref (wad (ωC α) q7))) C vb_X11_sheetAt (ci := 10) (T := TX11) (N := 17) rfl (by decide) (c11_sheetAt _ hc3) rfl (by decide) wd_912 (rfl) rfl dX11_laws_2 ?_
    show J (ωC α) κ _ _ 5 _ [.ref (wad (ωC α) q7)] s2
    refine j_astore_n (L' := [(2, .ref (wad (ωC α) q7)), (0, .ref (wad (ωC α) 0)), (1, .int a1)]) C dX11_laws_5 rfl rfl rfl ?_
    refine j_aload_n C 1 dX11_laws_6 rfl ?_
    refine j_aload_n C 0 dX11_laws_7 rfl ?_
    obtain ⟨r8, s9, hc10, h⟩ := bnd_some h
    refine k_V (v := some (.int r8)) C vb_X11_refusalOfTelling (ci := 10) (T := TX11) (N := 17) rfl (by decide) (c11_refusalOfTelling _ hc10) rfl (by decide) wd_916 (rfl) rfl dX11_laws_8 ?_
    show J (ωC α) κ _ _ 11 _ [.int r8] s9
    refine j_istore_n (L' := [(3, .int r8), (2, .ref (wad (ωC α) q7)), (0, .ref (wad (ωC α) 0)), (1, .int a1)]) C dX11_laws_11 rfl rfl rfl ?_
    refine j_aload_n C 1 dX11_laws_12 rfl ?_
    refine j_ifnull C dX11_laws_13 ?_
    refine j_iload_n C 0 dX11_laws_16 rfl ?_
    refine j_if_eq (tgt := 22) C dX11_laws_17 (by decide) (fun c11 => ?_) (fun c11 => ?_)
    · replace h := it c11 h
      refine j_aload_n C 2 dX11_laws_22 rfl ?_
      refine j_getr (o := 0) (j := 2) C inT11 (ci := 10) rfl (by decide) (rfl) rfl rfl wd_579 dX11_laws_23 (o' := 10) rfl ?_
      refine j_geti (o := 10) (j := 2) C inT10 (ci := 9) rfl (by decide) (rfl) rfl rfl wd_194 dX11_laws_26 ?_
      refine j_istore (L' := [(4, .int (s9 10 2)), (3, .int r8), (2, .ref (wad (ωC α) q7)), (0, .ref (wad (ωC α) 0)), (1, .int a1)]) C dX11_laws_29 rfl rfl ?_
      refine j_iconst (v := 0) C dX11_laws_31 (by decide) ?_
      refine j_istore (L' := [(5, .int (0 : Int32)), (4, .int (s9 10 2)), (3, .int r8), (2, .ref (wad (ωC α) q7)), (0, .ref (wad (ωC α) 0)), (1, .int a1)]) C dX11_laws_32 rfl rfl ?_
      refine j_iconst (v := 0) C dX11_laws_34 (by decide) ?_
      refine j_istore (L' := [(6, .int (0 : Int32)), (5, .int (0 : Int32)), (4, .int (s9 10 2)), (3, .int r8), (2, .ref (wad (ωC α) q7)), (0, .ref (wad (ωC α) 0)), (1, .int a1)]) C dX11_laws_35 rfl rfl ?_
      exact j_sub [5, 4, 2, 1, 0] rfl (b11_laws_37 C e h)
    · replace h := ie c11 h
      refine j_iload_n C 0 dX11_laws_20 rfl ?_
      obtain ⟨hv, hs⟩ := s2_inj h
      subst hv
      subst hs
      exact j_iret C e dX11_laws_21
set_option maxRecDepth 10000 in
theorem b11_film_34 {α : WA} {κ : KT} {fu : Nat} {v : Int32} {σ' : M2} {x2 : Nat} {x3 : Int32} (C : Cx (ωC α) κ cX11_film 4 "EveryoneWins" (some FieldType.int)) (e : κ.2.2.2.2.2.2.2.2.2 = (some (.int v), σ'))  {σ : M2} (h : F11_film_34 fu x2 x3 σ = some (v, σ')) : J (ωC α) κ 7 4 34 [(0, .ref (wad (ωC α) 0)), (2, .ref (wad (ωC α) x2)), (3, .int x3)] [] σ := by
  unfold F11_film_34 at h
  refine wl1_ind (fun x3 σ => J (ωC α) κ 7 4 34 [(0, .ref (wad (ωC α) 0)), (2, .ref (wad (ωC α) x2)), (3, .int x3)] [] σ) ?_ fu x3 σ h
  intro k34 hk34 x3 σ h
  try dsimp only at h
  show J (ωC α) κ 7 4 34 [(0, .ref (wad (ωC α) 0)), (2, .ref (wad (ωC α) x2)), (3, .int x3)] [] σ
  refine j_iload_n C 2 dX11_film_34 rfl ?_
  refine j_aload_n C 0 dX11_film_35 rfl ?_
  refine j_getr (o := 0) (j := 1) C inT11 (ci := 10) rfl (by decide) (rfl) rfl rfl wd_578 dX11_film_36 (o' := 5) rfl ?_
  refine j_geti (o := 5) (j := 4) C inT5 (ci := 4) rfl (by decide) (rfl) rfl rfl wd_148 dX11_film_39 ?_
  refine j_icmp_ge (tgt := 67) C dX11_film_42 (by decide) (fun c1 => ?_) (fun c1 => ?_)
  · replace h := it c1 h
    refine j_aload_n C 0 dX11_film_67 rfl ?_
    refine j_getr (o := 0) (j := 5) C inT11 (ci := 10) rfl (by decide) (rfl) rfl rfl wd_582 dX11_film_68 (o' := 41) rfl ?_
    refine j_geti (o := 41) (j := 9) C inT2 (ci := 2) rfl (by decide) (rfl) rfl rfl wd_271 dX11_film_71 ?_
    obtain ⟨hv, hs⟩ := s2_inj h
    subst hv
    subst hs
    exact j_iret C e dX11_film_74
  · replace h := ie c1 h
    refine j_aload_n C 1 dX11_film_45 rfl ?_
    refine j_iload_n C 2 dX11_film_46 rfl ?_
    refine j_aload_n C 0 dX11_film_47 rfl ?_
    refine j_getr (o := 0) (j := 5) C inT11 (ci := 10) rfl (by decide) (rfl) rfl rfl wd_582 dX11_film_48 (o' := 41) rfl ?_
    refine j_getr (o := 41) (j := 5) C inT2 (ci := 2) rfl (by decide) (rfl) rfl rfl wd_263 dX11_film_51 (o' := 44) rfl ?_
    refine j_iload_n C 2 dX11_film_54 rfl ?_
    obtain ⟨r2, s3, hc4, h⟩ := bnd_some h
    refine k_S (v := some (.int r2)) C sb_X11_at (c11_at _ hc4) rfl (by decide) wd_661 rfl dX11_film_55 ?_
    show J (ωC α) κ _ _ 58 _ [.int r2, .int x3, .ref (wad (ωC α) x2)] s3
    obtain ⟨g5, h⟩ := gd_some h
    obtain ⟨r6, s7, hc8, h⟩ := bnd_some h
    refine k_V (v := none) C vb_X7_write (ci := 6) (T := TX7) (N := 3) rfl (by decide) (c7_write _ hc8) rfl (by decide) wd_957 (isO_sh g5) rfl dX11_film_58 ?_
    show J (ωC α) κ _ _ 61 _ [] s7
    refine j_iinc (L' := [(3, .int (x3 + 1)), (0, .ref (wad (ωC α) 0)), (2, .ref (wad (ωC α) x2))]) C 2 dX11_film_61 rfl rfl rfl rfl ?_
    refine j_goto (tgt := 34) C dX11_film_64 (by decide) ?_
    exact j_sub [1, 2, 0] rfl (hk34 _ _ h)
set_option maxRecDepth 10000 in
theorem c11_film (l : Launch) {α : WA} {fu : Nat} {a1 : Int32} {σ σ' : M2} {v : Int32}  (h : F11_film fu a1 σ = some (v, σ')) : Ct l (ωC α) yX11_film cX11_film 4 (some FieldType.int) 7 [.ref (wad (ωC α) 0), .int a1] σ (some (.int v)) σ' := by
  unfold F11_film at h
  refine Ct.of (own := "EveryoneWins") (L := [(0, .ref (wad (ωC α) 0)), (1, .int a1)]) (by decide +kernel) rfl rfl rfl (fun κ hl e C => ?_)
  show J (ωC α) κ 7 4 0 [(0, .ref (wad (ωC α) 0)), (1, .int a1)] [] σ
  refine j_aload_n C 0 dX11_film_0 rfl ?_
  refine j_iload_n C 1 dX11_film_1 rfl ?_
  obtain ⟨r1, s2, hc3, h⟩ := bnd_some h
  cases r1 with
  | none =>
    refine k_V (v := some .null) C vb_X11_sheetAt (ci := 10) (T := TX11) (N := 17) rfl (by decide) (c11_sheetAt _ hc3) rfl (by decide) wd_912 (rfl) rfl dX11_film_2 ?_
    show J (ωC α) κ _ _ 5 _ [.null] s2
    refine j_astore_nN (L' := [(2, .null), (0, .ref (wad (ωC α) 0)), (1, .int a1)]) C dX11_film_5 rfl rfl rfl ?_
    refine j_aload_nN C 0 dX11_film_6 rfl ?_
    refine j_ifnonnullN C dX11_film_7 ?_
    refine j_bipush (v := -2) C dX11_film_10 (by decide) ?_
    obtain ⟨hv, hs⟩ := s2_inj h
    subst hv
    subst hs
    exact j_iret C e dX11_film_12
  | some q4 =>
    refine k_V (v := some (.ref (wad (ωC α) q4))) C vb_X11_sheetAt (ci := 10) (T := TX11) (N := 17) rfl (by decide) (c11_sheetAt _ hc3) rfl (by decide) wd_912 (rfl) rfl dX11_film_2 ?_
    show J (ωC α) κ _ _ 5 _ [.ref (wad (ωC α) q4)] s2
    refine j_astore_n (L' := [(2, .ref (wad (ωC α) q4)), (0, .ref (wad (ωC α) 0)), (1, .int a1)]) C dX11_film_5 rfl rfl rfl ?_
    refine j_aload_n C 0 dX11_film_6 rfl ?_
    refine j_ifnonnull (tgt := 13) C dX11_film_7 (by decide) ?_
    refine j_aload_n C 1 dX11_film_13 rfl ?_
    refine j_getr (o := 0) (j := 5) C inT11 (ci := 10) rfl (by decide) (rfl) rfl rfl wd_582 dX11_film_14 (o' := 41) rfl ?_
    obtain ⟨r5, s6, hc7, h⟩ := bnd_some h
    refine k_V (v := none) C vb_X2_run (ci := 2) (T := TX2) (N := 12) rfl (by decide) (c2_run _ hc7) rfl (by decide) wd_801 (rfl) rfl dX11_film_17 ?_
    show J (ωC α) κ _ _ 20 _ [] s6
    refine j_aload_n C 0 dX11_film_20 rfl ?_
    refine j_iconst (v := 1) C dX11_film_21 (by decide) ?_
    refine j_aload_n C 1 dX11_film_22 rfl ?_
    refine j_getr (o := 0) (j := 1) C inT11 (ci := 10) rfl (by decide) (rfl) rfl rfl wd_578 dX11_film_23 (o' := 5) rfl ?_
    refine j_geti (o := 5) (j := 4) C inT5 (ci := 4) rfl (by decide) (rfl) rfl rfl wd_148 dX11_film_26 ?_
    obtain ⟨g8, h⟩ := gd_some h
    obtain ⟨r9, s10, hc11, h⟩ := bnd_some h
    refine k_V (v := none) C vb_X7_become (ci := 6) (T := TX7) (N := 3) rfl (by decide) (c7_become _ hc11) rfl (by decide) wd_953 (isO_sh g8) rfl dX11_film_29 ?_
    show J (ωC α) κ _ _ 32 _ [] s10
    refine j_iconst (v := 0) C dX11_film_32 (by decide) ?_
    refine j_istore_n (L' := [(3, .int (0 : Int32)), (2, .ref (wad (ωC α) q4)), (0, .ref (wad (ωC α) 0)), (1, .int a1)]) C dX11_film_33 rfl rfl rfl ?_
    exact j_sub [2, 1, 0] rfl (b11_film_34 C e h)
set_option maxRecDepth 10000 in
theorem c11_keepLuck (l : Launch) {α : WA} {fu : Nat}  {σ σ' : M2}  (h : F11_keepLuck fu σ = some ((), σ')) : Ct l (ωC α) yX11_keepLuck cX11_keepLuck 1 (none) 2 [.ref (wad (ωC α) 0)] σ (none) σ' := by
  unfold F11_keepLuck at h
  refine Ct.of (own := "EveryoneWins") (L := [(0, .ref (wad (ωC α) 0))]) (by decide +kernel) rfl rfl rfl (fun κ hl e C => ?_)
  show J (ωC α) κ 2 1 0 [(0, .ref (wad (ωC α) 0))] [] σ
  refine j_aload_n C 0 dX11_keepLuck_0 rfl ?_
  refine j_getr (o := 0) (j := 0) C inT11 (ci := 10) rfl (by decide) (rfl) rfl rfl wd_577 dX11_keepLuck_1 (o' := 1) rfl ?_
  refine j_getr (o := 1) (j := 1) C inT1 (ci := 1) rfl (by decide) (rfl) rfl rfl wd_112 dX11_keepLuck_4 (o' := 3) rfl ?_
  refine j_aload_n C 0 dX11_keepLuck_7 rfl ?_
  refine j_getr (o := 0) (j := 9) C inT11 (ci := 10) rfl (by decide) (rfl) rfl rfl wd_586 dX11_keepLuck_8 (o' := 67) rfl ?_
  obtain ⟨r1, s2, hc3, h⟩ := bnd_some h
  refine k_S (v := none) C sb_X11_copyRow (c11_copyRow _ hc3) rfl (by decide) wd_971 rfl dX11_keepLuck_11 ?_
  show J (ωC α) κ _ _ 14 _ [] s2
  obtain ⟨-, hs⟩ := s2_inj h
  subst hs
  exact j_vret C e dX11_keepLuck_14
set_option maxRecDepth 10000 in
theorem b11_runByLots_8 {α : WA} {κ : KT} {fu : Nat} {σ' : M2} {x2 : Int64} {x4 : Int32} (C : Cx (ωC α) κ cX11_runByLots 5 "EveryoneWins" (none)) (e : κ.2.2.2.2.2.2.2.2.2 = (none, σ'))  {σ : M2} (h : F11_runByLots_8 fu x2 x4 σ = some ((), σ')) : J (ωC α) κ 7 5 8 [(0, .ref (wad (ωC α) 0)), (2, .long x2), (4, .int x4)] [] σ := by
  unfold F11_runByLots_8 at h
  refine wl2_ind (fun x2 x4 σ => J (ωC α) κ 7 5 8 [(0, .ref (wad (ωC α) 0)), (2, .long x2), (4, .int x4)] [] σ) ?_ fu x2 x4 σ h
  intro k8 hk8 x2 x4 σ h
  try dsimp only at h
  show J (ωC α) κ 7 5 8 [(0, .ref (wad (ωC α) 0)), (2, .long x2), (4, .int x4)] [] σ
  refine j_iload C 2 dX11_runByLots_8 rfl ?_
  refine j_aload_n C 0 dX11_runByLots_10 rfl ?_
  refine j_getr (o := 0) (j := 0) C inT11 (ci := 10) rfl (by decide) (rfl) rfl rfl wd_577 dX11_runByLots_11 (o' := 1) rfl ?_
  refine j_geti (o := 1) (j := 3) C inT1 (ci := 1) rfl (by decide) (rfl) rfl rfl wd_117 dX11_runByLots_14 ?_
  refine j_icmp_ge (tgt := 54) C dX11_runByLots_17 (by decide) (fun c1 => ?_) (fun c1 => ?_)
  · replace h := it c1 h
    refine j_aload_n C 0 dX11_runByLots_54 rfl ?_
    refine j_getr (o := 0) (j := 5) C inT11 (ci := 10) rfl (by decide) (rfl) rfl rfl wd_582 dX11_runByLots_55 (o' := 41) rfl ?_
    obtain ⟨r2, s3, hc4, h⟩ := bnd_some h
    refine k_V (v := none) C vb_X2_run (ci := 2) (T := TX2) (N := 12) rfl (by decide) (c2_run _ hc4) rfl (by decide) wd_801 (rfl) rfl dX11_runByLots_58 ?_
    show J (ωC α) κ _ _ 61 _ [] s3
    obtain ⟨-, hs⟩ := s2_inj h
    subst hs
    exact j_vret C e dX11_runByLots_61
  · replace h := ie c1 h
    refine j_lload_n C 1 dX11_runByLots_20 rfl ?_
    refine j_ldc2_w (v := 48271) C wd_976 dX11_runByLots_21 ?_
    refine j_lmul C dX11_runByLots_24 ?_
    refine j_ldc2_w (v := 2147483647) C wd_977 dX11_runByLots_25 ?_
    refine j_lrem C dX11_runByLots_28 (by decide) ?_
    refine j_lstore_n (L' := [(2, .long ((x2 * (48271 : Int64)) - (x2 * (48271 : Int64)) / (2147483647 : Int64) * (2147483647 : Int64))), (0, .ref (wad (ωC α) 0)), (4, .int x4)]) C dX11_runByLots_29 rfl rfl rfl ?_
    refine j_aload_n C 1 dX11_runByLots_30 rfl ?_
    refine j_getr (o := 0) (j := 0) C inT11 (ci := 10) rfl (by decide) (rfl) rfl rfl wd_577 dX11_runByLots_31 (o' := 1) rfl ?_
    refine j_getr (o := 1) (j := 1) C inT1 (ci := 1) rfl (by decide) (rfl) rfl rfl wd_112 dX11_runByLots_34 (o' := 3) rfl ?_
    refine j_iload C 2 dX11_runByLots_37 rfl ?_
    refine j_lload_n C 0 dX11_runByLots_39 rfl ?_
    refine j_ldc2_w (v := 100) C wd_978 dX11_runByLots_40 ?_
    refine j_lrem C dX11_runByLots_43 (by decide) ?_
    refine j_l2i C dX11_runByLots_44 ?_
    obtain ⟨r5, s6, hc7, h⟩ := bnd_some h
    refine k_S (v := none) C sb_X11_set (c11_set _ hc7) rfl (by decide) wd_662 rfl dX11_runByLots_45 ?_
    show J (ωC α) κ _ _ 48 _ [] s6
    refine j_iinc (L' := [(4, .int (x4 + 1)), (2, .long ((x2 * (48271 : Int64)) - (x2 * (48271 : Int64)) / (2147483647 : Int64) * (2147483647 : Int64))), (0, .ref (wad (ωC α) 0))]) C 2 dX11_runByLots_48 rfl rfl rfl rfl ?_
    refine j_goto (tgt := 8) C dX11_runByLots_51 (by decide) ?_
    exact j_sub [2, 1, 0] rfl (hk8 _ _ _ h)
set_option maxRecDepth 10000 in
theorem c11_runByLots (l : Launch) {α : WA} {fu : Nat} {a1 : Int32} {σ σ' : M2}  (h : F11_runByLots fu a1 σ = some ((), σ')) : Ct l (ωC α) yX11_runByLots cX11_runByLots 5 (none) 7 [.ref (wad (ωC α) 0), .int a1] σ (none) σ' := by
  unfold F11_runByLots at h
  refine Ct.of (own := "EveryoneWins") (L := [(0, .ref (wad (ωC α) 0)), (1, .int a1)]) (by decide +kernel) rfl rfl rfl (fun κ hl e C => ?_)
  show J (ωC α) κ 7 5 0 [(0, .ref (wad (ωC α) 0)), (1, .int a1)] [] σ
  refine j_iload_n C 1 dX11_runByLots_0 rfl ?_
  refine j_iconst (v := 1) C dX11_runByLots_1 (by decide) ?_
  refine j_iadd C dX11_runByLots_2 ?_
  refine j_i2l C dX11_runByLots_3 ?_
  refine j_lstore_n (L' := [(2, .long ((a1 + (1 : Int32)).toInt64)), (0, .ref (wad (ωC α) 0)), (1, .int a1)]) C dX11_runByLots_4 rfl rfl rfl ?_
  refine j_iconst (v := 0) C dX11_runByLots_5 (by decide) ?_
  refine j_istore (L' := [(4, .int (0 : Int32)), (2, .long ((a1 + (1 : Int32)).toInt64)), (0, .ref (wad (ωC α) 0)), (1, .int a1)]) C dX11_runByLots_6 rfl rfl ?_
  exact j_sub [2, 1, 0] rfl (b11_runByLots_8 C e h)
set_option maxRecDepth 10000 in
theorem c11_bringLuckBack (l : Launch) {α : WA} {fu : Nat}  {σ σ' : M2}  (h : F11_bringLuckBack fu σ = some ((), σ')) : Ct l (ωC α) yX11_bringLuckBack cX11_bringLuckBack 1 (none) 2 [.ref (wad (ωC α) 0)] σ (none) σ' := by
  unfold F11_bringLuckBack at h
  refine Ct.of (own := "EveryoneWins") (L := [(0, .ref (wad (ωC α) 0))]) (by decide +kernel) rfl rfl rfl (fun κ hl e C => ?_)
  show J (ωC α) κ 2 1 0 [(0, .ref (wad (ωC α) 0))] [] σ
  refine j_aload_n C 0 dX11_bringLuckBack_0 rfl ?_
  refine j_getr (o := 0) (j := 9) C inT11 (ci := 10) rfl (by decide) (rfl) rfl rfl wd_586 dX11_bringLuckBack_1 (o' := 67) rfl ?_
  refine j_aload_n C 0 dX11_bringLuckBack_4 rfl ?_
  refine j_getr (o := 0) (j := 0) C inT11 (ci := 10) rfl (by decide) (rfl) rfl rfl wd_577 dX11_bringLuckBack_5 (o' := 1) rfl ?_
  refine j_getr (o := 1) (j := 1) C inT1 (ci := 1) rfl (by decide) (rfl) rfl rfl wd_112 dX11_bringLuckBack_8 (o' := 3) rfl ?_
  obtain ⟨r1, s2, hc3, h⟩ := bnd_some h
  refine k_S (v := none) C sb_X11_copyRow (c11_copyRow _ hc3) rfl (by decide) wd_971 rfl dX11_bringLuckBack_11 ?_
  show J (ωC α) κ _ _ 14 _ [] s2
  obtain ⟨-, hs⟩ := s2_inj h
  subst hs
  exact j_vret C e dX11_bringLuckBack_14
set_option maxRecDepth 10000 in
theorem c11_drawn (l : Launch) {α : WA} {fu : Nat} {a1 : Int32} {a2 : Int32} {σ σ' : M2} {v : Int32}  (h : F11_drawn fu a1 a2 σ = some (v, σ')) : Ct l (ωC α) yX11_drawn cX11_drawn 3 (some FieldType.int) 8 [.ref (wad (ωC α) 0), .int a1, .int a2] σ (some (.int v)) σ' := by
  unfold F11_drawn at h
  refine Ct.of (own := "EveryoneWins") (L := [(0, .ref (wad (ωC α) 0)), (1, .int a1), (2, .int a2)]) (by decide +kernel) rfl rfl rfl (fun κ hl e C => ?_)
  show J (ωC α) κ 8 3 0 [(0, .ref (wad (ωC α) 0)), (1, .int a1), (2, .int a2)] [] σ
  refine j_iload_n C 1 dX11_drawn_0 rfl ?_
  refine j_iconst (v := 0) C dX11_drawn_1 (by decide) ?_
  refine j_ldc_w (v := 99999) C wd_966 dX11_drawn_2 ?_
  obtain ⟨r1, s2, hc3, h⟩ := bnd_some h
  refine k_S (v := some (.int r1)) C sb_X11_within (c11_within _ hc3) rfl (by decide) wd_638 rfl dX11_drawn_5 ?_
  show J (ωC α) κ _ _ 8 _ [.int r1] s2
  refine j_if_eq (tgt := 20) C dX11_drawn_8 (by decide) (fun c4 => ?_) (fun c4 => ?_)
  · replace h := it c4 h
    refine j_sipush (v := -1000) C dX11_drawn_20 (by decide) ?_
    obtain ⟨hv, hs⟩ := s2_inj h
    subst hv
    subst hs
    exact j_iret C e dX11_drawn_23
  · replace h := ie c4 h
    refine j_iload_n C 2 dX11_drawn_11 rfl ?_
    refine j_iconst (v := 0) C dX11_drawn_12 (by decide) ?_
    refine j_iconst (v := 1) C dX11_drawn_13 (by decide) ?_
    obtain ⟨r5, s6, hc7, h⟩ := bnd_some h
    refine k_S (v := some (.int r5)) C sb_X11_within (c11_within _ hc7) rfl (by decide) wd_638 rfl dX11_drawn_14 ?_
    show J (ωC α) κ _ _ 17 _ [.int r5] s6
    refine j_if_ne (tgt := 24) C dX11_drawn_17 (by decide) (fun c8 => ?_) (fun c8 => ?_)
    · replace h := ie c8 h
      refine j_aload_n C 0 dX11_drawn_24 rfl ?_
      obtain ⟨r9, s10, hc11, h⟩ := bnd_some h
      refine k_V (v := none) C vb_X11_keepLuck (ci := 10) (T := TX11) (N := 17) rfl (by decide) (c11_keepLuck _ hc11) rfl (by decide) wd_967 (rfl) rfl dX11_drawn_25 ?_
      show J (ωC α) κ _ _ 28 _ [] s10
      refine j_aload_n C 0 dX11_drawn_28 rfl ?_
      refine j_iload_n C 1 dX11_drawn_29 rfl ?_
      obtain ⟨r12, s13, hc14, h⟩ := bnd_some h
      refine k_V (v := none) C vb_X11_runByLots (ci := 10) (T := TX11) (N := 17) rfl (by decide) (c11_runByLots _ hc14) rfl (by decide) wd_972 (rfl) rfl dX11_drawn_30 ?_
      show J (ωC α) κ _ _ 33 _ [] s13
      refine j_aload_n C 0 dX11_drawn_33 rfl ?_
      obtain ⟨r15, s16, hc17, h⟩ := bnd_some h
      refine k_V (v := none) C vb_X11_bringLuckBack (ci := 10) (T := TX11) (N := 17) rfl (by decide) (c11_bringLuckBack _ hc17) rfl (by decide) wd_979 (rfl) rfl dX11_drawn_34 ?_
      show J (ωC α) κ _ _ 37 _ [] s16
      refine j_iload_n C 2 dX11_drawn_37 rfl ?_
      refine j_if_ne (tgt := 51) C dX11_drawn_38 (by decide) (fun c18 => ?_) (fun c18 => ?_)
      · replace h := ie c18 h
        refine j_aload_n C 0 dX11_drawn_51 rfl ?_
        refine j_getr (o := 0) (j := 5) C inT11 (ci := 10) rfl (by decide) (rfl) rfl rfl wd_582 dX11_drawn_52 (o' := 41) rfl ?_
        refine j_geti (o := 41) (j := 8) C inT2 (ci := 2) rfl (by decide) (rfl) rfl rfl wd_269 dX11_drawn_55 ?_
        obtain ⟨hv, hs⟩ := s2_inj h
        subst hv
        subst hs
        exact j_iret C e dX11_drawn_58
      · replace h := it c18 h
        refine j_aload_n C 0 dX11_drawn_41 rfl ?_
        refine j_getr (o := 0) (j := 5) C inT11 (ci := 10) rfl (by decide) (rfl) rfl rfl wd_582 dX11_drawn_42 (o' := 41) rfl ?_
        refine j_geti (o := 41) (j := 10) C inT2 (ci := 2) rfl (by decide) (rfl) rfl rfl wd_274 dX11_drawn_45 ?_
        refine j_goto (tgt := 58) C dX11_drawn_48 (by decide) ?_
        obtain ⟨hv, hs⟩ := s2_inj h
        subst hv
        subst hs
        exact j_iret C e dX11_drawn_58
    · replace h := it c8 h
      refine j_sipush (v := -1000) C dX11_drawn_20 (by decide) ?_
      obtain ⟨hv, hs⟩ := s2_inj h
      subst hv
      subst hs
      exact j_iret C e dX11_drawn_23
set_option maxRecDepth 10000 in
theorem b11_commonDivisor_7 {α : WA} {κ : KT} {fu : Nat} {v : Int32} {σ' : M2} {x1 : Int32} {x2 : Int32} {x3 : Int32} {x4 : Int32} (C : Cx (ωC α) κ cX11_commonDivisor 6 "EveryoneWins" (some FieldType.int)) (e : κ.2.2.2.2.2.2.2.2.2 = (some (.int v), σ'))  {σ : M2} (h : F11_commonDivisor_7 fu x1 x2 x3 x4 σ = some (v, σ')) : J (ωC α) κ 1 6 7 [(1, .int x1), (2, .int x2), (3, .int x3), (4, .int x4)] [] σ := by
  unfold F11_commonDivisor_7 at h
  refine wl3_ind (fun x2 x3 x4 σ => J (ωC α) κ 1 6 7 [(1, .int x1), (2, .int x2), (3, .int x3), (4, .int x4)] [] σ) ?_ fu x2 x3 x4 σ h
  intro k7 hk7 x2 x3 x4 σ h
  try dsimp only at h
  show J (ωC α) κ 1 6 7 [(1, .int x1), (2, .int x2), (3, .int x3), (4, .int x4)] [] σ
  refine j_iload C 3 dX11_commonDivisor_7 rfl ?_
  refine j_iload_n C 0 dX11_commonDivisor_9 rfl ?_
  refine j_icmp_ge (tgt := 33) C dX11_commonDivisor_10 (by decide) (fun c1 => ?_) (fun c1 => ?_)
  · replace h := it c1 h
    refine j_iload_n C 1 dX11_commonDivisor_33 rfl ?_
    obtain ⟨hv, hs⟩ := s2_inj h
    subst hv
    subst hs
    exact j_iret C e dX11_commonDivisor_34
  · replace h := ie c1 h
    refine j_iload_n C 2 dX11_commonDivisor_13 rfl ?_
    refine j_if_eq (tgt := 33) C dX11_commonDivisor_14 (by decide) (fun c2 => ?_) (fun c2 => ?_)
    · replace h := it c2 h
      refine j_iload_n C 1 dX11_commonDivisor_33 rfl ?_
      obtain ⟨hv, hs⟩ := s2_inj h
      subst hv
      subst hs
      exact j_iret C e dX11_commonDivisor_34
    · replace h := ie c2 h
      refine j_iload_n C 1 dX11_commonDivisor_17 rfl ?_
      refine j_iload_n C 2 dX11_commonDivisor_18 rfl ?_
      obtain ⟨g3, h⟩ := gd_some h
      refine j_irem C dX11_commonDivisor_19 (of_decide_eq_true g3) ?_
      refine j_istore (L' := [(5, .int (x2 - x2 / x3 * x3)), (1, .int x1), (2, .int x2), (3, .int x3), (4, .int x4)]) C dX11_commonDivisor_20 rfl rfl ?_
      refine j_iload_n C 3 dX11_commonDivisor_22 rfl ?_
      refine j_istore_n (L' := [(2, .int x3), (5, .int (x2 - x2 / x3 * x3)), (1, .int x1), (3, .int x3), (4, .int x4)]) C dX11_commonDivisor_23 rfl rfl rfl ?_
      refine j_iload C 1 dX11_commonDivisor_24 rfl ?_
      refine j_istore_n (L' := [(3, .int (x2 - x2 / x3 * x3)), (2, .int x3), (5, .int (x2 - x2 / x3 * x3)), (1, .int x1), (4, .int x4)]) C dX11_commonDivisor_26 rfl rfl rfl ?_
      refine j_iinc (L' := [(4, .int (x4 + 1)), (3, .int (x2 - x2 / x3 * x3)), (2, .int x3), (5, .int (x2 - x2 / x3 * x3)), (1, .int x1)]) C 4 dX11_commonDivisor_27 rfl rfl rfl rfl ?_
      refine j_goto (tgt := 7) C dX11_commonDivisor_30 (by decide) ?_
      exact j_sub [4, 2, 1, 0] rfl (hk7 _ _ _ _ h)
set_option maxRecDepth 10000 in
theorem c11_commonDivisor (l : Launch) {α : WA} {fu : Nat} {a1 : Int32} {a2 : Int32} {σ σ' : M2} {v : Int32}  (h : F11_commonDivisor fu a1 a2 σ = some (v, σ')) : Ct l (ωC α) yX11_commonDivisor cX11_commonDivisor 6 (some FieldType.int) 1 [.int a1, .int a2] σ (some (.int v)) σ' := by
  unfold F11_commonDivisor at h
  refine Ct.of (own := "EveryoneWins") (L := [(0, .int a1), (1, .int a2)]) (by decide +kernel) rfl rfl rfl (fun κ hl e C => ?_)
  show J (ωC α) κ 1 6 0 [(0, .int a1), (1, .int a2)] [] σ
  refine j_iload_n C 0 dX11_commonDivisor_0 rfl ?_
  refine j_istore_n (L' := [(2, .int a1), (0, .int a1), (1, .int a2)]) C dX11_commonDivisor_1 rfl rfl rfl ?_
  refine j_iload_n C 2 dX11_commonDivisor_2 rfl ?_
  refine j_istore_n (L' := [(3, .int a2), (2, .int a1), (0, .int a1), (1, .int a2)]) C dX11_commonDivisor_3 rfl rfl rfl ?_
  refine j_iconst (v := 0) C dX11_commonDivisor_4 (by decide) ?_
  refine j_istore (L' := [(4, .int (0 : Int32)), (3, .int a2), (2, .int a1), (0, .int a1), (1, .int a2)]) C dX11_commonDivisor_5 rfl rfl ?_
  exact j_sub [4, 2, 1, 0] rfl (b11_commonDivisor_7 C e h)
set_option maxRecDepth 10000 in
theorem b11_odds_143 {α : WA} {κ : KT} {fu : Nat} {v : Int64} {σ' : M2} {x7 : Int32} {y0 : Int32} (C : Cx (ωC α) κ cX11_odds 8 "EveryoneWins" (some FieldType.long)) (e : κ.2.2.2.2.2.2.2.2.2 = (some (.long v), σ'))  {σ : M2} (h : F11_odds_143 fu x7 y0 σ = some (v, σ')) : J (ωC α) κ 8 8 143 [(7, .int x7)] [.int y0] σ := by
  unfold F11_odds_143 at h
  refine j_iload C 0 dX11_odds_143 rfl ?_
  obtain ⟨g1, h⟩ := gd_some h
  refine j_idiv C dX11_odds_145 (of_decide_eq_true g1) ?_
  refine j_i2l C dX11_odds_146 ?_
  obtain ⟨hv, hs⟩ := s2_inj h
  subst hv
  subst hs
  exact j_lret C e dX11_odds_147
set_option maxRecDepth 10000 in
theorem b11_odds_99 {α : WA} {κ : KT} {fu : Nat} {v : Int64} {σ' : M2} {x1 : Int32} {x2 : Int32} {x3 : Int32} {x4 : Int32} {x7 : Int32} {y0 : Int32} {y1 : Int32} (C : Cx (ωC α) κ cX11_odds 8 "EveryoneWins" (some FieldType.long)) (e : κ.2.2.2.2.2.2.2.2.2 = (some (.long v), σ')) {k67 : Int32 → Int32 → M2 → Option (Int64 × M2)} (hk67 : ∀ (x6' : Int32) (x7' : Int32) (σ : M2), k67 x6' x7' σ = some (v, σ') → J (ωC α) κ 8 8 67 [(0, .ref (wad (ωC α) 0)), (1, .int x1), (2, .int x2), (3, .int x3), (4, .int x4), (6, .int x6'), (7, .int x7')] [] σ) {σ : M2} (h : F11_odds_99 fu k67 x1 x2 x3 x4 x7 y0 y1 σ = some (v, σ')) : J (ωC α) κ 8 8 99 [(0, .ref (wad (ωC α) 0)), (1, .int x1), (2, .int x2), (3, .int x3), (4, .int x4), (7, .int x7)] [.int y0, .int y1] σ := by
  unfold F11_odds_99 at h
  refine j_iadd C dX11_odds_99 ?_
  refine j_istore (L' := [(6, .int (y1 + y0)), (0, .ref (wad (ωC α) 0)), (1, .int x1), (2, .int x2), (3, .int x3), (4, .int x4), (7, .int x7)]) C dX11_odds_100 rfl rfl ?_
  refine j_iinc (L' := [(7, .int (x7 + 1)), (6, .int (y1 + y0)), (0, .ref (wad (ωC α) 0)), (1, .int x1), (2, .int x2), (3, .int x3), (4, .int x4)]) C 6 dX11_odds_102 rfl rfl rfl rfl ?_
  refine j_goto (tgt := 67) C dX11_odds_105 (by decide) ?_
  exact j_sub [2, 3, 4, 5, 6, 1, 0] rfl (hk67 _ _ _ h)
set_option maxRecDepth 10000 in
theorem b11_odds_67 {α : WA} {κ : KT} {fu : Nat} {v : Int64} {σ' : M2} {x1 : Int32} {x2 : Int32} {x3 : Int32} {x4 : Int32} {x6 : Int32} {x7 : Int32} (C : Cx (ωC α) κ cX11_odds 8 "EveryoneWins" (some FieldType.long)) (e : κ.2.2.2.2.2.2.2.2.2 = (some (.long v), σ'))  {σ : M2} (h : F11_odds_67 fu x1 x2 x3 x4 x6 x7 σ = some (v, σ')) : J (ωC α) κ 8 8 67 [(0, .ref (wad (ωC α) 0)), (1, .int x1), (2, .int x2), (3, .int x3), (4, .int x4), (6, .int x6), (7, .int x7)] [] σ := by
  unfold F11_odds_67 at h
  refine wl2_ind (fun x6 x7 σ => J (ωC α) κ 8 8 67 [(0, .ref (wad (ωC α) 0)), (1, .int x1), (2, .int x2), (3, .int x3), (4, .int x4), (6, .int x6), (7, .int x7)] [] σ) ?_ fu x6 x7 σ h
  intro k67 hk67 x6 x7 σ h
  try dsimp only at h
  show J (ωC α) κ 8 8 67 [(0, .ref (wad (ωC α) 0)), (1, .int x1), (2, .int x2), (3, .int x3), (4, .int x4), (6, .int x6), (7, .int x7)] [] σ
  refine j_iload C 6 dX11_odds_67 rfl ?_
  refine j_iload_n C 2 dX11_odds_69 rfl ?_
  refine j_icmp_ge (tgt := 108) C dX11_odds_70 (by decide) (fun c1 => ?_) (fun c1 => ?_)
  · replace h := it c1 h
    refine j_aload_n C 0 dX11_odds_108 rfl ?_
    obtain ⟨r2, s3, hc4, h⟩ := bnd_some h
    refine k_V (v := none) C vb_X11_bringLuckBack (ci := 10) (T := TX11) (N := 17) rfl (by decide) (c11_bringLuckBack _ hc4) rfl (by decide) wd_979 (rfl) rfl dX11_odds_109 ?_
    show J (ωC α) κ _ _ 112 _ [] s3
    refine j_iload C 5 dX11_odds_112 rfl ?_
    refine j_iload_n C 2 dX11_odds_114 rfl ?_
    obtain ⟨r5, s6, hc7, h⟩ := bnd_some h
    refine k_S (v := some (.int r5)) C sb_X11_commonDivisor (c11_commonDivisor _ hc7) rfl (by decide) wd_988 rfl dX11_odds_115 ?_
    show J (ωC α) κ _ _ 118 _ [.int r5] s6
    refine j_istore (L' := [(7, .int r5), (0, .ref (wad (ωC α) 0)), (1, .int x1), (2, .int x2), (3, .int x3), (4, .int x4), (6, .int x6)]) C dX11_odds_118 rfl rfl ?_
    refine j_iload C 0 dX11_odds_120 rfl ?_
    refine j_iconst (v := 1) C dX11_odds_122 (by decide) ?_
    refine j_icmp_ge (tgt := 132) C dX11_odds_123 (by decide) (fun c8 => ?_) (fun c8 => ?_)
    · replace h := it c8 h
      refine j_iload C 5 dX11_odds_132 rfl ?_
      refine j_if_ne (tgt := 142) C dX11_odds_134 (by decide) (fun c9 => ?_) (fun c9 => ?_)
      · replace h := ie c9 h
        refine j_iload_n C 3 dX11_odds_142 rfl ?_
        exact j_sub [0] rfl (b11_odds_143 C e h)
      · replace h := it c9 h
        refine j_iload C 6 dX11_odds_137 rfl ?_
        refine j_goto (tgt := 143) C dX11_odds_139 (by decide) ?_
        exact j_sub [0] rfl (b11_odds_143 C e h)
    · replace h := ie c8 h
      refine j_ldc2_w (v := -4611686018427387904) C wd_987 dX11_odds_126 ?_
      refine j_goto (tgt := 147) C dX11_odds_129 (by decide) ?_
      obtain ⟨hv, hs⟩ := s2_inj h
      subst hv
      subst hs
      exact j_lret C e dX11_odds_147
  · replace h := ie c1 h
    refine j_aload_n C 0 dX11_odds_73 rfl ?_
    refine j_iload_n C 1 dX11_odds_74 rfl ?_
    refine j_iload C 6 dX11_odds_75 rfl ?_
    refine j_iadd C dX11_odds_77 ?_
    obtain ⟨r10, s11, hc12, h⟩ := bnd_some h
    refine k_V (v := none) C vb_X11_runByLots (ci := 10) (T := TX11) (N := 17) rfl (by decide) (c11_runByLots _ hc12) rfl (by decide) wd_972 (rfl) rfl dX11_odds_78 ?_
    show J (ωC α) κ _ _ 81 _ [] s11
    refine j_iload C 5 dX11_odds_81 rfl ?_
    refine j_aload_n C 0 dX11_odds_83 rfl ?_
    refine j_getr (o := 0) (j := 5) C inT11 (ci := 10) rfl (by decide) (rfl) rfl rfl wd_582 dX11_odds_84 (o' := 41) rfl ?_
    refine j_geti (o := 41) (j := 10) C inT2 (ci := 2) rfl (by decide) (rfl) rfl rfl wd_274 dX11_odds_87 ?_
    refine j_iload_n C 3 dX11_odds_90 rfl ?_
    refine j_icmp_gt (tgt := 98) C dX11_odds_91 (by decide) (fun c13 => ?_) (fun c13 => ?_)
    · replace h := it c13 h
      refine j_iconst (v := 0) C dX11_odds_98 (by decide) ?_
      exact j_sub [0, 1, 2, 3, 4, 6] rfl (b11_odds_99 C e hk67 h)
    · replace h := ie c13 h
      refine j_iconst (v := 1) C dX11_odds_94 (by decide) ?_
      refine j_goto (tgt := 99) C dX11_odds_95 (by decide) ?_
      exact j_sub [0, 1, 2, 3, 4, 6] rfl (b11_odds_99 C e hk67 h)
set_option maxRecDepth 10000 in
theorem b11_odds_46 {α : WA} {κ : KT} {fu : Nat} {v : Int64} {σ' : M2} {x1 : Int32} {x2 : Int32} {x3 : Int32} {x4 : Int32} {y0 : Int32} (C : Cx (ωC α) κ cX11_odds 8 "EveryoneWins" (some FieldType.long)) (e : κ.2.2.2.2.2.2.2.2.2 = (some (.long v), σ'))  {σ : M2} (h : F11_odds_46 fu x1 x2 x3 x4 y0 σ = some (v, σ')) : J (ωC α) κ 8 8 46 [(0, .ref (wad (ωC α) 0)), (1, .int x1), (2, .int x2), (3, .int x3), (4, .int x4)] [.int y0] σ := by
  unfold F11_odds_46 at h
  refine j_istore (L' := [(5, .int y0), (0, .ref (wad (ωC α) 0)), (1, .int x1), (2, .int x2), (3, .int x3), (4, .int x4)]) C dX11_odds_46 rfl rfl ?_
  refine j_iload C 0 dX11_odds_48 rfl ?_
  refine j_if_ne (tgt := 57) C dX11_odds_50 (by decide) (fun c1 => ?_) (fun c1 => ?_)
  · replace h := ie c1 h
    refine j_aload_n C 1 dX11_odds_57 rfl ?_
    obtain ⟨r2, s3, hc4, h⟩ := bnd_some h
    refine k_V (v := none) C vb_X11_keepLuck (ci := 10) (T := TX11) (N := 17) rfl (by decide) (c11_keepLuck _ hc4) rfl (by decide) wd_967 (rfl) rfl dX11_odds_58 ?_
    show J (ωC α) κ _ _ 61 _ [] s3
    refine j_iconst (v := 0) C dX11_odds_61 (by decide) ?_
    refine j_istore (L' := [(6, .int (0 : Int32)), (5, .int y0), (0, .ref (wad (ωC α) 0)), (1, .int x1), (2, .int x2), (3, .int x3), (4, .int x4)]) C dX11_odds_62 rfl rfl ?_
    refine j_iconst (v := 0) C dX11_odds_64 (by decide) ?_
    refine j_istore (L' := [(7, .int (0 : Int32)), (6, .int (0 : Int32)), (5, .int y0), (0, .ref (wad (ωC α) 0)), (1, .int x1), (2, .int x2), (3, .int x3), (4, .int x4)]) C dX11_odds_65 rfl rfl ?_
    exact j_sub [3, 4, 5, 6, 7, 1, 0] rfl (b11_odds_67 C e h)
  · replace h := it c1 h
    refine j_ldc2_w (v := -4611686018427387904) C wd_987 dX11_odds_53 ?_
    obtain ⟨hv, hs⟩ := s2_inj h
    subst hv
    subst hs
    exact j_lret C e dX11_odds_56
set_option maxRecDepth 10000 in
theorem b11_odds_45 {α : WA} {κ : KT} {fu : Nat} {v : Int64} {σ' : M2} {x1 : Int32} {x2 : Int32} {x3 : Int32} {x4 : Int32} (C : Cx (ωC α) κ cX11_odds 8 "EveryoneWins" (some FieldType.long)) (e : κ.2.2.2.2.2.2.2.2.2 = (some (.long v), σ'))  {σ : M2} (h : F11_odds_45 fu x1 x2 x3 x4 σ = some (v, σ')) : J (ωC α) κ 8 8 45 [(0, .ref (wad (ωC α) 0)), (1, .int x1), (2, .int x2), (3, .int x3), (4, .int x4)] [] σ := by
  unfold F11_odds_45 at h
  refine j_iconst (v := 0) C dX11_odds_45 (by decide) ?_
  exact (b11_odds_46 C e h)
set_option maxRecDepth 10000 in
theorem c11_odds (l : Launch) {α : WA} {fu : Nat} {a1 : Int32} {a2 : Int32} {a3 : Int32} {a4 : Int32} {σ σ' : M2} {v : Int64}  (h : F11_odds fu a1 a2 a3 a4 σ = some (v, σ')) : Ct l (ωC α) yX11_odds cX11_odds 8 (some FieldType.long) 8 [.ref (wad (ωC α) 0), .int a1, .int a2, .int a3, .int a4] σ (some (.long v)) σ' := by
  unfold F11_odds at h
  refine Ct.of (own := "EveryoneWins") (L := [(0, .ref (wad (ωC α) 0)), (1, .int a1), (2, .int a2), (3, .int a3), (4, .int a4)]) (by decide +kernel) rfl rfl rfl (fun κ hl e C => ?_)
  show J (ωC α) κ 8 8 0 [(0, .ref (wad (ωC α) 0)), (1, .int a1), (2, .int a2), (3, .int a3), (4, .int a4)] [] σ
  refine j_iload_n C 1 dX11_odds_0 rfl ?_
  refine j_iconst (v := 0) C dX11_odds_1 (by decide) ?_
  refine j_ldc_w (v := 99999) C wd_966 dX11_odds_2 ?_
  obtain ⟨r1, s2, hc3, h⟩ := bnd_some h
  refine k_S (v := some (.int r1)) C sb_X11_within (c11_within _ hc3) rfl (by decide) wd_638 rfl dX11_odds_5 ?_
  show J (ωC α) κ _ _ 8 _ [.int r1] s2
  refine j_if_eq (tgt := 45) C dX11_odds_8 (by decide) (fun c4 => ?_) (fun c4 => ?_)
  · replace h := it c4 h
    exact (b11_odds_45 C e h)
  · replace h := ie c4 h
    refine j_iload_n C 2 dX11_odds_11 rfl ?_
    refine j_iconst (v := 1) C dX11_odds_12 (by decide) ?_
    refine j_bipush (v := 60) C dX11_odds_13 (by decide) ?_
    obtain ⟨r5, s6, hc7, h⟩ := bnd_some h
    refine k_S (v := some (.int r5)) C sb_X11_within (c11_within _ hc7) rfl (by decide) wd_638 rfl dX11_odds_15 ?_
    show J (ωC α) κ _ _ 18 _ [.int r5] s6
    refine j_if_eq (tgt := 45) C dX11_odds_18 (by decide) (fun c8 => ?_) (fun c8 => ?_)
    · replace h := it c8 h
      exact (b11_odds_45 C e h)
    · replace h := ie c8 h
      refine j_iload_n C 3 dX11_odds_21 rfl ?_
      refine j_iconst (v := 0) C dX11_odds_22 (by decide) ?_
      refine j_bipush (v := 8) C dX11_odds_23 (by decide) ?_
      obtain ⟨r9, s10, hc11, h⟩ := bnd_some h
      refine k_S (v := some (.int r9)) C sb_X11_within (c11_within _ hc11) rfl (by decide) wd_638 rfl dX11_odds_25 ?_
      show J (ωC α) κ _ _ 28 _ [.int r9] s10
      refine j_if_eq (tgt := 45) C dX11_odds_28 (by decide) (fun c12 => ?_) (fun c12 => ?_)
      · replace h := it c12 h
        exact (b11_odds_45 C e h)
      · replace h := ie c12 h
        refine j_iload C 4 dX11_odds_31 rfl ?_
        refine j_iconst (v := 0) C dX11_odds_33 (by decide) ?_
        refine j_iconst (v := 1) C dX11_odds_34 (by decide) ?_
        obtain ⟨r13, s14, hc15, h⟩ := bnd_some h
        refine k_S (v := some (.int r13)) C sb_X11_within (c11_within _ hc15) rfl (by decide) wd_638 rfl dX11_odds_35 ?_
        show J (ωC α) κ _ _ 38 _ [.int r13] s14
        refine j_if_eq (tgt := 45) C dX11_odds_38 (by decide) (fun c16 => ?_) (fun c16 => ?_)
        · replace h := it c16 h
          exact (b11_odds_45 C e h)
        · replace h := ie c16 h
          refine j_iconst (v := 1) C dX11_odds_41 (by decide) ?_
          refine j_goto (tgt := 46) C dX11_odds_42 (by decide) ?_
          exact (b11_odds_46 C e h)
set_option maxRecDepth 10000 in
theorem c11_image (l : Launch) {α : WA} {fu : Nat}  {σ σ' : M2} {v : Int32}  (h : F11_image fu σ = some (v, σ')) : Ct l (ωC α) yX11_image cX11_image 1 (some FieldType.int) 3 [.ref (wad (ωC α) 0)] σ (some (.int v)) σ' := by
  unfold F11_image at h
  refine Ct.of (own := "EveryoneWins") (L := [(0, .ref (wad (ωC α) 0))]) (by decide +kernel) rfl rfl rfl (fun κ hl e C => ?_)
  show J (ωC α) κ 3 1 0 [(0, .ref (wad (ωC α) 0))] [] σ
  refine j_aload_n C 0 dX11_image_0 rfl ?_
  refine j_getr (o := 0) (j := 10) C inT11 (ci := 10) rfl (by decide) (rfl) rfl rfl wd_587 dX11_image_1 (o' := 68) rfl ?_
  refine j_aload_n C 0 dX11_image_4 rfl ?_
  refine j_getr (o := 0) (j := 0) C inT11 (ci := 10) rfl (by decide) (rfl) rfl rfl wd_577 dX11_image_5 (o' := 1) rfl ?_
  obtain ⟨r1, s2, hc3, h⟩ := bnd_some h
  refine k_V (v := none) C vb_X1_become (ci := 1) (T := TX1) (N := 4) rfl (by decide) (c1_become _ hc3) rfl (by decide) wd_995 (rfl) rfl dX11_image_8 ?_
  show J (ωC α) κ _ _ 11 _ [] s2
  refine j_aload_n C 0 dX11_image_11 rfl ?_
  refine j_getr (o := 0) (j := 11) C inT11 (ci := 10) rfl (by decide) (rfl) rfl rfl wd_588 dX11_image_12 (o' := 72) rfl ?_
  refine j_aload_n C 0 dX11_image_15 rfl ?_
  refine j_getr (o := 0) (j := 1) C inT11 (ci := 10) rfl (by decide) (rfl) rfl rfl wd_578 dX11_image_16 (o' := 5) rfl ?_
  obtain ⟨r4, s5, hc6, h⟩ := bnd_some h
  refine k_V (v := none) C vb_X5_become (ci := 4) (T := TX5) (N := 5) rfl (by decide) (c5_become _ hc6) rfl (by decide) wd_1000 (rfl) rfl dX11_image_19 ?_
  show J (ωC α) κ _ _ 22 _ [] s5
  refine j_aload_n C 0 dX11_image_22 rfl ?_
  refine j_aload_n C 0 dX11_image_23 rfl ?_
  refine j_getr (o := 0) (j := 2) C inT11 (ci := 10) rfl (by decide) (rfl) rfl rfl wd_579 dX11_image_24 (o' := 10) rfl ?_
  refine j_geti (o := 10) (j := 2) C inT10 (ci := 9) rfl (by decide) (rfl) rfl rfl wd_194 dX11_image_27 ?_
  refine j_puti (o := 0) (j := 12) C inT11 tyX11_ok nmX11 (ci := 10) rfl (by decide) (rfl) rfl rfl rfl (tyX11_ok 12 (by decide)) rfl rfl wd_589 dX11_image_30 ?_
  refine j_aload_n C 0 dX11_image_33 rfl ?_
  refine j_iconst (v := 1) C dX11_image_34 (by decide) ?_
  refine j_puti (o := 0) (j := 13) C inT11 tyX11_ok nmX11 (ci := 10) rfl (by decide) (rfl) rfl rfl rfl (tyX11_ok 13 (by decide)) rfl rfl wd_590 dX11_image_35 ?_
  refine j_aload_n C 0 dX11_image_38 rfl ?_
  refine j_getr (o := 0) (j := 1) C inT11 (ci := 10) rfl (by decide) (rfl) rfl rfl wd_578 dX11_image_39 (o' := 5) rfl ?_
  refine j_geti (o := 5) (j := 4) C inT5 (ci := 4) rfl (by decide) (rfl) rfl rfl wd_148 dX11_image_42 ?_
  obtain ⟨hv, hs⟩ := s2_inj h
  subst hv
  subst hs
  exact j_iret C e dX11_image_45
set_option maxRecDepth 10000 in
theorem c11_back (l : Launch) {α : WA} {fu : Nat}  {σ σ' : M2} {v : Int32}  (h : F11_back fu σ = some (v, σ')) : Ct l (ωC α) yX11_back cX11_back 1 (some FieldType.int) 3 [.ref (wad (ωC α) 0)] σ (some (.int v)) σ' := by
  unfold F11_back at h
  refine Ct.of (own := "EveryoneWins") (L := [(0, .ref (wad (ωC α) 0))]) (by decide +kernel) rfl rfl rfl (fun κ hl e C => ?_)
  show J (ωC α) κ 3 1 0 [(0, .ref (wad (ωC α) 0))] [] σ
  refine j_aload_n C 0 dX11_back_0 rfl ?_
  refine j_geti (o := 0) (j := 13) C inT11 (ci := 10) rfl (by decide) (rfl) rfl rfl wd_590 dX11_back_1 ?_
  refine j_if_ne (tgt := 10) C dX11_back_4 (by decide) (fun c1 => ?_) (fun c1 => ?_)
  · replace h := ie c1 h
    refine j_aload_n C 0 dX11_back_10 rfl ?_
    refine j_getr (o := 0) (j := 0) C inT11 (ci := 10) rfl (by decide) (rfl) rfl rfl wd_577 dX11_back_11 (o' := 1) rfl ?_
    refine j_aload_n C 0 dX11_back_14 rfl ?_
    refine j_getr (o := 0) (j := 10) C inT11 (ci := 10) rfl (by decide) (rfl) rfl rfl wd_587 dX11_back_15 (o' := 68) rfl ?_
    obtain ⟨r2, s3, hc4, h⟩ := bnd_some h
    refine k_V (v := none) C vb_X1_become (ci := 1) (T := TX1) (N := 4) rfl (by decide) (c1_become _ hc4) rfl (by decide) wd_995 (rfl) rfl dX11_back_18 ?_
    show J (ωC α) κ _ _ 21 _ [] s3
    refine j_aload_n C 0 dX11_back_21 rfl ?_
    refine j_getr (o := 0) (j := 1) C inT11 (ci := 10) rfl (by decide) (rfl) rfl rfl wd_578 dX11_back_22 (o' := 5) rfl ?_
    refine j_aload_n C 0 dX11_back_25 rfl ?_
    refine j_getr (o := 0) (j := 11) C inT11 (ci := 10) rfl (by decide) (rfl) rfl rfl wd_588 dX11_back_26 (o' := 72) rfl ?_
    obtain ⟨r5, s6, hc7, h⟩ := bnd_some h
    refine k_V (v := none) C vb_X5_become (ci := 4) (T := TX5) (N := 5) rfl (by decide) (c5_become _ hc7) rfl (by decide) wd_1000 (rfl) rfl dX11_back_29 ?_
    show J (ωC α) κ _ _ 32 _ [] s6
    refine j_aload_n C 0 dX11_back_32 rfl ?_
    refine j_getr (o := 0) (j := 2) C inT11 (ci := 10) rfl (by decide) (rfl) rfl rfl wd_579 dX11_back_33 (o' := 10) rfl ?_
    refine j_aload_n C 0 dX11_back_36 rfl ?_
    refine j_geti (o := 0) (j := 12) C inT11 (ci := 10) rfl (by decide) (rfl) rfl rfl wd_589 dX11_back_37 ?_
    refine j_puti (o := 10) (j := 2) C inT10 tyX10_ok nmX10 (ci := 9) rfl (by decide) (rfl) rfl rfl rfl (tyX10_ok 2 (by decide)) rfl rfl wd_194 dX11_back_40 ?_
    refine j_aload_n C 0 dX11_back_43 rfl ?_
    refine j_getr (o := 0) (j := 1) C inT11 (ci := 10) rfl (by decide) (rfl) rfl rfl wd_578 dX11_back_44 (o' := 5) rfl ?_
    refine j_geti (o := 5) (j := 4) C inT5 (ci := 4) rfl (by decide) (rfl) rfl rfl wd_148 dX11_back_47 ?_
    obtain ⟨hv, hs⟩ := s2_inj h
    subst hv
    subst hs
    exact j_iret C e dX11_back_50
  · replace h := it c1 h
    refine j_bipush (v := -3) C dX11_back_7 (by decide) ?_
    obtain ⟨hv, hs⟩ := s2_inj h
    subst hv
    subst hs
    exact j_iret C e dX11_back_9
set_option maxRecDepth 10000 in
theorem c11_sheet (l : Launch) {α : WA} {fu : Nat} {a1 : Int32} {a2 : Int32} {a3 : Int32} {σ σ' : M2} {v : Int32}  (h : F11_sheet fu a1 a2 a3 σ = some (v, σ')) : Ct l (ωC α) yX11_sheet cX11_sheet 5 (some FieldType.int) 2 [.ref (wad (ωC α) 0), .int a1, .int a2, .int a3] σ (some (.int v)) σ' := by
  unfold F11_sheet at h
  refine Ct.of (own := "EveryoneWins") (L := [(0, .ref (wad (ωC α) 0)), (1, .int a1), (2, .int a2), (3, .int a3)]) (by decide +kernel) rfl rfl rfl (fun κ hl e C => ?_)
  show J (ωC α) κ 2 5 0 [(0, .ref (wad (ωC α) 0)), (1, .int a1), (2, .int a2), (3, .int a3)] [] σ
  refine j_aload_n C 0 dX11_sheet_0 rfl ?_
  refine j_iload_n C 1 dX11_sheet_1 rfl ?_
  obtain ⟨r1, s2, hc3, h⟩ := bnd_some h
  cases r1 with
  | none =>
    refine k_V (v := some .null) C vb_X11_sheetAt (ci := 10) (T := TX11) (N := 17) rfl (by decide) (c11_sheetAt _ hc3) rfl (by decide) wd_912 (rfl) rfl dX11_sheet_2 ?_
    show J (ωC α) κ _ _ 5 _ [.null] s2
    refine j_astoreN (L' := [(4, .null), (0, .ref (wad (ωC α) 0)), (1, .int a1), (2, .int a2), (3, .int a3)]) C dX11_sheet_5 rfl rfl ?_
    refine j_aloadN C 0 dX11_sheet_7 rfl ?_
    refine j_ifnullN (tgt := 21) C dX11_sheet_9 (by decide) ?_
    refine j_bipush (v := -2) C dX11_sheet_21 (by decide) ?_
    obtain ⟨hv, hs⟩ := s2_inj h
    subst hv
    subst hs
    exact j_iret C e dX11_sheet_23
  | some q4 =>
    refine k_V (v := some (.ref (wad (ωC α) q4))) C vb_X11_sheetAt (ci := 10) (T := TX11) (N := 17) rfl (by decide) (c11_sheetAt _ hc3) rfl (by decide) wd_912 (rfl) rfl dX11_sheet_2 ?_
    show J (ωC α) κ _ _ 5 _ [.ref (wad (ωC α) q4)] s2
    refine j_astore (L' := [(4, .ref (wad (ωC α) q4)), (0, .ref (wad (ωC α) 0)), (1, .int a1), (2, .int a2), (3, .int a3)]) C dX11_sheet_5 rfl rfl ?_
    refine j_aload C 0 dX11_sheet_7 rfl ?_
    refine j_ifnull C dX11_sheet_9 ?_
    refine j_iload_n C 3 dX11_sheet_12 rfl ?_
    refine j_iconst (v := -1) C dX11_sheet_13 (by decide) ?_
    refine j_iconst (v := 2) C dX11_sheet_14 (by decide) ?_
    obtain ⟨r5, s6, hc7, h⟩ := bnd_some h
    refine k_S (v := some (.int r5)) C sb_X11_within (c11_within _ hc7) rfl (by decide) wd_638 rfl dX11_sheet_15 ?_
    show J (ωC α) κ _ _ 18 _ [.int r5] s6
    refine j_if_ne (tgt := 24) C dX11_sheet_18 (by decide) (fun c8 => ?_) (fun c8 => ?_)
    · replace h := ie c8 h
      refine j_iload_n C 3 dX11_sheet_24 rfl ?_
      refine j_iconst (v := -1) C dX11_sheet_25 (by decide) ?_
      refine j_icmp_ne (tgt := 36) C dX11_sheet_26 (by decide) (fun c9 => ?_) (fun c9 => ?_)
      · replace h := ie c9 h
        refine j_iload_n C 4 dX11_sheet_36 rfl ?_
        refine j_bipush (v := 40) C dX11_sheet_37 (by decide) ?_
        refine j_icmp_le (tgt := 45) C dX11_sheet_39 (by decide) (fun c10 => ?_) (fun c10 => ?_)
        · replace h := it c10 h
          refine j_iload_n C 4 dX11_sheet_45 rfl ?_
          refine j_if_ge (tgt := 52) C dX11_sheet_46 (by decide) (fun c11 => ?_) (fun c11 => ?_)
          · replace h := it c11 h
            refine j_aload C 0 dX11_sheet_52 rfl ?_
            refine j_iload_n C 3 dX11_sheet_54 rfl ?_
            refine j_iload_n C 4 dX11_sheet_55 rfl ?_
            obtain ⟨g12, h⟩ := gd_some h
            obtain ⟨r13, s14, hc15, h⟩ := bnd_some h
            refine k_V (v := none) C vb_X7_become (ci := 6) (T := TX7) (N := 3) rfl (by decide) (c7_become _ hc15) rfl (by decide) wd_953 (isO_sh g12) rfl dX11_sheet_56 ?_
            show J (ωC α) κ _ _ 59 _ [] s14
            refine j_iconst (v := 1) C dX11_sheet_59 (by decide) ?_
            obtain ⟨hv, hs⟩ := s2_inj h
            subst hv
            subst hs
            exact j_iret C e dX11_sheet_60
          · replace h := ie c11 h
            refine j_bipush (v := -14) C dX11_sheet_49 (by decide) ?_
            obtain ⟨hv, hs⟩ := s2_inj h
            subst hv
            subst hs
            exact j_iret C e dX11_sheet_51
        · replace h := ie c10 h
          refine j_bipush (v := -2) C dX11_sheet_42 (by decide) ?_
          obtain ⟨hv, hs⟩ := s2_inj h
          subst hv
          subst hs
          exact j_iret C e dX11_sheet_44
      · replace h := it c9 h
        refine j_aload C 0 dX11_sheet_29 rfl ?_
        obtain ⟨g16, h⟩ := gd_some h
        obtain ⟨r17, s18, hc19, h⟩ := bnd_some h
        refine k_V (v := none) C vb_X7_vanish (ci := 6) (T := TX7) (N := 3) rfl (by decide) (c7_vanish _ hc19) rfl (by decide) wd_1013 (isO_sh g16) rfl dX11_sheet_31 ?_
        show J (ωC α) κ _ _ 34 _ [] s18
        refine j_iconst (v := 1) C dX11_sheet_34 (by decide) ?_
        obtain ⟨hv, hs⟩ := s2_inj h
        subst hv
        subst hs
        exact j_iret C e dX11_sheet_35
    · replace h := it c8 h
      refine j_bipush (v := -2) C dX11_sheet_21 (by decide) ?_
      obtain ⟨hv, hs⟩ := s2_inj h
      subst hv
      subst hs
      exact j_iret C e dX11_sheet_23
set_option maxRecDepth 10000 in
theorem c11_cell (l : Launch) {α : WA}  {a1 : Int32} {a2 : Int32} {a3 : Int32} {σ σ' : M2} {v : Int32}  (h : F11_cell a1 a2 a3 σ = some (v, σ')) : Ct l (ωC α) yX11_cell cX11_cell 5 (some FieldType.int) 3 [.ref (wad (ωC α) 0), .int a1, .int a2, .int a3] σ (some (.int v)) σ' := by
  unfold F11_cell at h
  refine Ct.of (own := "EveryoneWins") (L := [(0, .ref (wad (ωC α) 0)), (1, .int a1), (2, .int a2), (3, .int a3)]) (by decide +kernel) rfl rfl rfl (fun κ hl e C => ?_)
  show J (ωC α) κ 3 5 0 [(0, .ref (wad (ωC α) 0)), (1, .int a1), (2, .int a2), (3, .int a3)] [] σ
  refine j_aload_n C 0 dX11_cell_0 rfl ?_
  refine j_iload_n C 1 dX11_cell_1 rfl ?_
  obtain ⟨r1, s2, hc3, h⟩ := bnd_some h
  cases r1 with
  | none =>
    refine k_V (v := some .null) C vb_X11_sheetAt (ci := 10) (T := TX11) (N := 17) rfl (by decide) (c11_sheetAt _ hc3) rfl (by decide) wd_912 (rfl) rfl dX11_cell_2 ?_
    show J (ωC α) κ _ _ 5 _ [.null] s2
    refine j_astoreN (L' := [(4, .null), (0, .ref (wad (ωC α) 0)), (1, .int a1), (2, .int a2), (3, .int a3)]) C dX11_cell_5 rfl rfl ?_
    refine j_aloadN C 0 dX11_cell_7 rfl ?_
    refine j_ifnonnullN C dX11_cell_9 ?_
    refine j_bipush (v := -2) C dX11_cell_12 (by decide) ?_
    obtain ⟨hv, hs⟩ := s2_inj h
    subst hv
    subst hs
    exact j_iret C e dX11_cell_14
  | some q4 =>
    refine k_V (v := some (.ref (wad (ωC α) q4))) C vb_X11_sheetAt (ci := 10) (T := TX11) (N := 17) rfl (by decide) (c11_sheetAt _ hc3) rfl (by decide) wd_912 (rfl) rfl dX11_cell_2 ?_
    show J (ωC α) κ _ _ 5 _ [.ref (wad (ωC α) q4)] s2
    refine j_astore (L' := [(4, .ref (wad (ωC α) q4)), (0, .ref (wad (ωC α) 0)), (1, .int a1), (2, .int a2), (3, .int a3)]) C dX11_cell_5 rfl rfl ?_
    refine j_aload C 0 dX11_cell_7 rfl ?_
    refine j_ifnonnull (tgt := 15) C dX11_cell_9 (by decide) ?_
    refine j_aload C 0 dX11_cell_15 rfl ?_
    obtain ⟨g5, h⟩ := gd_some h
    obtain ⟨r6, s7, hc8, h⟩ := bnd_some h
    refine k_V (v := some (.int r6)) C vb_X7_isMissing (ci := 6) (T := TX7) (N := 3) rfl (by decide) (c7_isMissing _ hc8) rfl (by decide) wd_920 (isO_sh g5) rfl dX11_cell_17 ?_
    show J (ωC α) κ _ _ 20 _ [.int r6] s7
    refine j_if_eq (tgt := 26) C dX11_cell_20 (by decide) (fun c9 => ?_) (fun c9 => ?_)
    · replace h := it c9 h
      refine j_iload_n C 3 dX11_cell_26 rfl ?_
      refine j_iconst (v := 0) C dX11_cell_27 (by decide) ?_
      refine j_aload C 0 dX11_cell_28 rfl ?_
      refine j_geti (o := q4) (j := 2) C inT7 (ci := 6) rfl (by decide) (isO_sh g5) rfl rfl wd_354 dX11_cell_30 ?_
      refine j_iconst (v := 1) C dX11_cell_33 (by decide) ?_
      refine j_isub C dX11_cell_34 ?_
      obtain ⟨r10, s11, hc12, h⟩ := bnd_some h
      refine k_S (v := some (.int r10)) C sb_X11_within (c11_within _ hc12) rfl (by decide) wd_638 rfl dX11_cell_35 ?_
      show J (ωC α) κ _ _ 38 _ [.int r10] s11
      refine j_if_ne (tgt := 44) C dX11_cell_38 (by decide) (fun c13 => ?_) (fun c13 => ?_)
      · replace h := ie c13 h
        refine j_aload C 0 dX11_cell_44 rfl ?_
        refine j_iload_n C 3 dX11_cell_46 rfl ?_
        refine j_iload_n C 4 dX11_cell_47 rfl ?_
        obtain ⟨r14, s15, hc16, h⟩ := bnd_some h
        refine k_V (v := none) C vb_X7_write (ci := 6) (T := TX7) (N := 3) rfl (by decide) (c7_write _ hc16) rfl (by decide) wd_957 (isO_sh g5) rfl dX11_cell_48 ?_
        show J (ωC α) κ _ _ 51 _ [] s15
        refine j_iconst (v := 1) C dX11_cell_51 (by decide) ?_
        obtain ⟨hv, hs⟩ := s2_inj h
        subst hv
        subst hs
        exact j_iret C e dX11_cell_52
      · replace h := it c13 h
        refine j_bipush (v := -12) C dX11_cell_41 (by decide) ?_
        obtain ⟨hv, hs⟩ := s2_inj h
        subst hv
        subst hs
        exact j_iret C e dX11_cell_43
    · replace h := ie c9 h
      refine j_bipush (v := -11) C dX11_cell_23 (by decide) ?_
      obtain ⟨hv, hs⟩ := s2_inj h
      subst hv
      subst hs
      exact j_iret C e dX11_cell_25
set_option maxRecDepth 10000 in
theorem c11_copy (l : Launch) {α : WA}  {a1 : Int32} {a2 : Int32} {a3 : Int32} {a4 : Int32} {a5 : Int32} {σ σ' : M2} {v : Int32}  (h : F11_copy a1 a2 a3 a4 a5 σ = some (v, σ')) : Ct l (ωC α) yX11_copy cX11_copy 8 (some FieldType.int) 2 [.ref (wad (ωC α) 0), .int a1, .int a2, .int a3, .int a4, .int a5] σ (some (.int v)) σ' := by
  unfold F11_copy at h
  refine Ct.of (own := "EveryoneWins") (L := [(0, .ref (wad (ωC α) 0)), (1, .int a1), (2, .int a2), (3, .int a3), (4, .int a4), (5, .int a5)]) (by decide +kernel) rfl rfl rfl (fun κ hl e C => ?_)
  show J (ωC α) κ 2 8 0 [(0, .ref (wad (ωC α) 0)), (1, .int a1), (2, .int a2), (3, .int a3), (4, .int a4), (5, .int a5)] [] σ
  refine j_aload_n C 0 dX11_copy_0 rfl ?_
  refine j_iload_n C 1 dX11_copy_1 rfl ?_
  obtain ⟨r1, s2, hc3, h⟩ := bnd_some h
  cases r1 with
  | none =>
    refine k_V (v := some .null) C vb_X11_sheetAt (ci := 10) (T := TX11) (N := 17) rfl (by decide) (c11_sheetAt _ hc3) rfl (by decide) wd_912 (rfl) rfl dX11_copy_2 ?_
    show J (ωC α) κ _ _ 5 _ [.null] s2
    refine j_astoreN (L' := [(6, .null), (0, .ref (wad (ωC α) 0)), (1, .int a1), (2, .int a2), (3, .int a3), (4, .int a4), (5, .int a5)]) C dX11_copy_5 rfl rfl ?_
    refine j_aload_n C 1 dX11_copy_7 rfl ?_
    refine j_iload_n C 4 dX11_copy_8 rfl ?_
    obtain ⟨r4, s5, hc6, h⟩ := bnd_some h
    cases r4 with
    | none =>
      refine k_V (v := some .null) C vb_X11_sheetAt (ci := 10) (T := TX11) (N := 17) rfl (by decide) (c11_sheetAt _ hc6) rfl (by decide) wd_912 (rfl) rfl dX11_copy_9 ?_
      show J (ωC α) κ _ _ 12 _ [.null] s5
      refine j_astoreN (L' := [(7, .null), (6, .null), (0, .ref (wad (ωC α) 0)), (1, .int a1), (2, .int a2), (3, .int a3), (4, .int a4), (5, .int a5)]) C dX11_copy_12 rfl rfl ?_
      refine j_aloadN C 1 dX11_copy_14 rfl ?_
      refine j_ifnullN (tgt := 24) C dX11_copy_16 (by decide) ?_
      refine j_bipush (v := -2) C dX11_copy_24 (by decide) ?_
      obtain ⟨hv, hs⟩ := s2_inj h
      subst hv
      subst hs
      exact j_iret C e dX11_copy_26
    | some q7 =>
      refine k_V (v := some (.ref (wad (ωC α) q7))) C vb_X11_sheetAt (ci := 10) (T := TX11) (N := 17) rfl (by decide) (c11_sheetAt _ hc6) rfl (by decide) wd_912 (rfl) rfl dX11_copy_9 ?_
      show J (ωC α) κ _ _ 12 _ [.ref (wad (ωC α) q7)] s5
      refine j_astore (L' := [(7, .ref (wad (ωC α) q7)), (6, .null), (0, .ref (wad (ωC α) 0)), (1, .int a1), (2, .int a2), (3, .int a3), (4, .int a4), (5, .int a5)]) C dX11_copy_12 rfl rfl ?_
      refine j_aloadN C 1 dX11_copy_14 rfl ?_
      refine j_ifnullN (tgt := 24) C dX11_copy_16 (by decide) ?_
      refine j_bipush (v := -2) C dX11_copy_24 (by decide) ?_
      obtain ⟨hv, hs⟩ := s2_inj h
      subst hv
      subst hs
      exact j_iret C e dX11_copy_26
  | some q8 =>
    refine k_V (v := some (.ref (wad (ωC α) q8))) C vb_X11_sheetAt (ci := 10) (T := TX11) (N := 17) rfl (by decide) (c11_sheetAt _ hc3) rfl (by decide) wd_912 (rfl) rfl dX11_copy_2 ?_
    show J (ωC α) κ _ _ 5 _ [.ref (wad (ωC α) q8)] s2
    refine j_astore (L' := [(6, .ref (wad (ωC α) q8)), (0, .ref (wad (ωC α) 0)), (1, .int a1), (2, .int a2), (3, .int a3), (4, .int a4), (5, .int a5)]) C dX11_copy_5 rfl rfl ?_
    refine j_aload_n C 1 dX11_copy_7 rfl ?_
    refine j_iload_n C 4 dX11_copy_8 rfl ?_
    obtain ⟨r9, s10, hc11, h⟩ := bnd_some h
    cases r9 with
    | none =>
      refine k_V (v := some .null) C vb_X11_sheetAt (ci := 10) (T := TX11) (N := 17) rfl (by decide) (c11_sheetAt _ hc11) rfl (by decide) wd_912 (rfl) rfl dX11_copy_9 ?_
      show J (ωC α) κ _ _ 12 _ [.null] s10
      refine j_astoreN (L' := [(7, .null), (6, .ref (wad (ωC α) q8)), (0, .ref (wad (ωC α) 0)), (1, .int a1), (2, .int a2), (3, .int a3), (4, .int a4), (5, .int a5)]) C dX11_copy_12 rfl rfl ?_
      refine j_aload C 1 dX11_copy_14 rfl ?_
      refine j_ifnull C dX11_copy_16 ?_
      refine j_aloadN C 0 dX11_copy_19 rfl ?_
      refine j_ifnonnullN C dX11_copy_21 ?_
      refine j_bipush (v := -2) C dX11_copy_24 (by decide) ?_
      obtain ⟨hv, hs⟩ := s2_inj h
      subst hv
      subst hs
      exact j_iret C e dX11_copy_26
    | some q12 =>
      refine k_V (v := some (.ref (wad (ωC α) q12))) C vb_X11_sheetAt (ci := 10) (T := TX11) (N := 17) rfl (by decide) (c11_sheetAt _ hc11) rfl (by decide) wd_912 (rfl) rfl dX11_copy_9 ?_
      show J (ωC α) κ _ _ 12 _ [.ref (wad (ωC α) q12)] s10
      refine j_astore (L' := [(7, .ref (wad (ωC α) q12)), (6, .ref (wad (ωC α) q8)), (0, .ref (wad (ωC α) 0)), (1, .int a1), (2, .int a2), (3, .int a3), (4, .int a4), (5, .int a5)]) C dX11_copy_12 rfl rfl ?_
      refine j_aload C 1 dX11_copy_14 rfl ?_
      refine j_ifnull C dX11_copy_16 ?_
      refine j_aload C 0 dX11_copy_19 rfl ?_
      refine j_ifnonnull (tgt := 27) C dX11_copy_21 (by decide) ?_
      refine j_aload C 1 dX11_copy_27 rfl ?_
      obtain ⟨g13, h⟩ := gd_some h
      obtain ⟨r14, s15, hc16, h⟩ := bnd_some h
      refine k_V (v := some (.int r14)) C vb_X7_isMissing (ci := 6) (T := TX7) (N := 3) rfl (by decide) (c7_isMissing _ hc16) rfl (by decide) wd_920 (isO_sh g13) rfl dX11_copy_29 ?_
      show J (ωC α) κ _ _ 32 _ [.int r14] s15
      refine j_if_ne (tgt := 43) C dX11_copy_32 (by decide) (fun c17 => ?_) (fun c17 => ?_)
      · replace h := ie c17 h
        refine j_bipush (v := -11) C dX11_copy_43 (by decide) ?_
        obtain ⟨hv, hs⟩ := s2_inj h
        subst hv
        subst hs
        exact j_iret C e dX11_copy_45
      · replace h := it c17 h
        refine j_aload C 0 dX11_copy_35 rfl ?_
        obtain ⟨g18, h⟩ := gd_some h
        obtain ⟨r19, s20, hc21, h⟩ := bnd_some h
        refine k_V (v := some (.int r19)) C vb_X7_isMissing (ci := 6) (T := TX7) (N := 3) rfl (by decide) (c7_isMissing _ hc21) rfl (by decide) wd_920 (isO_sh g18) rfl dX11_copy_37 ?_
        show J (ωC α) κ _ _ 40 _ [.int r19] s20
        refine j_if_eq (tgt := 46) C dX11_copy_40 (by decide) (fun c22 => ?_) (fun c22 => ?_)
        · replace h := it c22 h
          refine j_aload C 1 dX11_copy_46 rfl ?_
          refine j_geti (o := q8) (j := 1) C inT7 (ci := 6) rfl (by decide) (isO_sh g13) rfl rfl wd_352 dX11_copy_48 ?_
          refine j_aload C 0 dX11_copy_51 rfl ?_
          refine j_geti (o := q12) (j := 1) C inT7 (ci := 6) rfl (by decide) (isO_sh g18) rfl rfl wd_352 dX11_copy_53 ?_
          refine j_icmp_eq (tgt := 62) C dX11_copy_56 (by decide) (fun c23 => ?_) (fun c23 => ?_)
          · replace h := it c23 h
            refine j_aload C 1 dX11_copy_62 rfl ?_
            refine j_iload_n C 4 dX11_copy_64 rfl ?_
            refine j_iload C 7 dX11_copy_65 rfl ?_
            obtain ⟨r24, s25, hc26, h⟩ := bnd_some h
            refine k_V (v := some (.int r24)) C vb_X7_spans (ci := 6) (T := TX7) (N := 3) rfl (by decide) (c7_spans _ hc26) rfl (by decide) wd_1025 (isO_sh g13) rfl dX11_copy_67 ?_
            show J (ωC α) κ _ _ 70 _ [.int r24] s25
            refine j_if_eq (tgt := 85) C dX11_copy_70 (by decide) (fun c27 => ?_) (fun c27 => ?_)
            · replace h := it c27 h
              refine j_bipush (v := -12) C dX11_copy_85 (by decide) ?_
              obtain ⟨hv, hs⟩ := s2_inj h
              subst hv
              subst hs
              exact j_iret C e dX11_copy_87
            · replace h := ie c27 h
              refine j_aload C 0 dX11_copy_73 rfl ?_
              refine j_iload C 6 dX11_copy_75 rfl ?_
              refine j_iload C 7 dX11_copy_77 rfl ?_
              obtain ⟨r28, s29, hc30, h⟩ := bnd_some h
              refine k_V (v := some (.int r28)) C vb_X7_spans (ci := 6) (T := TX7) (N := 3) rfl (by decide) (c7_spans _ hc30) rfl (by decide) wd_1025 (isO_sh g18) rfl dX11_copy_79 ?_
              show J (ωC α) κ _ _ 82 _ [.int r28] s29
              refine j_if_ne (tgt := 88) C dX11_copy_82 (by decide) (fun c31 => ?_) (fun c31 => ?_)
              · replace h := ie c31 h
                refine j_aload C 1 dX11_copy_88 rfl ?_
                refine j_getr (o := q8) (j := 0) C inT7 (ci := 6) rfl (by decide) (isO_sh g13) rfl rfl wd_350 dX11_copy_90 (o' := crf q8 0) rfl ?_
                refine j_iload_n C 4 dX11_copy_93 rfl ?_
                refine j_aload C 0 dX11_copy_94 rfl ?_
                refine j_getr (o := q12) (j := 0) C inT7 (ci := 6) rfl (by decide) (isO_sh g18) rfl rfl wd_350 dX11_copy_96 (o' := crf q12 0) rfl ?_
                refine j_iload C 6 dX11_copy_99 rfl ?_
                refine j_iload C 7 dX11_copy_101 rfl ?_
                obtain ⟨g32, h⟩ := gd_some h
                obtain ⟨g33, h⟩ := gd_some h
                obtain ⟨g34, h⟩ := gd_some h
                refine j_copyi C (by decide) wd_1029 wd_1031 wd_1030 wd_92 (isA_sh g32) (isA_sh g33) (copyOk_1 g34).1 (copyOk_1 g34).2.1 (copyOk_1 g34).2.2.1 (copyOk_1 g34).2.2.2.1 (copyOk_1 g34).2.2.2.2 dX11_copy_103 (by decide) ?_
                refine j_iload C 7 dX11_copy_106 rfl ?_
                obtain ⟨hv, hs⟩ := s2_inj h
                subst hv
                subst hs
                exact j_iret C e dX11_copy_108
              · replace h := it c31 h
                refine j_bipush (v := -12) C dX11_copy_85 (by decide) ?_
                obtain ⟨hv, hs⟩ := s2_inj h
                subst hv
                subst hs
                exact j_iret C e dX11_copy_87
          · replace h := ie c23 h
            refine j_bipush (v := -13) C dX11_copy_59 (by decide) ?_
            obtain ⟨hv, hs⟩ := s2_inj h
            subst hv
            subst hs
            exact j_iret C e dX11_copy_61
        · replace h := ie c22 h
          refine j_bipush (v := -11) C dX11_copy_43 (by decide) ?_
          obtain ⟨hv, hs⟩ := s2_inj h
          subst hv
          subst hs
          exact j_iret C e dX11_copy_45
set_option maxRecDepth 10000 in
theorem b11_childrenBy_115 {α : WA} {κ : KT} {fu : Nat} {v : Int32} {σ' : M2} {x3 : Int32} {x4 : Int32} {x5 : Nat} {x7 : Int32} {y0 : Int32} {y1 : Int32} (C : Cx (ωC α) κ cX11_childrenBy 8 "EveryoneWins" (some FieldType.int)) (e : κ.2.2.2.2.2.2.2.2.2 = (some (.int v), σ')) {k64 : Int32 → Int32 → M2 → Option (Int32 × M2)} (hk64 : ∀ (x6' : Int32) (x7' : Int32) (σ : M2), k64 x6' x7' σ = some (v, σ') → J (ωC α) κ 4 8 64 [(0, .ref (wad (ωC α) 0)), (3, .int x3), (4, .int x4), (5, .ref (wad (ωC α) x5)), (6, .int x6'), (7, .int x7')] [] σ) {σ : M2} (h : F11_childrenBy_115 fu k64 x3 x4 x5 x7 y0 y1 σ = some (v, σ')) : J (ωC α) κ 4 8 115 [(0, .ref (wad (ωC α) 0)), (3, .int x3), (4, .int x4), (5, .ref (wad (ωC α) x5)), (7, .int x7)] [.int y0, .int y1] σ := by
  unfold F11_childrenBy_115 at h
  refine j_iadd C dX11_childrenBy_115 ?_
  refine j_istore (L' := [(6, .int (y1 + y0)), (0, .ref (wad (ωC α) 0)), (3, .int x3), (4, .int x4), (5, .ref (wad (ωC α) x5)), (7, .int x7)]) C dX11_childrenBy_116 rfl rfl ?_
  refine j_iinc (L' := [(7, .int (x7 + 1)), (6, .int (y1 + y0)), (0, .ref (wad (ωC α) 0)), (3, .int x3), (4, .int x4), (5, .ref (wad (ωC α) x5))]) C 5 dX11_childrenBy_118 rfl rfl rfl rfl ?_
  refine j_goto (tgt := 64) C dX11_childrenBy_121 (by decide) ?_
  exact j_sub [2, 3, 4, 5, 1, 0] rfl (hk64 _ _ _ h)
set_option maxRecDepth 10000 in
theorem b11_childrenBy_64 {α : WA} {κ : KT} {fu : Nat} {v : Int32} {σ' : M2} {x3 : Int32} {x4 : Int32} {x5 : Nat} {x6 : Int32} {x7 : Int32} (C : Cx (ωC α) κ cX11_childrenBy 8 "EveryoneWins" (some FieldType.int)) (e : κ.2.2.2.2.2.2.2.2.2 = (some (.int v), σ'))  {σ : M2} (h : F11_childrenBy_64 fu x3 x4 x5 x6 x7 σ = some (v, σ')) : J (ωC α) κ 4 8 64 [(0, .ref (wad (ωC α) 0)), (3, .int x3), (4, .int x4), (5, .ref (wad (ωC α) x5)), (6, .int x6), (7, .int x7)] [] σ := by
  unfold F11_childrenBy_64 at h
  refine wl2_ind (fun x6 x7 σ => J (ωC α) κ 4 8 64 [(0, .ref (wad (ωC α) 0)), (3, .int x3), (4, .int x4), (5, .ref (wad (ωC α) x5)), (6, .int x6), (7, .int x7)] [] σ) ?_ fu x6 x7 σ h
  intro k64 hk64 x6 x7 σ h
  try dsimp only at h
  show J (ωC α) κ 4 8 64 [(0, .ref (wad (ωC α) 0)), (3, .int x3), (4, .int x4), (5, .ref (wad (ωC α) x5)), (6, .int x6), (7, .int x7)] [] σ
  refine j_iload C 5 dX11_childrenBy_64 rfl ?_
  refine j_iload C 2 dX11_childrenBy_66 rfl ?_
  refine j_icmp_ge (tgt := 124) C dX11_childrenBy_68 (by decide) (fun c1 => ?_) (fun c1 => ?_)
  · replace h := it c1 h
    refine j_iload C 4 dX11_childrenBy_124 rfl ?_
    obtain ⟨hv, hs⟩ := s2_inj h
    subst hv
    subst hs
    exact j_iret C e dX11_childrenBy_126
  · replace h := ie c1 h
    refine j_iload_n C 1 dX11_childrenBy_71 rfl ?_
    refine j_iconst (v := 0) C dX11_childrenBy_72 (by decide) ?_
    refine j_aload C 3 dX11_childrenBy_73 rfl ?_
    obtain ⟨g2, h⟩ := gd_some h
    refine j_geti (o := x5) (j := 2) C inT7 (ci := 6) rfl (by decide) (isO_sh g2) rfl rfl wd_354 dX11_childrenBy_75 ?_
    refine j_iconst (v := 1) C dX11_childrenBy_78 (by decide) ?_
    refine j_isub C dX11_childrenBy_79 ?_
    refine j_iload C 5 dX11_childrenBy_80 rfl ?_
    refine j_isub C dX11_childrenBy_82 ?_
    obtain ⟨r3, s4, hc5, h⟩ := bnd_some h
    refine k_S (v := some (.int r3)) C sb_X11_within (c11_within _ hc5) rfl (by decide) wd_638 rfl dX11_childrenBy_83 ?_
    show J (ωC α) κ _ _ 86 _ [.int r3] s4
    refine j_if_ne (tgt := 92) C dX11_childrenBy_86 (by decide) (fun c6 => ?_) (fun c6 => ?_)
    · replace h := ie c6 h
      refine j_iload C 4 dX11_childrenBy_92 rfl ?_
      refine j_aload_n C 0 dX11_childrenBy_94 rfl ?_
      refine j_aload C 3 dX11_childrenBy_95 rfl ?_
      refine j_iload_n C 1 dX11_childrenBy_97 rfl ?_
      refine j_iload C 5 dX11_childrenBy_98 rfl ?_
      refine j_iadd C dX11_childrenBy_100 ?_
      obtain ⟨r7, s8, hc9, h⟩ := bnd_some h
      refine k_V (v := some (.int r7)) C vb_X7_read (ci := 6) (T := TX7) (N := 3) rfl (by decide) (c7_read _ hc9) rfl (by decide) wd_928 (isO_sh g2) rfl dX11_childrenBy_101 ?_
      show J (ωC α) κ _ _ 104 _ [.int r7, .ref (wad (ωC α) 0), .int x6] s8
      obtain ⟨r10, s11, hc12, h⟩ := bnd_some h
      refine k_V (v := some (.int r10)) C vb_X11_child (ci := 10) (T := TX11) (N := 17) rfl (by decide) (c11_child _ hc12) rfl (by decide) wd_1036 (rfl) rfl dX11_childrenBy_104 ?_
      show J (ωC α) κ _ _ 107 _ [.int r10, .int x6] s11
      refine j_if_lt (tgt := 114) C dX11_childrenBy_107 (by decide) (fun c13 => ?_) (fun c13 => ?_)
      · replace h := it c13 h
        refine j_iconst (v := 0) C dX11_childrenBy_114 (by decide) ?_
        exact j_sub [0, 1, 2, 3, 5] rfl (b11_childrenBy_115 C e hk64 h)
      · replace h := ie c13 h
        refine j_iconst (v := 1) C dX11_childrenBy_110 (by decide) ?_
        refine j_goto (tgt := 115) C dX11_childrenBy_111 (by decide) ?_
        exact j_sub [0, 1, 2, 3, 5] rfl (b11_childrenBy_115 C e hk64 h)
    · replace h := it c6 h
      refine j_bipush (v := -12) C dX11_childrenBy_89 (by decide) ?_
      obtain ⟨hv, hs⟩ := s2_inj h
      subst hv
      subst hs
      exact j_iret C e dX11_childrenBy_91
set_option maxRecDepth 10000 in
theorem c11_childrenBy (l : Launch) {α : WA} {fu : Nat} {a1 : Int32} {a2 : Int32} {a3 : Int32} {a4 : Int32} {σ σ' : M2} {v : Int32}  (h : F11_childrenBy fu a1 a2 a3 a4 σ = some (v, σ')) : Ct l (ωC α) yX11_childrenBy cX11_childrenBy 8 (some FieldType.int) 4 [.ref (wad (ωC α) 0), .int a1, .int a2, .int a3, .int a4] σ (some (.int v)) σ' := by
  unfold F11_childrenBy at h
  refine Ct.of (own := "EveryoneWins") (L := [(0, .ref (wad (ωC α) 0)), (1, .int a1), (2, .int a2), (3, .int a3), (4, .int a4)]) (by decide +kernel) rfl rfl rfl (fun κ hl e C => ?_)
  show J (ωC α) κ 4 8 0 [(0, .ref (wad (ωC α) 0)), (1, .int a1), (2, .int a2), (3, .int a3), (4, .int a4)] [] σ
  refine j_aload_n C 0 dX11_childrenBy_0 rfl ?_
  refine j_iload_n C 1 dX11_childrenBy_1 rfl ?_
  obtain ⟨r1, s2, hc3, h⟩ := bnd_some h
  cases r1 with
  | none =>
    refine k_V (v := some .null) C vb_X11_sheetAt (ci := 10) (T := TX11) (N := 17) rfl (by decide) (c11_sheetAt _ hc3) rfl (by decide) wd_912 (rfl) rfl dX11_childrenBy_2 ?_
    show J (ωC α) κ _ _ 5 _ [.null] s2
    refine j_astoreN (L' := [(5, .null), (0, .ref (wad (ωC α) 0)), (1, .int a1), (2, .int a2), (3, .int a3), (4, .int a4)]) C dX11_childrenBy_5 rfl rfl ?_
    refine j_aloadN C 0 dX11_childrenBy_7 rfl ?_
    refine j_ifnullN (tgt := 32) C dX11_childrenBy_9 (by decide) ?_
    refine j_bipush (v := -2) C dX11_childrenBy_32 (by decide) ?_
    obtain ⟨hv, hs⟩ := s2_inj h
    subst hv
    subst hs
    exact j_iret C e dX11_childrenBy_34
  | some q4 =>
    refine k_V (v := some (.ref (wad (ωC α) q4))) C vb_X11_sheetAt (ci := 10) (T := TX11) (N := 17) rfl (by decide) (c11_sheetAt _ hc3) rfl (by decide) wd_912 (rfl) rfl dX11_childrenBy_2 ?_
    show J (ωC α) κ _ _ 5 _ [.ref (wad (ωC α) q4)] s2
    refine j_astore (L' := [(5, .ref (wad (ωC α) q4)), (0, .ref (wad (ωC α) 0)), (1, .int a1), (2, .int a2), (3, .int a3), (4, .int a4)]) C dX11_childrenBy_5 rfl rfl ?_
    refine j_aload C 0 dX11_childrenBy_7 rfl ?_
    refine j_ifnull C dX11_childrenBy_9 ?_
    refine j_iload_n C 3 dX11_childrenBy_12 rfl ?_
    refine j_iconst (v := 0) C dX11_childrenBy_13 (by decide) ?_
    refine j_iconst (v := 2) C dX11_childrenBy_14 (by decide) ?_
    obtain ⟨r5, s6, hc7, h⟩ := bnd_some h
    refine k_S (v := some (.int r5)) C sb_X11_within (c11_within _ hc7) rfl (by decide) wd_638 rfl dX11_childrenBy_15 ?_
    show J (ωC α) κ _ _ 18 _ [.int r5] s6
    refine j_if_eq (tgt := 32) C dX11_childrenBy_18 (by decide) (fun c8 => ?_) (fun c8 => ?_)
    · replace h := it c8 h
      refine j_bipush (v := -2) C dX11_childrenBy_32 (by decide) ?_
      obtain ⟨hv, hs⟩ := s2_inj h
      subst hv
      subst hs
      exact j_iret C e dX11_childrenBy_34
    · replace h := ie c8 h
      refine j_iload C 5 dX11_childrenBy_21 rfl ?_
      refine j_iconst (v := 0) C dX11_childrenBy_23 (by decide) ?_
      refine j_bipush (v := 8) C dX11_childrenBy_24 (by decide) ?_
      obtain ⟨r9, s10, hc11, h⟩ := bnd_some h
      refine k_S (v := some (.int r9)) C sb_X11_within (c11_within _ hc11) rfl (by decide) wd_638 rfl dX11_childrenBy_26 ?_
      show J (ωC α) κ _ _ 29 _ [.int r9] s10
      refine j_if_ne (tgt := 35) C dX11_childrenBy_29 (by decide) (fun c12 => ?_) (fun c12 => ?_)
      · replace h := ie c12 h
        refine j_aload C 0 dX11_childrenBy_35 rfl ?_
        obtain ⟨g13, h⟩ := gd_some h
        obtain ⟨r14, s15, hc16, h⟩ := bnd_some h
        refine k_V (v := some (.int r14)) C vb_X7_isMissing (ci := 6) (T := TX7) (N := 3) rfl (by decide) (c7_isMissing _ hc16) rfl (by decide) wd_920 (isO_sh g13) rfl dX11_childrenBy_37 ?_
        show J (ωC α) κ _ _ 40 _ [.int r14] s15
        refine j_if_eq (tgt := 46) C dX11_childrenBy_40 (by decide) (fun c17 => ?_) (fun c17 => ?_)
        · replace h := it c17 h
          refine j_aload C 0 dX11_childrenBy_46 rfl ?_
          refine j_geti (o := q4) (j := 1) C inT7 (ci := 6) rfl (by decide) (isO_sh g13) rfl rfl wd_352 dX11_childrenBy_48 ?_
          refine j_iload_n C 3 dX11_childrenBy_51 rfl ?_
          refine j_icmp_eq (tgt := 58) C dX11_childrenBy_52 (by decide) (fun c18 => ?_) (fun c18 => ?_)
          · replace h := it c18 h
            refine j_iconst (v := 0) C dX11_childrenBy_58 (by decide) ?_
            refine j_istore (L' := [(6, .int (0 : Int32)), (5, .ref (wad (ωC α) q4)), (0, .ref (wad (ωC α) 0)), (1, .int a1), (2, .int a2), (3, .int a3), (4, .int a4)]) C dX11_childrenBy_59 rfl rfl ?_
            refine j_iconst (v := 0) C dX11_childrenBy_61 (by decide) ?_
            refine j_istore (L' := [(7, .int (0 : Int32)), (6, .int (0 : Int32)), (5, .ref (wad (ωC α) q4)), (0, .ref (wad (ωC α) 0)), (1, .int a1), (2, .int a2), (3, .int a3), (4, .int a4)]) C dX11_childrenBy_62 rfl rfl ?_
            exact j_sub [3, 6, 7, 2, 1, 0] rfl (b11_childrenBy_64 C e h)
          · replace h := ie c18 h
            refine j_bipush (v := -13) C dX11_childrenBy_55 (by decide) ?_
            obtain ⟨hv, hs⟩ := s2_inj h
            subst hv
            subst hs
            exact j_iret C e dX11_childrenBy_57
        · replace h := ie c17 h
          refine j_bipush (v := -11) C dX11_childrenBy_43 (by decide) ?_
          obtain ⟨hv, hs⟩ := s2_inj h
          subst hv
          subst hs
          exact j_iret C e dX11_childrenBy_45
      · replace h := it c12 h
        refine j_bipush (v := -2) C dX11_childrenBy_32 (by decide) ?_
        obtain ⟨hv, hs⟩ := s2_inj h
        subst hv
        subst hs
        exact j_iret C e dX11_childrenBy_34
set_option maxRecDepth 10000 in
theorem c11_takenForRace (l : Launch) {α : WA} {fu : Nat} {a1 : Int32} {a2 : Int32} {σ σ' : M2} {v : Int32}  (h : F11_takenForRace fu a1 a2 σ = some (v, σ')) : Ct l (ωC α) yX11_takenForRace cX11_takenForRace 3 (some FieldType.int) 3 [.ref (wad (ωC α) 0), .int a1, .int a2] σ (some (.int v)) σ' := by
  unfold F11_takenForRace at h
  refine Ct.of (own := "EveryoneWins") (L := [(0, .ref (wad (ωC α) 0)), (1, .int a1), (2, .int a2)]) (by decide +kernel) rfl rfl rfl (fun κ hl e C => ?_)
  show J (ωC α) κ 3 3 0 [(0, .ref (wad (ωC α) 0)), (1, .int a1), (2, .int a2)] [] σ
  refine j_aload_n C 0 dX11_takenForRace_0 rfl ?_
  refine j_iload_n C 1 dX11_takenForRace_1 rfl ?_
  obtain ⟨r1, s2, hc3, h⟩ := bnd_some h
  refine k_V (v := some (.int r1)) C vb_X11_isRace (ci := 10) (T := TX11) (N := 17) rfl (by decide) (c11_isRace _ hc3) rfl (by decide) wd_686 (rfl) rfl dX11_takenForRace_2 ?_
  show J (ωC α) κ _ _ 5 _ [.int r1] s2
  refine j_if_ne (tgt := 11) C dX11_takenForRace_5 (by decide) (fun c4 => ?_) (fun c4 => ?_)
  · replace h := ie c4 h
    refine j_aload_n C 0 dX11_takenForRace_11 rfl ?_
    refine j_getr (o := 0) (j := 1) C inT11 (ci := 10) rfl (by decide) (rfl) rfl rfl wd_578 dX11_takenForRace_12 (o' := 5) rfl ?_
    refine j_getr (o := 5) (j := 0) C inT5 (ci := 4) rfl (by decide) (rfl) rfl rfl wd_137 dX11_takenForRace_15 (o' := 6) rfl ?_
    refine j_iload_n C 1 dX11_takenForRace_18 rfl ?_
    obtain ⟨r5, s6, hc7, h⟩ := bnd_some h
    refine k_S (v := some (.int r5)) C sb_X11_at (c11_at _ hc7) rfl (by decide) wd_661 rfl dX11_takenForRace_19 ?_
    show J (ωC α) κ _ _ 22 _ [.int r5] s6
    refine j_iload_n C 2 dX11_takenForRace_22 rfl ?_
    obtain ⟨r8, s9, hc10, h⟩ := bnd_some h
    refine k_S (v := some (.int r8)) C sb_X3_isOne (c3_isOne _ hc10) rfl (by decide) wd_1045 rfl dX11_takenForRace_23 ?_
    show J (ωC α) κ _ _ 26 _ [.int r8] s9
    refine j_if_eq (tgt := 33) C dX11_takenForRace_26 (by decide) (fun c11 => ?_) (fun c11 => ?_)
    · replace h := it c11 h
      refine j_bipush (v := -13) C dX11_takenForRace_33 (by decide) ?_
      obtain ⟨hv, hs⟩ := s2_inj h
      subst hv
      subst hs
      exact j_iret C e dX11_takenForRace_35
    · replace h := ie c11 h
      refine j_iload_n C 1 dX11_takenForRace_29 rfl ?_
      refine j_goto (tgt := 35) C dX11_takenForRace_30 (by decide) ?_
      obtain ⟨hv, hs⟩ := s2_inj h
      subst hv
      subst hs
      exact j_iret C e dX11_takenForRace_35
  · replace h := it c4 h
    refine j_bipush (v := -11) C dX11_takenForRace_8 (by decide) ?_
    obtain ⟨hv, hs⟩ := s2_inj h
    subst hv
    subst hs
    exact j_iret C e dX11_takenForRace_10
set_option maxRecDepth 10000 in
theorem c11_taken (l : Launch) {α : WA} {fu : Nat} {a1 : Int32} {a2 : Int32} {σ σ' : M2} {v : Int32}  (h : F11_taken fu a1 a2 σ = some (v, σ')) : Ct l (ωC α) yX11_taken cX11_taken 4 (some FieldType.int) 4 [.ref (wad (ωC α) 0), .int a1, .int a2] σ (some (.int v)) σ' := by
  unfold F11_taken at h
  refine Ct.of (own := "EveryoneWins") (L := [(0, .ref (wad (ωC α) 0)), (1, .int a1), (2, .int a2)]) (by decide +kernel) rfl rfl rfl (fun κ hl e C => ?_)
  show J (ωC α) κ 4 4 0 [(0, .ref (wad (ωC α) 0)), (1, .int a1), (2, .int a2)] [] σ
  refine j_iload_n C 2 dX11_taken_0 rfl ?_
  refine j_iconst (v := 0) C dX11_taken_1 (by decide) ?_
  refine j_bipush (v := 6) C dX11_taken_2 (by decide) ?_
  obtain ⟨r1, s2, hc3, h⟩ := bnd_some h
  refine k_S (v := some (.int r1)) C sb_X11_within (c11_within _ hc3) rfl (by decide) wd_638 rfl dX11_taken_4 ?_
  show J (ωC α) κ _ _ 7 _ [.int r1] s2
  refine j_if_ne (tgt := 13) C dX11_taken_7 (by decide) (fun c4 => ?_) (fun c4 => ?_)
  · replace h := ie c4 h
    refine j_iload_n C 1 dX11_taken_13 rfl ?_
    refine j_iconst (v := 0) C dX11_taken_14 (by decide) ?_
    refine j_bipush (v := 13) C dX11_taken_15 (by decide) ?_
    obtain ⟨r5, s6, hc7, h⟩ := bnd_some h
    refine k_S (v := some (.int r5)) C sb_X11_within (c11_within _ hc7) rfl (by decide) wd_638 rfl dX11_taken_17 ?_
    show J (ωC α) κ _ _ 20 _ [.int r5] s6
    refine j_if_ne (tgt := 26) C dX11_taken_20 (by decide) (fun c8 => ?_) (fun c8 => ?_)
    · replace h := ie c8 h
      refine j_iload_n C 1 dX11_taken_26 rfl ?_
      refine j_bipush (v := 6) C dX11_taken_27 (by decide) ?_
      refine j_icmp_ge (tgt := 39) C dX11_taken_29 (by decide) (fun c9 => ?_) (fun c9 => ?_)
      · replace h := it c9 h
        refine j_iload_n C 1 dX11_taken_39 rfl ?_
        refine j_bipush (v := 6) C dX11_taken_40 (by decide) ?_
        refine j_isub C dX11_taken_42 ?_
        refine j_istore_n (L' := [(3, .int (a1 - (6 : Int32))), (0, .ref (wad (ωC α) 0)), (1, .int a1), (2, .int a2)]) C dX11_taken_43 rfl rfl rfl ?_
        refine j_aload_n C 1 dX11_taken_44 rfl ?_
        refine j_iload_n C 0 dX11_taken_45 rfl ?_
        obtain ⟨r10, s11, hc12, h⟩ := bnd_some h
        refine k_V (v := some (.int r10)) C vb_X11_isChild (ci := 10) (T := TX11) (N := 17) rfl (by decide) (c11_isChild _ hc12) rfl (by decide) wd_650 (rfl) rfl dX11_taken_46 ?_
        show J (ωC α) κ _ _ 49 _ [.int r10] s11
        refine j_if_ne (tgt := 55) C dX11_taken_49 (by decide) (fun c13 => ?_) (fun c13 => ?_)
        · replace h := ie c13 h
          refine j_iload_n C 3 dX11_taken_55 rfl ?_
          refine j_bipush (v := 6) C dX11_taken_56 (by decide) ?_
          refine j_icmp_ne (tgt := 75) C dX11_taken_58 (by decide) (fun c14 => ?_) (fun c14 => ?_)
          · replace h := ie c14 h
            refine j_bipush (v := -13) C dX11_taken_75 (by decide) ?_
            obtain ⟨hv, hs⟩ := s2_inj h
            subst hv
            subst hs
            exact j_iret C e dX11_taken_77
          · replace h := it c14 h
            refine j_aload_n C 1 dX11_taken_61 rfl ?_
            refine j_getr (o := 0) (j := 0) C inT11 (ci := 10) rfl (by decide) (rfl) rfl rfl wd_577 dX11_taken_62 (o' := 1) rfl ?_
            refine j_getr (o := 1) (j := 0) C inT1 (ci := 1) rfl (by decide) (rfl) rfl rfl wd_109 dX11_taken_65 (o' := 2) rfl ?_
            refine j_iload_n C 0 dX11_taken_68 rfl ?_
            obtain ⟨r15, s16, hc17, h⟩ := bnd_some h
            refine k_S (v := some (.int r15)) C sb_X11_at (c11_at _ hc17) rfl (by decide) wd_661 rfl dX11_taken_69 ?_
            show J (ωC α) κ _ _ 72 _ [.int r15] s16
            refine j_goto (tgt := 77) C dX11_taken_72 (by decide) ?_
            obtain ⟨hv, hs⟩ := s2_inj h
            subst hv
            subst hs
            exact j_iret C e dX11_taken_77
        · replace h := it c13 h
          refine j_bipush (v := -11) C dX11_taken_52 (by decide) ?_
          obtain ⟨hv, hs⟩ := s2_inj h
          subst hv
          subst hs
          exact j_iret C e dX11_taken_54
      · replace h := ie c9 h
        refine j_aload_n C 0 dX11_taken_32 rfl ?_
        refine j_iload_n C 1 dX11_taken_33 rfl ?_
        refine j_iload_n C 2 dX11_taken_34 rfl ?_
        obtain ⟨r18, s19, hc20, h⟩ := bnd_some h
        refine k_V (v := some (.int r18)) C vb_X11_takenForRace (ci := 10) (T := TX11) (N := 17) rfl (by decide) (c11_takenForRace _ hc20) rfl (by decide) wd_1041 (rfl) rfl dX11_taken_35 ?_
        show J (ωC α) κ _ _ 38 _ [.int r18] s19
        obtain ⟨hv, hs⟩ := s2_inj h
        subst hv
        subst hs
        exact j_iret C e dX11_taken_38
    · replace h := it c8 h
      refine j_bipush (v := -12) C dX11_taken_23 (by decide) ?_
      obtain ⟨hv, hs⟩ := s2_inj h
      subst hv
      subst hs
      exact j_iret C e dX11_taken_25
  · replace h := it c4 h
    refine j_bipush (v := -2) C dX11_taken_10 (by decide) ?_
    obtain ⟨hv, hs⟩ := s2_inj h
    subst hv
    subst hs
    exact j_iret C e dX11_taken_12
set_option maxRecDepth 10000 in
theorem c12_in (l : Launch) {α : WA}  {a1 : Int32} {a2 : Int32} {a3 : Int32} {σ σ' : M2} {v : Int32}  (h : F12_in a1 a2 a3 σ = some (v, σ')) : Ct l (ωM α) yX12_in cX12_in 3 (some FieldType.boolean) 1 [.int a1, .int a2, .int a3] σ (some (.int v)) σ' := by
  unfold F12_in at h
  refine Ct.of (own := "EveryoneWinsModel") (L := [(0, .int a1), (1, .int a2), (2, .int a3)]) (by decide +kernel) rfl rfl rfl (fun κ hl e C => ?_)
  show J (ωM α) κ 1 3 0 [(0, .int a1), (1, .int a2), (2, .int a3)] [] σ
  refine j_iload_n C 0 dX12_in_0 rfl ?_
  refine j_iload_n C 1 dX12_in_1 rfl ?_
  refine j_icmp_lt (tgt := 14) C dX12_in_2 (by decide) (fun c1 => ?_) (fun c1 => ?_)
  · replace h := it c1 h
    refine j_iconst (v := 0) C dX12_in_14 (by decide) ?_
    obtain ⟨hv, hs⟩ := s2_inj h
    subst hv
    subst hs
    exact j_zret C e rfl dX12_in_15
  · replace h := ie c1 h
    refine j_iload_n C 0 dX12_in_5 rfl ?_
    refine j_iload_n C 2 dX12_in_6 rfl ?_
    refine j_icmp_gt (tgt := 14) C dX12_in_7 (by decide) (fun c2 => ?_) (fun c2 => ?_)
    · replace h := it c2 h
      refine j_iconst (v := 0) C dX12_in_14 (by decide) ?_
      obtain ⟨hv, hs⟩ := s2_inj h
      subst hv
      subst hs
      exact j_zret C e rfl dX12_in_15
    · replace h := ie c2 h
      refine j_iconst (v := 1) C dX12_in_10 (by decide) ?_
      refine j_goto (tgt := 15) C dX12_in_11 (by decide) ?_
      obtain ⟨hv, hs⟩ := s2_inj h
      subst hv
      subst hs
      exact j_zret C e rfl dX12_in_15
set_option maxRecDepth 10000 in
theorem c12_within (l : Launch) {α : WA}  {a1 : Int32} {a2 : Int32} {a3 : Int32} {σ σ' : M2} {v : Int32}  (h : F12_within a1 a2 a3 σ = some (v, σ')) : Ct l (ωM α) yX12_within cX12_within 3 (some FieldType.int) 1 [.int a1, .int a2, .int a3] σ (some (.int v)) σ' := by
  unfold F12_within at h
  refine Ct.of (own := "EveryoneWinsModel") (L := [(0, .int a1), (1, .int a2), (2, .int a3)]) (by decide +kernel) rfl rfl rfl (fun κ hl e C => ?_)
  show J (ωM α) κ 1 3 0 [(0, .int a1), (1, .int a2), (2, .int a3)] [] σ
  refine j_iload_n C 0 dX12_within_0 rfl ?_
  refine j_iload_n C 1 dX12_within_1 rfl ?_
  refine j_icmp_ge (tgt := 9) C dX12_within_2 (by decide) (fun c1 => ?_) (fun c1 => ?_)
  · replace h := it c1 h
    refine j_iload_n C 0 dX12_within_9 rfl ?_
    refine j_iload_n C 2 dX12_within_10 rfl ?_
    refine j_icmp_le (tgt := 18) C dX12_within_11 (by decide) (fun c2 => ?_) (fun c2 => ?_)
    · replace h := it c2 h
      refine j_iload_n C 0 dX12_within_18 rfl ?_
      obtain ⟨hv, hs⟩ := s2_inj h
      subst hv
      subst hs
      exact j_iret C e dX12_within_19
    · replace h := ie c2 h
      refine j_iload_n C 2 dX12_within_14 rfl ?_
      refine j_goto (tgt := 19) C dX12_within_15 (by decide) ?_
      obtain ⟨hv, hs⟩ := s2_inj h
      subst hv
      subst hs
      exact j_iret C e dX12_within_19
  · replace h := ie c1 h
    refine j_iload_n C 1 dX12_within_5 rfl ?_
    refine j_goto (tgt := 19) C dX12_within_6 (by decide) ?_
    obtain ⟨hv, hs⟩ := s2_inj h
    subst hv
    subst hs
    exact j_iret C e dX12_within_19
set_option maxRecDepth 10000 in
theorem b12_ones_4 {α : WA} {κ : KT} {fu : Nat} {v : Int32} {σ' : M2} {x0 : Int32} {x1 : Int32} {x2 : Int32} (C : Cx (ωM α) κ cX12_ones 3 "EveryoneWinsModel" (some FieldType.int)) (e : κ.2.2.2.2.2.2.2.2.2 = (some (.int v), σ'))  {σ : M2} (h : F12_ones_4 fu x0 x1 x2 σ = some (v, σ')) : J (ωM α) κ 1 3 4 [(0, .int x0), (1, .int x1), (2, .int x2)] [] σ := by
  unfold F12_ones_4 at h
  refine wl2_ind (fun x1 x2 σ => J (ωM α) κ 1 3 4 [(0, .int x0), (1, .int x1), (2, .int x2)] [] σ) ?_ fu x1 x2 σ h
  intro k4 hk4 x1 x2 σ h
  try dsimp only at h
  show J (ωM α) κ 1 3 4 [(0, .int x0), (1, .int x1), (2, .int x2)] [] σ
  refine j_iload_n C 2 dX12_ones_4 rfl ?_
  refine j_bipush (v := 8) C dX12_ones_5 (by decide) ?_
  refine j_icmp_ge (tgt := 24) C dX12_ones_7 (by decide) (fun c1 => ?_) (fun c1 => ?_)
  · replace h := it c1 h
    refine j_iload_n C 1 dX12_ones_24 rfl ?_
    obtain ⟨hv, hs⟩ := s2_inj h
    subst hv
    subst hs
    exact j_iret C e dX12_ones_25
  · replace h := ie c1 h
    refine j_iload_n C 1 dX12_ones_10 rfl ?_
    refine j_iload_n C 0 dX12_ones_11 rfl ?_
    refine j_iload_n C 2 dX12_ones_12 rfl ?_
    refine j_ishr C dX12_ones_13 ?_
    refine j_iconst (v := 1) C dX12_ones_14 (by decide) ?_
    refine j_iand C dX12_ones_15 ?_
    refine j_iadd C dX12_ones_16 ?_
    refine j_istore_n (L' := [(1, .int (x1 + ((x0 >>> (x2 &&& 31)) &&& (1 : Int32)))), (0, .int x0), (2, .int x2)]) C dX12_ones_17 rfl rfl rfl ?_
    refine j_iinc (L' := [(2, .int (x2 + 1)), (1, .int (x1 + ((x0 >>> (x2 &&& 31)) &&& (1 : Int32)))), (0, .int x0)]) C 2 dX12_ones_18 rfl rfl rfl rfl ?_
    refine j_goto (tgt := 4) C dX12_ones_21 (by decide) ?_
    exact j_sub [2, 1, 0] rfl (hk4 _ _ _ h)
set_option maxRecDepth 10000 in
theorem c12_ones (l : Launch) {α : WA} {fu : Nat} {a1 : Int32} {σ σ' : M2} {v : Int32}  (h : F12_ones fu a1 σ = some (v, σ')) : Ct l (ωM α) yX12_ones cX12_ones 3 (some FieldType.int) 1 [.int a1] σ (some (.int v)) σ' := by
  unfold F12_ones at h
  refine Ct.of (own := "EveryoneWinsModel") (L := [(0, .int a1)]) (by decide +kernel) rfl rfl rfl (fun κ hl e C => ?_)
  show J (ωM α) κ 1 3 0 [(0, .int a1)] [] σ
  refine j_iconst (v := 0) C dX12_ones_0 (by decide) ?_
  refine j_istore_n (L' := [(1, .int (0 : Int32)), (0, .int a1)]) C dX12_ones_1 rfl rfl rfl ?_
  refine j_iconst (v := 0) C dX12_ones_2 (by decide) ?_
  refine j_istore_n (L' := [(2, .int (0 : Int32)), (1, .int (0 : Int32)), (0, .int a1)]) C dX12_ones_3 rfl rfl rfl ?_
  exact j_sub [2, 1, 0] rfl (b12_ones_4 C e h)
set_option maxRecDepth 10000 in
theorem c12_isChild (l : Launch) {α : WA}  {a1 : Int32} {σ σ' : M2} {v : Int32}  (h : F12_isChild a1 σ = some (v, σ')) : Ct l (ωM α) yX12_isChild cX12_isChild 2 (some FieldType.boolean) 2 [.ref (wad (ωM α) 0), .int a1] σ (some (.int v)) σ' := by
  unfold F12_isChild at h
  refine Ct.of (own := "EveryoneWinsModel") (L := [(0, .ref (wad (ωM α) 0)), (1, .int a1)]) (by decide +kernel) rfl rfl rfl (fun κ hl e C => ?_)
  show J (ωM α) κ 2 2 0 [(0, .ref (wad (ωM α) 0)), (1, .int a1)] [] σ
  refine j_iload_n C 1 dX12_isChild_0 rfl ?_
  refine j_iconst (v := 0) C dX12_isChild_1 (by decide) ?_
  refine j_aload_n C 0 dX12_isChild_2 rfl ?_
  refine j_geti (o := 0) (j := 0) C inT12 (ci := 11) rfl (by decide) (rfl) rfl rfl wd_1099 dX12_isChild_3 ?_
  refine j_iconst (v := 1) C dX12_isChild_6 (by decide) ?_
  refine j_isub C dX12_isChild_7 ?_
  obtain ⟨r1, s2, hc3, h⟩ := bnd_some h
  refine k_S (v := some (.int r1)) C sb_X12_in (c12_in _ hc3) rfl (by decide) wd_1060 rfl dX12_isChild_8 ?_
  show J (ωM α) κ _ _ 11 _ [.int r1] s2
  obtain ⟨g4, h⟩ := gd_some h
  obtain ⟨hv, hs⟩ := s2_inj h
  subst hv
  subst hs
  exact j_zret C e (isZ_n g4) dX12_isChild_11
set_option maxRecDepth 10000 in
theorem c12_isRace (l : Launch) {α : WA}  {a1 : Int32} {σ σ' : M2} {v : Int32}  (h : F12_isRace a1 σ = some (v, σ')) : Ct l (ωM α) yX12_isRace cX12_isRace 2 (some FieldType.boolean) 2 [.ref (wad (ωM α) 0), .int a1] σ (some (.int v)) σ' := by
  unfold F12_isRace at h
  refine Ct.of (own := "EveryoneWinsModel") (L := [(0, .ref (wad (ωM α) 0)), (1, .int a1)]) (by decide +kernel) rfl rfl rfl (fun κ hl e C => ?_)
  show J (ωM α) κ 2 2 0 [(0, .ref (wad (ωM α) 0)), (1, .int a1)] [] σ
  refine j_iload_n C 1 dX12_isRace_0 rfl ?_
  refine j_iconst (v := 0) C dX12_isRace_1 (by decide) ?_
  refine j_aload_n C 0 dX12_isRace_2 rfl ?_
  refine j_geti (o := 0) (j := 2) C inT12 (ci := 11) rfl (by decide) (rfl) rfl rfl wd_1101 dX12_isRace_3 ?_
  refine j_iconst (v := 1) C dX12_isRace_6 (by decide) ?_
  refine j_isub C dX12_isRace_7 ?_
  obtain ⟨r1, s2, hc3, h⟩ := bnd_some h
  refine k_S (v := some (.int r1)) C sb_X12_in (c12_in _ hc3) rfl (by decide) wd_1060 rfl dX12_isRace_8 ?_
  show J (ωM α) κ _ _ 11 _ [.int r1] s2
  obtain ⟨g4, h⟩ := gd_some h
  obtain ⟨hv, hs⟩ := s2_inj h
  subst hv
  subst hs
  exact j_zret C e (isZ_n g4) dX12_isRace_11
set_option maxRecDepth 10000 in
theorem c12_count (l : Launch) {α : WA}  {a1 : Int32} {σ σ' : M2} {v : Int32}  (h : F12_count a1 σ = some (v, σ')) : Ct l (ωM α) yX12_count cX12_count 2 (some FieldType.int) 1 [.ref (wad (ωM α) 0), .int a1] σ (some (.int v)) σ' := by
  unfold F12_count at h
  refine Ct.of (own := "EveryoneWinsModel") (L := [(0, .ref (wad (ωM α) 0)), (1, .int a1)]) (by decide +kernel) rfl rfl rfl (fun κ hl e C => ?_)
  show J (ωM α) κ 1 2 0 [(0, .ref (wad (ωM α) 0)), (1, .int a1)] [] σ
  refine j_iload_n C 1 dX12_count_0 rfl ?_
  by_cases c1 : a1 = (0 : Int32)
  · replace h := it c1 h
    refine j_tabEq (tgt := 36) C dX12_count_1 c1 (by decide) (by decide) rfl (by decide) ?_
    refine j_aload_n C 0 dX12_count_36 rfl ?_
    refine j_geti (o := 0) (j := 2) C inT12 (ci := 11) rfl (by decide) (rfl) rfl rfl wd_1101 dX12_count_37 ?_
    obtain ⟨hv, hs⟩ := s2_inj h
    subst hv
    subst hs
    exact j_iret C e dX12_count_40
  replace h := ie c1 h
  by_cases c2 : a1 = (1 : Int32)
  · replace h := it c2 h
    refine j_tabEq (tgt := 41) C dX12_count_1 c2 (by decide) (by decide) rfl (by decide) ?_
    refine j_aload_n C 0 dX12_count_41 rfl ?_
    refine j_geti (o := 0) (j := 0) C inT12 (ci := 11) rfl (by decide) (rfl) rfl rfl wd_1099 dX12_count_42 ?_
    obtain ⟨hv, hs⟩ := s2_inj h
    subst hv
    subst hs
    exact j_iret C e dX12_count_45
  replace h := ie c2 h
  by_cases c3 : a1 = (2 : Int32)
  · replace h := it c3 h
    refine j_tabEq (tgt := 46) C dX12_count_1 c3 (by decide) (by decide) rfl (by decide) ?_
    refine j_aload_n C 0 dX12_count_46 rfl ?_
    refine j_geti (o := 0) (j := 10) C inT12 (ci := 11) rfl (by decide) (rfl) rfl rfl wd_1109 dX12_count_47 ?_
    obtain ⟨hv, hs⟩ := s2_inj h
    subst hv
    subst hs
    exact j_iret C e dX12_count_50
  replace h := ie c3 h
  by_cases c4 : a1 = (3 : Int32)
  · replace h := it c4 h
    refine j_tabEq (tgt := 51) C dX12_count_1 c4 (by decide) (by decide) rfl (by decide) ?_
    refine j_aload_n C 0 dX12_count_51 rfl ?_
    refine j_geti (o := 0) (j := 11) C inT12 (ci := 11) rfl (by decide) (rfl) rfl rfl wd_1110 dX12_count_52 ?_
    obtain ⟨hv, hs⟩ := s2_inj h
    subst hv
    subst hs
    exact j_iret C e dX12_count_55
  replace h := ie c4 h
  by_cases c5 : a1 = (4 : Int32)
  · replace h := it c5 h
    refine j_tabEq (tgt := 56) C dX12_count_1 c5 (by decide) (by decide) rfl (by decide) ?_
    refine j_aload_n C 0 dX12_count_56 rfl ?_
    refine j_geti (o := 0) (j := 7) C inT12 (ci := 11) rfl (by decide) (rfl) rfl rfl wd_1106 dX12_count_57 ?_
    obtain ⟨hv, hs⟩ := s2_inj h
    subst hv
    subst hs
    exact j_iret C e dX12_count_60
  replace h := ie c5 h
  refine j_tableOut (tgt := 61) C dX12_count_1 (by have q0 := ne_ti c1 (z := 0) (by decide); have q1 := ne_ti c2 (z := 1) (by decide); have q2 := ne_ti c3 (z := 2) (by decide); have q3 := ne_ti c4 (z := 3) (by decide); have q4 := ne_ti c5 (z := 4) (by decide); omega) (by decide) ?_
  refine j_bipush (v := -2) C dX12_count_61 (by decide) ?_
  obtain ⟨hv, hs⟩ := s2_inj h
  subst hv
  subst hs
  exact j_iret C e dX12_count_63
set_option maxRecDepth 10000 in
theorem c12_child (l : Launch) {α : WA}  {a1 : Int32} {σ σ' : M2} {v : Int32}  (h : F12_child a1 σ = some (v, σ')) : Ct l (ωM α) yX12_child cX12_child 2 (some FieldType.int) 2 [.ref (wad (ωM α) 0), .int a1] σ (some (.int v)) σ' := by
  unfold F12_child at h
  refine Ct.of (own := "EveryoneWinsModel") (L := [(0, .ref (wad (ωM α) 0)), (1, .int a1)]) (by decide +kernel) rfl rfl rfl (fun κ hl e C => ?_)
  show J (ωM α) κ 2 2 0 [(0, .ref (wad (ωM α) 0)), (1, .int a1)] [] σ
  refine j_iload_n C 1 dX12_child_0 rfl ?_
  refine j_iconst (v := 0) C dX12_child_1 (by decide) ?_
  refine j_sipush (v := 9999) C dX12_child_2 (by decide) ?_
  obtain ⟨r1, s2, hc3, h⟩ := bnd_some h
  refine k_S (v := some (.int r1)) C sb_X12_in (c12_in _ hc3) rfl (by decide) wd_1060 rfl dX12_child_5 ?_
  show J (ωM α) κ _ _ 8 _ [.int r1] s2
  refine j_if_ne (tgt := 14) C dX12_child_8 (by decide) (fun c4 => ?_) (fun c4 => ?_)
  · replace h := ie c4 h
    refine j_aload_n C 0 dX12_child_14 rfl ?_
    refine j_geti (o := 0) (j := 0) C inT12 (ci := 11) rfl (by decide) (rfl) rfl rfl wd_1099 dX12_child_15 ?_
    refine j_bipush (v := 8) C dX12_child_18 (by decide) ?_
    refine j_icmp_ne (tgt := 26) C dX12_child_20 (by decide) (fun c5 => ?_) (fun c5 => ?_)
    · replace h := ie c5 h
      refine j_aload_n C 0 dX12_child_26 rfl ?_
      refine j_getr (o := 0) (j := 1) C inT12 (ci := 11) rfl (by decide) (rfl) rfl rfl wd_1100 dX12_child_27 (o' := 1) rfl ?_
      refine j_iconst (v := 3) C dX12_child_30 (by decide) ?_
      refine j_aload_n C 0 dX12_child_31 rfl ?_
      refine j_geti (o := 0) (j := 0) C inT12 (ci := 11) rfl (by decide) (rfl) rfl rfl wd_1099 dX12_child_32 ?_
      refine j_imul C dX12_child_35 ?_
      refine j_iload_n C 1 dX12_child_36 rfl ?_
      refine j_bipush (v := 100) C dX12_child_37 (by decide) ?_
      refine j_idiv C dX12_child_39 (by decide) ?_
      obtain ⟨g6, h⟩ := gd_some h
      refine j_iastore (N := 24) C (rfl) (inb_in g6) dX12_child_40 ?_
      refine j_aload_n C 0 dX12_child_41 rfl ?_
      refine j_getr (o := 0) (j := 1) C inT12 (ci := 11) rfl (by decide) (rfl) rfl rfl wd_1100 dX12_child_42 (o' := 1) rfl ?_
      refine j_iconst (v := 3) C dX12_child_45 (by decide) ?_
      refine j_aload_n C 0 dX12_child_46 rfl ?_
      refine j_geti (o := 0) (j := 0) C inT12 (ci := 11) rfl (by decide) (rfl) rfl rfl wd_1099 dX12_child_47 ?_
      refine j_imul C dX12_child_50 ?_
      refine j_iconst (v := 1) C dX12_child_51 (by decide) ?_
      refine j_iadd C dX12_child_52 ?_
      refine j_iload_n C 1 dX12_child_53 rfl ?_
      refine j_bipush (v := 100) C dX12_child_54 (by decide) ?_
      refine j_irem C dX12_child_56 (by decide) ?_
      obtain ⟨g7, h⟩ := gd_some h
      refine j_iastore (N := 24) C (rfl) (inb_in g7) dX12_child_57 ?_
      refine j_aload_n C 0 dX12_child_58 rfl ?_
      refine j_getr (o := 0) (j := 1) C inT12 (ci := 11) rfl (by decide) (rfl) rfl rfl wd_1100 dX12_child_59 (o' := 1) rfl ?_
      refine j_iconst (v := 3) C dX12_child_62 (by decide) ?_
      refine j_aload_n C 0 dX12_child_63 rfl ?_
      refine j_geti (o := 0) (j := 0) C inT12 (ci := 11) rfl (by decide) (rfl) rfl rfl wd_1099 dX12_child_64 ?_
      refine j_imul C dX12_child_67 ?_
      refine j_iconst (v := 2) C dX12_child_68 (by decide) ?_
      refine j_iadd C dX12_child_69 ?_
      refine j_iconst (v := 0) C dX12_child_70 (by decide) ?_
      obtain ⟨g8, h⟩ := gd_some h
      refine j_iastore (N := 24) C (rfl) (inb_in g8) dX12_child_71 ?_
      refine j_aload_n C 0 dX12_child_72 rfl ?_
      refine j_dup C dX12_child_73 rfl ?_
      refine j_geti (o := 0) (j := 0) C inT12 (ci := 11) rfl (by decide) (rfl) rfl rfl wd_1099 dX12_child_74 ?_
      refine j_iconst (v := 1) C dX12_child_77 (by decide) ?_
      refine j_iadd C dX12_child_78 ?_
      refine j_puti (o := 0) (j := 0) C inT12 tyX12_ok nmX12 (ci := 11) rfl (by decide) (rfl) rfl rfl rfl (tyX12_ok 0 (by decide)) rfl rfl wd_1099 dX12_child_79 ?_
      refine j_aload_n C 0 dX12_child_82 rfl ?_
      refine j_geti (o := 0) (j := 0) C inT12 (ci := 11) rfl (by decide) (rfl) rfl rfl wd_1099 dX12_child_83 ?_
      refine j_iconst (v := 1) C dX12_child_86 (by decide) ?_
      refine j_isub C dX12_child_87 ?_
      obtain ⟨hv, hs⟩ := s2_inj h
      subst hv
      subst hs
      exact j_iret C e dX12_child_88
    · replace h := it c5 h
      refine j_bipush (v := -4) C dX12_child_23 (by decide) ?_
      obtain ⟨hv, hs⟩ := s2_inj h
      subst hv
      subst hs
      exact j_iret C e dX12_child_25
  · replace h := it c4 h
    refine j_bipush (v := -2) C dX12_child_11 (by decide) ?_
    obtain ⟨hv, hs⟩ := s2_inj h
    subst hv
    subst hs
    exact j_iret C e dX12_child_13
set_option maxRecDepth 10000 in
theorem c12_put (l : Launch) {α : WA}  {a1 : Int32} {a2 : Int32} {a3 : Int32} {σ σ' : M2} {v : Int32}  (h : F12_put a1 a2 a3 σ = some (v, σ')) : Ct l (ωM α) yX12_put cX12_put 5 (some FieldType.int) 3 [.ref (wad (ωM α) 0), .int a1, .int a2, .int a3] σ (some (.int v)) σ' := by
  unfold F12_put at h
  refine Ct.of (own := "EveryoneWinsModel") (L := [(0, .ref (wad (ωM α) 0)), (1, .int a1), (2, .int a2), (3, .int a3)]) (by decide +kernel) rfl rfl rfl (fun κ hl e C => ?_)
  show J (ωM α) κ 3 5 0 [(0, .ref (wad (ωM α) 0)), (1, .int a1), (2, .int a2), (3, .int a3)] [] σ
  refine j_aload_n C 0 dX12_put_0 rfl ?_
  refine j_iload_n C 1 dX12_put_1 rfl ?_
  obtain ⟨r1, s2, hc3, h⟩ := bnd_some h
  refine k_V (v := some (.int r1)) C vb_X12_isChild (ci := 11) (T := TX12) (N := 45) rfl (by decide) (c12_isChild _ hc3) rfl (by decide) wd_1247 (rfl) rfl dX12_put_2 ?_
  show J (ωM α) κ _ _ 5 _ [.int r1] s2
  refine j_if_ne (tgt := 11) C dX12_put_5 (by decide) (fun c4 => ?_) (fun c4 => ?_)
  · replace h := ie c4 h
    refine j_iload_n C 2 dX12_put_11 rfl ?_
    refine j_iconst (v := 0) C dX12_put_12 (by decide) ?_
    refine j_iconst (v := 2) C dX12_put_13 (by decide) ?_
    obtain ⟨r5, s6, hc7, h⟩ := bnd_some h
    refine k_S (v := some (.int r5)) C sb_X12_in (c12_in _ hc7) rfl (by decide) wd_1060 rfl dX12_put_14 ?_
    show J (ωM α) κ _ _ 17 _ [.int r5] s6
    refine j_if_eq (tgt := 30) C dX12_put_17 (by decide) (fun c8 => ?_) (fun c8 => ?_)
    · replace h := it c8 h
      refine j_bipush (v := -7) C dX12_put_30 (by decide) ?_
      obtain ⟨hv, hs⟩ := s2_inj h
      subst hv
      subst hs
      exact j_iret C e dX12_put_32
    · replace h := ie c8 h
      refine j_iload_n C 3 dX12_put_20 rfl ?_
      refine j_iconst (v := 0) C dX12_put_21 (by decide) ?_
      refine j_bipush (v := 99) C dX12_put_22 (by decide) ?_
      obtain ⟨r9, s10, hc11, h⟩ := bnd_some h
      refine k_S (v := some (.int r9)) C sb_X12_in (c12_in _ hc11) rfl (by decide) wd_1060 rfl dX12_put_24 ?_
      show J (ωM α) κ _ _ 27 _ [.int r9] s10
      refine j_if_ne (tgt := 33) C dX12_put_27 (by decide) (fun c12 => ?_) (fun c12 => ?_)
      · replace h := ie c12 h
        refine j_aload_n C 0 dX12_put_33 rfl ?_
        refine j_getr (o := 0) (j := 1) C inT12 (ci := 11) rfl (by decide) (rfl) rfl rfl wd_1100 dX12_put_34 (o' := 1) rfl ?_
        refine j_iconst (v := 3) C dX12_put_37 (by decide) ?_
        refine j_iload_n C 1 dX12_put_38 rfl ?_
        refine j_imul C dX12_put_39 ?_
        refine j_iload_n C 2 dX12_put_40 rfl ?_
        refine j_iadd C dX12_put_41 ?_
        obtain ⟨g13, h⟩ := gd_some h
        refine j_iaload (N := 24) C (rfl) (inb_in g13) dX12_put_42 ?_
        refine j_istore (L' := [(4, .int (s10 1 (((3 : Int32) * a1) + a2).toNatClampNeg)), (0, .ref (wad (ωM α) 0)), (1, .int a1), (2, .int a2), (3, .int a3)]) C dX12_put_43 rfl rfl ?_
        refine j_aload_n C 1 dX12_put_45 rfl ?_
        refine j_getr (o := 0) (j := 1) C inT12 (ci := 11) rfl (by decide) (rfl) rfl rfl wd_1100 dX12_put_46 (o' := 1) rfl ?_
        refine j_iconst (v := 3) C dX12_put_49 (by decide) ?_
        refine j_iload_n C 2 dX12_put_50 rfl ?_
        refine j_imul C dX12_put_51 ?_
        refine j_iload_n C 3 dX12_put_52 rfl ?_
        refine j_iadd C dX12_put_53 ?_
        refine j_iload_n C 4 dX12_put_54 rfl ?_
        refine j_iastore (N := 24) C (rfl) (inb_in g13) dX12_put_55 ?_
        refine j_iload C 0 dX12_put_56 rfl ?_
        obtain ⟨hv, hs⟩ := s2_inj h
        subst hv
        subst hs
        exact j_iret C e dX12_put_58
      · replace h := it c12 h
        refine j_bipush (v := -7) C dX12_put_30 (by decide) ?_
        obtain ⟨hv, hs⟩ := s2_inj h
        subst hv
        subst hs
        exact j_iret C e dX12_put_32
  · replace h := it c4 h
    refine j_bipush (v := -5) C dX12_put_8 (by decide) ?_
    obtain ⟨hv, hs⟩ := s2_inj h
    subst hv
    subst hs
    exact j_iret C e dX12_put_10
set_option maxRecDepth 10000 in
theorem c12_told (l : Launch) {α : WA}  {a1 : Int32} {a2 : Int32} {σ σ' : M2} {v : Int32}  (h : F12_told a1 a2 σ = some (v, σ')) : Ct l (ωM α) yX12_told cX12_told 3 (some FieldType.int) 3 [.ref (wad (ωM α) 0), .int a1, .int a2] σ (some (.int v)) σ' := by
  unfold F12_told at h
  refine Ct.of (own := "EveryoneWinsModel") (L := [(0, .ref (wad (ωM α) 0)), (1, .int a1), (2, .int a2)]) (by decide +kernel) rfl rfl rfl (fun κ hl e C => ?_)
  show J (ωM α) κ 3 3 0 [(0, .ref (wad (ωM α) 0)), (1, .int a1), (2, .int a2)] [] σ
  refine j_aload_n C 0 dX12_told_0 rfl ?_
  refine j_iload_n C 1 dX12_told_1 rfl ?_
  obtain ⟨r1, s2, hc3, h⟩ := bnd_some h
  refine k_V (v := some (.int r1)) C vb_X12_isChild (ci := 11) (T := TX12) (N := 45) rfl (by decide) (c12_isChild _ hc3) rfl (by decide) wd_1247 (rfl) rfl dX12_told_2 ?_
  show J (ωM α) κ _ _ 5 _ [.int r1] s2
  refine j_if_ne (tgt := 11) C dX12_told_5 (by decide) (fun c4 => ?_) (fun c4 => ?_)
  · replace h := ie c4 h
    refine j_iload_n C 2 dX12_told_11 rfl ?_
    refine j_iconst (v := 0) C dX12_told_12 (by decide) ?_
    refine j_iconst (v := 2) C dX12_told_13 (by decide) ?_
    obtain ⟨r5, s6, hc7, h⟩ := bnd_some h
    refine k_S (v := some (.int r5)) C sb_X12_in (c12_in _ hc7) rfl (by decide) wd_1060 rfl dX12_told_14 ?_
    show J (ωM α) κ _ _ 17 _ [.int r5] s6
    refine j_if_eq (tgt := 33) C dX12_told_17 (by decide) (fun c8 => ?_) (fun c8 => ?_)
    · replace h := it c8 h
      refine j_bipush (v := -7) C dX12_told_33 (by decide) ?_
      obtain ⟨hv, hs⟩ := s2_inj h
      subst hv
      subst hs
      exact j_iret C e dX12_told_35
    · replace h := ie c8 h
      refine j_aload_n C 0 dX12_told_20 rfl ?_
      refine j_getr (o := 0) (j := 1) C inT12 (ci := 11) rfl (by decide) (rfl) rfl rfl wd_1100 dX12_told_21 (o' := 1) rfl ?_
      refine j_iconst (v := 3) C dX12_told_24 (by decide) ?_
      refine j_iload_n C 1 dX12_told_25 rfl ?_
      refine j_imul C dX12_told_26 ?_
      refine j_iload_n C 2 dX12_told_27 rfl ?_
      refine j_iadd C dX12_told_28 ?_
      obtain ⟨g9, h⟩ := gd_some h
      refine j_iaload (N := 24) C (rfl) (inb_in g9) dX12_told_29 ?_
      refine j_goto (tgt := 35) C dX12_told_30 (by decide) ?_
      obtain ⟨hv, hs⟩ := s2_inj h
      subst hv
      subst hs
      exact j_iret C e dX12_told_35
  · replace h := it c4 h
    refine j_bipush (v := -5) C dX12_told_8 (by decide) ?_
    obtain ⟨hv, hs⟩ := s2_inj h
    subst hv
    subst hs
    exact j_iret C e dX12_told_10
set_option maxRecDepth 10000 in
theorem c12_isByte (l : Launch) {α : WA}  {a1 : Int32} {σ σ' : M2} {v : Int32}  (h : F12_isByte a1 σ = some (v, σ')) : Ct l (ωM α) yX12_isByte cX12_isByte 1 (some FieldType.boolean) 2 [.int a1] σ (some (.int v)) σ' := by
  unfold F12_isByte at h
  refine Ct.of (own := "EveryoneWinsModel") (L := [(0, .int a1)]) (by decide +kernel) rfl rfl rfl (fun κ hl e C => ?_)
  show J (ωM α) κ 2 1 0 [(0, .int a1)] [] σ
  refine j_iload_n C 0 dX12_isByte_0 rfl ?_
  refine j_iconst (v := 0) C dX12_isByte_1 (by decide) ?_
  refine j_sipush (v := 255) C dX12_isByte_2 (by decide) ?_
  obtain ⟨r1, s2, hc3, h⟩ := bnd_some h
  refine k_S (v := some (.int r1)) C sb_X12_in (c12_in _ hc3) rfl (by decide) wd_1060 rfl dX12_isByte_5 ?_
  show J (ωM α) κ _ _ 8 _ [.int r1] s2
  obtain ⟨g4, h⟩ := gd_some h
  obtain ⟨hv, hs⟩ := s2_inj h
  subst hv
  subst hs
  exact j_zret C e (isZ_n g4) dX12_isByte_8
set_option maxRecDepth 10000 in
theorem b12_feed_125 {α : WA} {κ : KT} {fu : Nat} {v : Int32} {σ' : M2} {x1 : Int32} {x2 : Int32} {x3 : Int32} {x4 : Int32} {x5 : Int32} {x6 : Int32} {x7 : Int32} {y0 : Int32} {y1 : Int32} (C : Cx (ωM α) κ cX12_feed 8 "EveryoneWinsModel" (some FieldType.int)) (e : κ.2.2.2.2.2.2.2.2.2 = (some (.int v), σ')) {k68 : Int32 → M2 → Option (Int32 × M2)} (hk68 : ∀ (x7' : Int32) (σ : M2), k68 x7' σ = some (v, σ') → J (ωM α) κ 3 8 68 [(0, .ref (wad (ωM α) 0)), (1, .int x1), (2, .int x2), (3, .int x3), (4, .int x4), (5, .int x5), (6, .int x6), (7, .int x7')] [] σ) {σ : M2} (h : F12_feed_125 fu k68 x1 x2 x3 x4 x5 x6 x7 y0 y1 σ = some (v, σ')) : J (ωM α) κ 3 8 125 [(0, .ref (wad (ωM α) 0)), (1, .int x1), (2, .int x2), (3, .int x3), (4, .int x4), (5, .int x5), (6, .int x6), (7, .int x7)] [.int y0, .int y1, .ref (wad (ωM α) 5)] σ := by
  unfold F12_feed_125 at h
  obtain ⟨g1, h⟩ := gd_some h
  refine j_iastore (N := 160) C (rfl) (inb_in g1) dX12_feed_125 ?_
  refine j_aload_n C 0 dX12_feed_126 rfl ?_
  refine j_dup C dX12_feed_127 rfl ?_
  refine j_geti (o := 0) (j := 7) C inT12 (ci := 11) rfl (by decide) (rfl) rfl rfl wd_1106 dX12_feed_128 ?_
  refine j_iconst (v := 1) C dX12_feed_131 (by decide) ?_
  refine j_iadd C dX12_feed_132 ?_
  refine j_puti (o := 0) (j := 7) C inT12 tyX12_ok nmX12 (ci := 11) rfl (by decide) (rfl) rfl rfl rfl (tyX12_ok 7 (by decide)) rfl rfl wd_1106 dX12_feed_133 ?_
  refine j_iinc (L' := [(7, .int (x7 + 1)), (0, .ref (wad (ωM α) 0)), (1, .int x1), (2, .int x2), (3, .int x3), (4, .int x4), (5, .int x5), (6, .int x6)]) C 7 dX12_feed_136 rfl rfl rfl rfl ?_
  refine j_goto (tgt := 68) C dX12_feed_139 (by decide) ?_
  exact j_sub [1, 2, 3, 4, 5, 6, 7, 0] rfl (hk68 _ _ h)
set_option maxRecDepth 10000 in
theorem b12_feed_68 {α : WA} {κ : KT} {fu : Nat} {v : Int32} {σ' : M2} {x1 : Int32} {x2 : Int32} {x3 : Int32} {x4 : Int32} {x5 : Int32} {x6 : Int32} {x7 : Int32} (C : Cx (ωM α) κ cX12_feed 8 "EveryoneWinsModel" (some FieldType.int)) (e : κ.2.2.2.2.2.2.2.2.2 = (some (.int v), σ'))  {σ : M2} (h : F12_feed_68 fu x1 x2 x3 x4 x5 x6 x7 σ = some (v, σ')) : J (ωM α) κ 3 8 68 [(0, .ref (wad (ωM α) 0)), (1, .int x1), (2, .int x2), (3, .int x3), (4, .int x4), (5, .int x5), (6, .int x6), (7, .int x7)] [] σ := by
  unfold F12_feed_68 at h
  refine wl1_ind (fun x7 σ => J (ωM α) κ 3 8 68 [(0, .ref (wad (ωM α) 0)), (1, .int x1), (2, .int x2), (3, .int x3), (4, .int x4), (5, .int x5), (6, .int x6), (7, .int x7)] [] σ) ?_ fu x7 σ h
  intro k68 hk68 x7 σ h
  try dsimp only at h
  show J (ωM α) κ 3 8 68 [(0, .ref (wad (ωM α) 0)), (1, .int x1), (2, .int x2), (3, .int x3), (4, .int x4), (5, .int x5), (6, .int x6), (7, .int x7)] [] σ
  refine j_iload C 7 dX12_feed_68 rfl ?_
  refine j_iload_n C 1 dX12_feed_70 rfl ?_
  refine j_icmp_ge (tgt := 142) C dX12_feed_71 (by decide) (fun c1 => ?_) (fun c1 => ?_)
  · replace h := it c1 h
    refine j_aload_n C 0 dX12_feed_142 rfl ?_
    refine j_geti (o := 0) (j := 7) C inT12 (ci := 11) rfl (by decide) (rfl) rfl rfl wd_1106 dX12_feed_143 ?_
    obtain ⟨hv, hs⟩ := s2_inj h
    subst hv
    subst hs
    exact j_iret C e dX12_feed_146
  · replace h := ie c1 h
    refine j_aload_n C 0 dX12_feed_74 rfl ?_
    refine j_getr (o := 0) (j := 6) C inT12 (ci := 11) rfl (by decide) (rfl) rfl rfl wd_1105 dX12_feed_75 (o' := 5) rfl ?_
    refine j_aload_n C 0 dX12_feed_78 rfl ?_
    refine j_geti (o := 0) (j := 7) C inT12 (ci := 11) rfl (by decide) (rfl) rfl rfl wd_1106 dX12_feed_79 ?_
    refine j_iload C 7 dX12_feed_82 rfl ?_
    refine j_if_ne (tgt := 91) C dX12_feed_84 (by decide) (fun c2 => ?_) (fun c2 => ?_)
    · replace h := ie c2 h
      refine j_iload C 7 dX12_feed_91 rfl ?_
      refine j_iconst (v := 1) C dX12_feed_93 (by decide) ?_
      refine j_icmp_ne (tgt := 101) C dX12_feed_94 (by decide) (fun c3 => ?_) (fun c3 => ?_)
      · replace h := ie c3 h
        refine j_iload C 7 dX12_feed_101 rfl ?_
        refine j_iconst (v := 2) C dX12_feed_103 (by decide) ?_
        refine j_icmp_ne (tgt := 112) C dX12_feed_104 (by decide) (fun c4 => ?_) (fun c4 => ?_)
        · replace h := ie c4 h
          refine j_iload C 7 dX12_feed_112 rfl ?_
          refine j_iconst (v := 3) C dX12_feed_114 (by decide) ?_
          refine j_icmp_ne (tgt := 123) C dX12_feed_115 (by decide) (fun c5 => ?_) (fun c5 => ?_)
          · replace h := ie c5 h
            refine j_iload C 6 dX12_feed_123 rfl ?_
            exact (b12_feed_125 C e hk68 h)
          · replace h := it c5 h
            refine j_iload C 5 dX12_feed_118 rfl ?_
            refine j_goto (tgt := 125) C dX12_feed_120 (by decide) ?_
            exact (b12_feed_125 C e hk68 h)
        · replace h := it c4 h
          refine j_iload C 4 dX12_feed_107 rfl ?_
          refine j_goto (tgt := 125) C dX12_feed_109 (by decide) ?_
          exact (b12_feed_125 C e hk68 h)
      · replace h := it c3 h
        refine j_iload_n C 3 dX12_feed_97 rfl ?_
        refine j_goto (tgt := 125) C dX12_feed_98 (by decide) ?_
        exact (b12_feed_125 C e hk68 h)
    · replace h := it c2 h
      refine j_iload_n C 2 dX12_feed_87 rfl ?_
      refine j_goto (tgt := 125) C dX12_feed_88 (by decide) ?_
      exact (b12_feed_125 C e hk68 h)
set_option maxRecDepth 10000 in
theorem c12_feed (l : Launch) {α : WA} {fu : Nat} {a1 : Int32} {a2 : Int32} {a3 : Int32} {a4 : Int32} {a5 : Int32} {a6 : Int32} {σ σ' : M2} {v : Int32}  (h : F12_feed fu a1 a2 a3 a4 a5 a6 σ = some (v, σ')) : Ct l (ωM α) yX12_feed cX12_feed 8 (some FieldType.int) 3 [.ref (wad (ωM α) 0), .int a1, .int a2, .int a3, .int a4, .int a5, .int a6] σ (some (.int v)) σ' := by
  unfold F12_feed at h
  refine Ct.of (own := "EveryoneWinsModel") (L := [(0, .ref (wad (ωM α) 0)), (1, .int a1), (2, .int a2), (3, .int a3), (4, .int a4), (5, .int a5), (6, .int a6)]) (by decide +kernel) rfl rfl rfl (fun κ hl e C => ?_)
  show J (ωM α) κ 3 8 0 [(0, .ref (wad (ωM α) 0)), (1, .int a1), (2, .int a2), (3, .int a3), (4, .int a4), (5, .int a5), (6, .int a6)] [] σ
  refine j_iload_n C 1 dX12_feed_0 rfl ?_
  refine j_iconst (v := 1) C dX12_feed_1 (by decide) ?_
  refine j_iconst (v := 5) C dX12_feed_2 (by decide) ?_
  obtain ⟨r1, s2, hc3, h⟩ := bnd_some h
  refine k_S (v := some (.int r1)) C sb_X12_in (c12_in _ hc3) rfl (by decide) wd_1060 rfl dX12_feed_3 ?_
  show J (ωM α) κ _ _ 6 _ [.int r1] s2
  refine j_if_eq (tgt := 47) C dX12_feed_6 (by decide) (fun c4 => ?_) (fun c4 => ?_)
  · replace h := it c4 h
    refine j_bipush (v := -2) C dX12_feed_47 (by decide) ?_
    obtain ⟨hv, hs⟩ := s2_inj h
    subst hv
    subst hs
    exact j_iret C e dX12_feed_49
  · replace h := ie c4 h
    refine j_iload_n C 2 dX12_feed_9 rfl ?_
    obtain ⟨r5, s6, hc7, h⟩ := bnd_some h
    refine k_S (v := some (.int r5)) C sb_X12_isByte (c12_isByte _ hc7) rfl (by decide) wd_1259 rfl dX12_feed_10 ?_
    show J (ωM α) κ _ _ 13 _ [.int r5] s6
    refine j_if_eq (tgt := 47) C dX12_feed_13 (by decide) (fun c8 => ?_) (fun c8 => ?_)
    · replace h := it c8 h
      refine j_bipush (v := -2) C dX12_feed_47 (by decide) ?_
      obtain ⟨hv, hs⟩ := s2_inj h
      subst hv
      subst hs
      exact j_iret C e dX12_feed_49
    · replace h := ie c8 h
      refine j_iload_n C 3 dX12_feed_16 rfl ?_
      obtain ⟨r9, s10, hc11, h⟩ := bnd_some h
      refine k_S (v := some (.int r9)) C sb_X12_isByte (c12_isByte _ hc11) rfl (by decide) wd_1259 rfl dX12_feed_17 ?_
      show J (ωM α) κ _ _ 20 _ [.int r9] s10
      refine j_if_eq (tgt := 47) C dX12_feed_20 (by decide) (fun c12 => ?_) (fun c12 => ?_)
      · replace h := it c12 h
        refine j_bipush (v := -2) C dX12_feed_47 (by decide) ?_
        obtain ⟨hv, hs⟩ := s2_inj h
        subst hv
        subst hs
        exact j_iret C e dX12_feed_49
      · replace h := ie c12 h
        refine j_iload C 4 dX12_feed_23 rfl ?_
        obtain ⟨r13, s14, hc15, h⟩ := bnd_some h
        refine k_S (v := some (.int r13)) C sb_X12_isByte (c12_isByte _ hc15) rfl (by decide) wd_1259 rfl dX12_feed_25 ?_
        show J (ωM α) κ _ _ 28 _ [.int r13] s14
        refine j_if_eq (tgt := 47) C dX12_feed_28 (by decide) (fun c16 => ?_) (fun c16 => ?_)
        · replace h := it c16 h
          refine j_bipush (v := -2) C dX12_feed_47 (by decide) ?_
          obtain ⟨hv, hs⟩ := s2_inj h
          subst hv
          subst hs
          exact j_iret C e dX12_feed_49
        · replace h := ie c16 h
          refine j_iload C 5 dX12_feed_31 rfl ?_
          obtain ⟨r17, s18, hc19, h⟩ := bnd_some h
          refine k_S (v := some (.int r17)) C sb_X12_isByte (c12_isByte _ hc19) rfl (by decide) wd_1259 rfl dX12_feed_33 ?_
          show J (ωM α) κ _ _ 36 _ [.int r17] s18
          refine j_if_eq (tgt := 47) C dX12_feed_36 (by decide) (fun c20 => ?_) (fun c20 => ?_)
          · replace h := it c20 h
            refine j_bipush (v := -2) C dX12_feed_47 (by decide) ?_
            obtain ⟨hv, hs⟩ := s2_inj h
            subst hv
            subst hs
            exact j_iret C e dX12_feed_49
          · replace h := ie c20 h
            refine j_iload C 6 dX12_feed_39 rfl ?_
            obtain ⟨r21, s22, hc23, h⟩ := bnd_some h
            refine k_S (v := some (.int r21)) C sb_X12_isByte (c12_isByte _ hc23) rfl (by decide) wd_1259 rfl dX12_feed_41 ?_
            show J (ωM α) κ _ _ 44 _ [.int r21] s22
            refine j_if_ne (tgt := 50) C dX12_feed_44 (by decide) (fun c24 => ?_) (fun c24 => ?_)
            · replace h := ie c24 h
              refine j_aload_n C 0 dX12_feed_50 rfl ?_
              refine j_geti (o := 0) (j := 7) C inT12 (ci := 11) rfl (by decide) (rfl) rfl rfl wd_1106 dX12_feed_51 ?_
              refine j_iload_n C 1 dX12_feed_54 rfl ?_
              refine j_iadd C dX12_feed_55 ?_
              refine j_sipush (v := 160) C dX12_feed_56 (by decide) ?_
              refine j_icmp_le (tgt := 65) C dX12_feed_59 (by decide) (fun c25 => ?_) (fun c25 => ?_)
              · replace h := it c25 h
                refine j_iconst (v := 0) C dX12_feed_65 (by decide) ?_
                refine j_istore (L' := [(7, .int (0 : Int32)), (0, .ref (wad (ωM α) 0)), (1, .int a1), (2, .int a2), (3, .int a3), (4, .int a4), (5, .int a5), (6, .int a6)]) C dX12_feed_66 rfl rfl ?_
                exact j_sub [1, 2, 3, 4, 5, 6, 7, 0] rfl (b12_feed_68 C e h)
              · replace h := ie c25 h
                refine j_bipush (v := -4) C dX12_feed_62 (by decide) ?_
                obtain ⟨hv, hs⟩ := s2_inj h
                subst hv
                subst hs
                exact j_iret C e dX12_feed_64
            · replace h := it c24 h
              refine j_bipush (v := -2) C dX12_feed_47 (by decide) ?_
              obtain ⟨hv, hs⟩ := s2_inj h
              subst hv
              subst hs
              exact j_iret C e dX12_feed_49
set_option maxRecDepth 10000 in
theorem b12_wordFrom_88 {α : WA} {κ : KT} {fu : Nat} {v : Int32} {σ' : M2} {x1 : Int32} {x2 : Int32} {x3 : Int32} {x4 : Int32} (C : Cx (ωM α) κ cX12_wordFrom 6 "EveryoneWinsModel" (some FieldType.int)) (e : κ.2.2.2.2.2.2.2.2.2 = (some (.int v), σ')) {k2 : Int32 → M2 → Option (Int32 × M2)} (hk2 : ∀ (x3' : Int32) (σ : M2), k2 x3' σ = some (v, σ') → J (ωM α) κ 1 6 2 [(0, .ref (wad (ωM α) 0)), (1, .int x1), (2, .int x2), (3, .int x3')] [] σ) {σ : M2} (h : F12_wordFrom_88 fu k2 x1 x2 x3 x4 σ = some (v, σ')) : J (ωM α) κ 1 6 88 [(0, .ref (wad (ωM α) 0)), (1, .int x1), (2, .int x2), (3, .int x3), (4, .int x4)] [] σ := by
  unfold F12_wordFrom_88 at h
  refine j_iload C 4 dX12_wordFrom_88 rfl ?_
  refine j_if_eq (tgt := 95) C dX12_wordFrom_90 (by decide) (fun c1 => ?_) (fun c1 => ?_)
  · replace h := it c1 h
    refine j_iinc (L' := [(3, .int (x3 + 1)), (0, .ref (wad (ωM α) 0)), (1, .int x1), (2, .int x2), (4, .int x4)]) C 3 dX12_wordFrom_95 rfl rfl rfl rfl ?_
    refine j_goto (tgt := 2) C dX12_wordFrom_98 (by decide) ?_
    exact j_sub [1, 2, 3, 0] rfl (hk2 _ _ h)
  · replace h := ie c1 h
    refine j_iload_n C 3 dX12_wordFrom_93 rfl ?_
    obtain ⟨hv, hs⟩ := s2_inj h
    subst hv
    subst hs
    exact j_iret C e dX12_wordFrom_94
set_option maxRecDepth 10000 in
theorem b12_wordFrom_80 {α : WA} {κ : KT} {fu : Nat} {v : Int32} {σ' : M2} {x1 : Int32} {x2 : Int32} {x3 : Int32} {x5 : Int32} {y0 : Int32} (C : Cx (ωM α) κ cX12_wordFrom 6 "EveryoneWinsModel" (some FieldType.int)) (e : κ.2.2.2.2.2.2.2.2.2 = (some (.int v), σ')) {k2 : Int32 → M2 → Option (Int32 × M2)} (hk2 : ∀ (x3' : Int32) (σ : M2), k2 x3' σ = some (v, σ') → J (ωM α) κ 1 6 2 [(0, .ref (wad (ωM α) 0)), (1, .int x1), (2, .int x2), (3, .int x3')] [] σ) {k26 : Int32 → Int32 → M2 → Option (Int32 × M2)} (hk26 : ∀ (x4' : Int32) (x5' : Int32) (σ : M2), k26 x4' x5' σ = some (v, σ') → J (ωM α) κ 1 6 26 [(0, .ref (wad (ωM α) 0)), (1, .int x1), (2, .int x2), (3, .int x3), (4, .int x4'), (5, .int x5')] [] σ) {σ : M2} (h : F12_wordFrom_80 fu k2 k26 x1 x2 x3 x5 y0 σ = some (v, σ')) : J (ωM α) κ 1 6 80 [(0, .ref (wad (ωM α) 0)), (1, .int x1), (2, .int x2), (3, .int x3), (5, .int x5)] [.int y0] σ := by
  unfold F12_wordFrom_80 at h
  refine j_istore (L' := [(4, .int y0), (0, .ref (wad (ωM α) 0)), (1, .int x1), (2, .int x2), (3, .int x3), (5, .int x5)]) C dX12_wordFrom_80 rfl rfl ?_
  refine j_iinc (L' := [(5, .int (x5 + 1)), (4, .int y0), (0, .ref (wad (ωM α) 0)), (1, .int x1), (2, .int x2), (3, .int x3)]) C 5 dX12_wordFrom_82 rfl rfl rfl rfl ?_
  refine j_goto (tgt := 26) C dX12_wordFrom_85 (by decide) ?_
  exact j_sub [2, 3, 4, 5, 1, 0] rfl (hk26 _ _ _ h)
