set_option maxRecDepth 10000 in
theorem c0_take (l : Launch) {α : WA}  {a1 : Int32} {σ σ' : M2}  (h : F0_take a1 σ = some ((), σ')) : Ct l (ωC α) yX0_take cX0_take 3 (none) 1 [.ref (wad (ωC α) 47), .int a1, .ref (wad (ωC α) 41)] σ (none) σ' := by
  unfold F0_take at h
  refine Ct.of (own := "EveryoneWins$Best") (L := [(0, .ref (wad (ωC α) 47)), (1, .int a1), (2, .ref (wad (ωC α) 41))]) (by decide +kernel) rfl rfl rfl (fun κ hl e C => ?_)
  show J (ωC α) κ 1 3 0 [(0, .ref (wad (ωC α) 47)), (1, .int a1), (2, .ref (wad (ωC α) 41))] [] σ
  refine j_aload_n C 0 dX0_take_0 rfl ?_
  refine j_iload_n C 1 dX0_take_1 rfl ?_
  refine j_puti (o := 47) (j := 0) C inT0 tyX0_ok nmX0 (ci := 0) rfl (by decide) (rfl) rfl rfl rfl (tyX0_ok 0 (by decide)) rfl rfl wd_308 dX0_take_2 ?_
  refine j_aload_n C 0 dX0_take_5 rfl ?_
  refine j_aload_n C 2 dX0_take_6 rfl ?_
  refine j_geti (o := 41) (j := 10) C inT2 (ci := 2) rfl (by decide) (rfl) rfl rfl wd_272 dX0_take_7 ?_
  refine j_puti (o := 47) (j := 1) C inT0 tyX0_ok nmX0 (ci := 0) rfl (by decide) (rfl) rfl rfl rfl (tyX0_ok 1 (by decide)) rfl rfl wd_309 dX0_take_10 ?_
  refine j_aload_n C 0 dX0_take_13 rfl ?_
  refine j_aload_n C 2 dX0_take_14 rfl ?_
  refine j_geti (o := 41) (j := 8) C inT2 (ci := 2) rfl (by decide) (rfl) rfl rfl wd_266 dX0_take_15 ?_
  refine j_puti (o := 47) (j := 2) C inT0 tyX0_ok nmX0 (ci := 0) rfl (by decide) (rfl) rfl rfl rfl (tyX0_ok 2 (by decide)) rfl rfl wd_310 dX0_take_18 ?_
  obtain ⟨-, hs⟩ := s2_inj h
  subst hs
  exact j_vret C e dX0_take_21
set_option maxRecDepth 10000 in
theorem c0_startFrom (l : Launch) {α : WA}   {σ σ' : M2}  (h : F0_startFrom  σ = some ((), σ')) : Ct l (ωC α) yX0_startFrom cX0_startFrom 2 (none) 2 [.ref (wad (ωC α) 47), .ref (wad (ωC α) 41)] σ (none) σ' := by
  unfold F0_startFrom at h
  refine Ct.of (own := "EveryoneWins$Best") (L := [(0, .ref (wad (ωC α) 47)), (1, .ref (wad (ωC α) 41))]) (by decide +kernel) rfl rfl rfl (fun κ hl e C => ?_)
  show J (ωC α) κ 2 2 0 [(0, .ref (wad (ωC α) 47)), (1, .ref (wad (ωC α) 41))] [] σ
  refine j_aload_n C 0 dX0_startFrom_0 rfl ?_
  refine j_iconst (v := -1) C dX0_startFrom_1 (by decide) ?_
  refine j_aload_n C 1 dX0_startFrom_2 rfl ?_
  obtain ⟨r1, s2, hc3, h⟩ := bnd_some h
  refine k_V (v := none) C vb_X0_take (ci := 0) (T := TX0) (N := 3) rfl (by decide) (c0_take _ hc3) rfl (by decide) wd_839 (rfl) rfl dX0_startFrom_3 ?_
  show J (ωC α) κ _ _ 6 _ [] s2
  obtain ⟨-, hs⟩ := s2_inj h
  subst hs
  exact j_vret C e dX0_startFrom_6
set_option maxRecDepth 10000 in
theorem b0_weigh_33 {α : WA} {κ : KT}  {σ' : M2} {x1 : Int32} (C : Cx (ωC α) κ cX0_weigh 3 "EveryoneWins$Best" (none)) (e : κ.2.2.2.2.2.2.2.2.2 = (none, σ'))  {σ : M2} (h : F0_weigh_33 x1 σ = some ((), σ')) : J (ωC α) κ 2 3 33 [(0, .ref (wad (ωC α) 47)), (1, .int x1), (2, .ref (wad (ωC α) 41))] [] σ := by
  unfold F0_weigh_33 at h
  refine j_aload_n C 0 dX0_weigh_33 rfl ?_
  refine j_iload_n C 1 dX0_weigh_34 rfl ?_
  refine j_aload_n C 2 dX0_weigh_35 rfl ?_
  obtain ⟨r1, s2, hc3, h⟩ := bnd_some h
  refine k_V (v := none) C vb_X0_take (ci := 0) (T := TX0) (N := 3) rfl (by decide) (c0_take _ hc3) rfl (by decide) wd_839 (rfl) rfl dX0_weigh_36 ?_
  show J (ωC α) κ _ _ 39 _ [] s2
  obtain ⟨-, hs⟩ := s2_inj h
  subst hs
  exact j_vret C e dX0_weigh_39
set_option maxRecDepth 10000 in
theorem c0_weigh (l : Launch) {α : WA}  {a1 : Int32} {σ σ' : M2}  (h : F0_weigh a1 σ = some ((), σ')) : Ct l (ωC α) yX0_weigh cX0_weigh 3 (none) 2 [.ref (wad (ωC α) 47), .int a1, .ref (wad (ωC α) 41)] σ (none) σ' := by
  unfold F0_weigh at h
  refine Ct.of (own := "EveryoneWins$Best") (L := [(0, .ref (wad (ωC α) 47)), (1, .int a1), (2, .ref (wad (ωC α) 41))]) (by decide +kernel) rfl rfl rfl (fun κ hl e C => ?_)
  show J (ωC α) κ 2 3 0 [(0, .ref (wad (ωC α) 47)), (1, .int a1), (2, .ref (wad (ωC α) 41))] [] σ
  refine j_aload_n C 2 dX0_weigh_0 rfl ?_
  refine j_geti (o := 41) (j := 10) C inT2 (ci := 2) rfl (by decide) (rfl) rfl rfl wd_272 dX0_weigh_1 ?_
  refine j_aload_n C 0 dX0_weigh_4 rfl ?_
  refine j_geti (o := 47) (j := 1) C inT0 (ci := 0) rfl (by decide) (rfl) rfl rfl wd_309 dX0_weigh_5 ?_
  refine j_icmp_lt (tgt := 33) C dX0_weigh_8 (by decide) (fun c1 => ?_) (fun c1 => ?_)
  · replace h := it c1 h
    exact (b0_weigh_33 C e h)
  · replace h := ie c1 h
    refine j_aload_n C 2 dX0_weigh_11 rfl ?_
    refine j_geti (o := 41) (j := 10) C inT2 (ci := 2) rfl (by decide) (rfl) rfl rfl wd_272 dX0_weigh_12 ?_
    refine j_aload_n C 0 dX0_weigh_15 rfl ?_
    refine j_geti (o := 47) (j := 1) C inT0 (ci := 0) rfl (by decide) (rfl) rfl rfl wd_309 dX0_weigh_16 ?_
    refine j_icmp_ne (tgt := 39) C dX0_weigh_19 (by decide) (fun c2 => ?_) (fun c2 => ?_)
    · replace h := ie c2 h
      obtain ⟨-, hs⟩ := s2_inj h
      subst hs
      exact j_vret C e dX0_weigh_39
    · replace h := it c2 h
      refine j_aload_n C 2 dX0_weigh_22 rfl ?_
      refine j_geti (o := 41) (j := 8) C inT2 (ci := 2) rfl (by decide) (rfl) rfl rfl wd_266 dX0_weigh_23 ?_
      refine j_aload_n C 0 dX0_weigh_26 rfl ?_
      refine j_geti (o := 47) (j := 2) C inT0 (ci := 0) rfl (by decide) (rfl) rfl rfl wd_310 dX0_weigh_27 ?_
      refine j_icmp_le (tgt := 39) C dX0_weigh_30 (by decide) (fun c3 => ?_) (fun c3 => ?_)
      · replace h := it c3 h
        obtain ⟨-, hs⟩ := s2_inj h
        subst hs
        exact j_vret C e dX0_weigh_39
      · replace h := ie c3 h
        exact (b0_weigh_33 C e h)
set_option maxRecDepth 10000 in
theorem c0_tells (l : Launch) {α : WA}  {a1 : Int32} {σ σ' : M2} {v : Int32}  (h : F0_tells a1 σ = some (v, σ')) : Ct l (ωC α) yX0_tells cX0_tells 2 (some FieldType.int) 1 [.ref (wad (ωC α) 47), .int a1] σ (some (.int v)) σ' := by
  unfold F0_tells at h
  refine Ct.of (own := "EveryoneWins$Best") (L := [(0, .ref (wad (ωC α) 47)), (1, .int a1)]) (by decide +kernel) rfl rfl rfl (fun κ hl e C => ?_)
  show J (ωC α) κ 1 2 0 [(0, .ref (wad (ωC α) 47)), (1, .int a1)] [] σ
  refine j_iload_n C 1 dX0_tells_0 rfl ?_
  refine j_if_ne (tgt := 11) C dX0_tells_1 (by decide) (fun c1 => ?_) (fun c1 => ?_)
  · replace h := ie c1 h
    refine j_iload_n C 1 dX0_tells_11 rfl ?_
    refine j_iconst (v := 1) C dX0_tells_12 (by decide) ?_
    refine j_icmp_ne (tgt := 23) C dX0_tells_13 (by decide) (fun c2 => ?_) (fun c2 => ?_)
    · replace h := ie c2 h
      refine j_aload_n C 0 dX0_tells_23 rfl ?_
      refine j_geti (o := 47) (j := 2) C inT0 (ci := 0) rfl (by decide) (rfl) rfl rfl wd_310 dX0_tells_24 ?_
      obtain ⟨hv, hs⟩ := s2_inj h
      subst hv
      subst hs
      exact j_iret C e dX0_tells_27
    · replace h := it c2 h
      refine j_aload_n C 0 dX0_tells_16 rfl ?_
      refine j_geti (o := 47) (j := 1) C inT0 (ci := 0) rfl (by decide) (rfl) rfl rfl wd_309 dX0_tells_17 ?_
      refine j_goto (tgt := 27) C dX0_tells_20 (by decide) ?_
      obtain ⟨hv, hs⟩ := s2_inj h
      subst hv
      subst hs
      exact j_iret C e dX0_tells_27
  · replace h := it c1 h
    refine j_aload_n C 0 dX0_tells_4 rfl ?_
    refine j_geti (o := 47) (j := 0) C inT0 (ci := 0) rfl (by decide) (rfl) rfl rfl wd_308 dX0_tells_5 ?_
    refine j_goto (tgt := 27) C dX0_tells_8 (by decide) ?_
    obtain ⟨hv, hs⟩ := s2_inj h
    subst hv
    subst hs
    exact j_iret C e dX0_tells_27
set_option maxRecDepth 10000 in
theorem c11_set (l : Launch) {α : WA}  {a1 : Nat} {a2 : Int32} {a3 : Int32} {σ σ' : M2}  (h : F11_set a1 a2 a3 σ = some ((), σ')) : Ct l (ωC α) yX11_set cX11_set 3 (none) 1 [.ref (wad (ωC α) a1), .int a2, .int a3] σ (none) σ' := by
  unfold F11_set at h
  refine Ct.of (own := "EveryoneWins") (L := [(0, .ref (wad (ωC α) a1)), (1, .int a2), (2, .int a3)]) (by decide +kernel) rfl rfl rfl (fun κ hl e C => ?_)
  show J (ωC α) κ 1 3 0 [(0, .ref (wad (ωC α) a1)), (1, .int a2), (2, .int a3)] [] σ
  refine j_iload_n C 1 dX11_set_0 rfl ?_
  refine j_if_lt (tgt := 14) C dX11_set_1 (by decide) (fun c1 => ?_) (fun c1 => ?_)
  · replace h := it c1 h
    obtain ⟨-, hs⟩ := s2_inj h
    subst hs
    exact j_vret C e dX11_set_14
  · replace h := ie c1 h
    refine j_iload_n C 1 dX11_set_4 rfl ?_
    refine j_aload_n C 0 dX11_set_5 rfl ?_
    obtain ⟨g2, h⟩ := gd_some h
    refine j_alen (N := (csh a1).2) C (isA_sh g2) (by decide) rfl dX11_set_6 ?_
    refine j_icmp_ge (tgt := 14) C dX11_set_7 (by decide) (fun c3 => ?_) (fun c3 => ?_)
    · replace h := it c3 h
      obtain ⟨-, hs⟩ := s2_inj h
      subst hs
      exact j_vret C e dX11_set_14
    · replace h := ie c3 h
      refine j_aload_n C 0 dX11_set_10 rfl ?_
      refine j_iload_n C 1 dX11_set_11 rfl ?_
      refine j_iload_n C 2 dX11_set_12 rfl ?_
      obtain ⟨g4, h⟩ := gd_some h
      refine j_iastore (N := (csh a1).2) C (isA_sh g2) (inb_in g4) dX11_set_13 ?_
      obtain ⟨-, hs⟩ := s2_inj h
      subst hs
      exact j_vret C e dX11_set_14
set_option maxRecDepth 10000 in
theorem c1_add (l : Launch) {α : WA}  {t : Nat} {a1 : Int32} {a2 : Int32} {σ σ' : M2} {v : Int32}  (h : F1_add t a1 a2 σ = some (v, σ')) : Ct l (ωC α) yX1_add cX1_add 3 (some FieldType.int) 2 [.ref (wad (ωC α) t), .int a1, .int a2] σ (some (.int v)) σ' := by
  unfold F1_add at h
  refine Ct.of (own := "EveryoneWins$Children") (L := [(0, .ref (wad (ωC α) t)), (1, .int a1), (2, .int a2)]) (by decide +kernel) rfl rfl rfl (fun κ hl e C => ?_)
  show J (ωC α) κ 2 3 0 [(0, .ref (wad (ωC α) t)), (1, .int a1), (2, .int a2)] [] σ
  refine j_aload_n C 0 dX1_add_0 rfl ?_
  obtain ⟨g1, h⟩ := gd_some h
  refine j_geti (o := t) (j := 3) C inT1 (ci := 1) rfl (by decide) (isO_sh g1) rfl rfl wd_116 dX1_add_1 ?_
  refine j_bipush (v := 8) C dX1_add_4 (by decide) ?_
  refine j_icmp_lt (tgt := 12) C dX1_add_6 (by decide) (fun c2 => ?_) (fun c2 => ?_)
  · replace h := it c2 h
    refine j_aload_n C 0 dX1_add_12 rfl ?_
    refine j_getr (o := t) (j := 0) C inT1 (ci := 1) rfl (by decide) (isO_sh g1) rfl rfl wd_107 dX1_add_13 (o' := crf t 0) rfl ?_
    refine j_aload_n C 0 dX1_add_16 rfl ?_
    refine j_geti (o := t) (j := 3) C inT1 (ci := 1) rfl (by decide) (isO_sh g1) rfl rfl wd_116 dX1_add_17 ?_
    refine j_iload_n C 1 dX1_add_20 rfl ?_
    obtain ⟨r3, s4, hc5, h⟩ := bnd_some h
    refine k_N (v := none) C sb_X11_set (c11_set _ hc5) rfl (by decide) wn_645 rfl dX1_add_21 ?_
    show J (ωC α) κ _ _ 24 _ [] s4
    refine j_aload_n C 0 dX1_add_24 rfl ?_
    refine j_getr (o := t) (j := 1) C inT1 (ci := 1) rfl (by decide) (isO_sh g1) rfl rfl wd_110 dX1_add_25 (o' := crf t 1) rfl ?_
    refine j_aload_n C 0 dX1_add_28 rfl ?_
    refine j_geti (o := t) (j := 3) C inT1 (ci := 1) rfl (by decide) (isO_sh g1) rfl rfl wd_116 dX1_add_29 ?_
    refine j_iload_n C 2 dX1_add_32 rfl ?_
    obtain ⟨r6, s7, hc8, h⟩ := bnd_some h
    refine k_N (v := none) C sb_X11_set (c11_set _ hc8) rfl (by decide) wn_645 rfl dX1_add_33 ?_
    show J (ωC α) κ _ _ 36 _ [] s7
    refine j_aload_n C 0 dX1_add_36 rfl ?_
    refine j_getr (o := t) (j := 2) C inT1 (ci := 1) rfl (by decide) (isO_sh g1) rfl rfl wd_113 dX1_add_37 (o' := crf t 2) rfl ?_
    refine j_aload_n C 0 dX1_add_40 rfl ?_
    refine j_geti (o := t) (j := 3) C inT1 (ci := 1) rfl (by decide) (isO_sh g1) rfl rfl wd_116 dX1_add_41 ?_
    refine j_iconst (v := 0) C dX1_add_44 (by decide) ?_
    obtain ⟨r9, s10, hc11, h⟩ := bnd_some h
    refine k_N (v := none) C sb_X11_set (c11_set _ hc11) rfl (by decide) wn_645 rfl dX1_add_45 ?_
    show J (ωC α) κ _ _ 48 _ [] s10
    refine j_aload_n C 0 dX1_add_48 rfl ?_
    refine j_dup C dX1_add_49 rfl ?_
    refine j_geti (o := t) (j := 3) C inT1 (ci := 1) rfl (by decide) (isO_sh g1) rfl rfl wd_116 dX1_add_50 ?_
    refine j_dup_x1 C dX1_add_53 rfl rfl ?_
    refine j_iconst (v := 1) C dX1_add_54 (by decide) ?_
    refine j_iadd C dX1_add_55 ?_
    refine j_puti (o := t) (j := 3) C inT1 tyX1_ok nmX1 (ci := 1) rfl (by decide) (isO_sh g1) rfl rfl rfl (tyX1_ok 3 (by decide)) rfl rfl wd_116 dX1_add_56 ?_
    obtain ⟨hv, hs⟩ := s2_inj h
    subst hv
    subst hs
    exact j_iret C e dX1_add_59
  · replace h := ie c2 h
    refine j_bipush (v := -4) C dX1_add_9 (by decide) ?_
    obtain ⟨hv, hs⟩ := s2_inj h
    subst hv
    subst hs
    exact j_iret C e dX1_add_11
set_option maxRecDepth 10000 in
theorem c1_row (l : Launch) {α : WA}  {t : Nat} {a1 : Int32} {σ σ' : M2} {v : Nat}  (h : F1_row t a1 σ = some (v, σ')) : Ct l (ωC α) yX1_row cX1_row 2 (some (FieldType.array FieldType.int)) 1 [.ref (wad (ωC α) t), .int a1] σ (some (.ref (wad (ωC α) v))) σ' := by
  unfold F1_row at h
  refine Ct.of (own := "EveryoneWins$Children") (L := [(0, .ref (wad (ωC α) t)), (1, .int a1)]) (by decide +kernel) rfl rfl rfl (fun κ hl e C => ?_)
  show J (ωC α) κ 1 2 0 [(0, .ref (wad (ωC α) t)), (1, .int a1)] [] σ
  refine j_iload_n C 1 dX1_row_0 rfl ?_
  refine j_if_ne (tgt := 11) C dX1_row_1 (by decide) (fun c1 => ?_) (fun c1 => ?_)
  · replace h := ie c1 h
    refine j_iload_n C 1 dX1_row_11 rfl ?_
    refine j_iconst (v := 1) C dX1_row_12 (by decide) ?_
    refine j_icmp_ne (tgt := 23) C dX1_row_13 (by decide) (fun c2 => ?_) (fun c2 => ?_)
    · replace h := ie c2 h
      refine j_aload_n C 0 dX1_row_23 rfl ?_
      obtain ⟨g3, h⟩ := gd_some h
      refine j_getr (o := t) (j := 2) C inT1 (ci := 1) rfl (by decide) (isO_sh g3) rfl rfl wd_113 dX1_row_24 (o' := crf t 2) rfl ?_
      obtain ⟨hv, hs⟩ := s2_inj h
      subst hv
      subst hs
      exact j_aret C rfl (Or.inr ⟨_, rfl⟩) (Or.inr ⟨_, rfl⟩) e dX1_row_27
    · replace h := it c2 h
      refine j_aload_n C 0 dX1_row_16 rfl ?_
      obtain ⟨g4, h⟩ := gd_some h
      refine j_getr (o := t) (j := 1) C inT1 (ci := 1) rfl (by decide) (isO_sh g4) rfl rfl wd_110 dX1_row_17 (o' := crf t 1) rfl ?_
      refine j_goto (tgt := 27) C dX1_row_20 (by decide) ?_
      obtain ⟨hv, hs⟩ := s2_inj h
      subst hv
      subst hs
      exact j_aret C rfl (Or.inr ⟨_, rfl⟩) (Or.inr ⟨_, rfl⟩) e dX1_row_27
  · replace h := it c1 h
    refine j_aload_n C 0 dX1_row_4 rfl ?_
    obtain ⟨g5, h⟩ := gd_some h
    refine j_getr (o := t) (j := 0) C inT1 (ci := 1) rfl (by decide) (isO_sh g5) rfl rfl wd_107 dX1_row_5 (o' := crf t 0) rfl ?_
    refine j_goto (tgt := 27) C dX1_row_8 (by decide) ?_
    obtain ⟨hv, hs⟩ := s2_inj h
    subst hv
    subst hs
    exact j_aret C rfl (Or.inr ⟨_, rfl⟩) (Or.inr ⟨_, rfl⟩) e dX1_row_27
set_option maxRecDepth 10000 in
theorem b11_copyRow_2 {α : WA} {κ : KT} {fu : Nat} {σ' : M2} {x0 : Nat} {x1 : Nat} {x2 : Int32} (C : Cx (ωC α) κ cX11_copyRow 3 "EveryoneWins" (none)) (e : κ.2.2.2.2.2.2.2.2.2 = (none, σ'))  {σ : M2} (h : F11_copyRow_2 fu x0 x1 x2 σ = some ((), σ')) : J (ωC α) κ 1 3 2 [(0, .ref (wad (ωC α) x0)), (1, .ref (wad (ωC α) x1)), (2, .int x2)] [] σ := by
  unfold F11_copyRow_2 at h
  refine wl1_ind (fun x2 σ => J (ωC α) κ 1 3 2 [(0, .ref (wad (ωC α) x0)), (1, .ref (wad (ωC α) x1)), (2, .int x2)] [] σ) ?_ fu x2 σ h
  intro k2 hk2 x2 σ h
  try dsimp only at h
  show J (ωC α) κ 1 3 2 [(0, .ref (wad (ωC α) x0)), (1, .ref (wad (ωC α) x1)), (2, .int x2)] [] σ
  refine j_iload_n C 2 dX11_copyRow_2 rfl ?_
  refine j_aload_n C 0 dX11_copyRow_3 rfl ?_
  obtain ⟨g1, h⟩ := gd_some h
  refine j_alen (N := (csh x0).2) C (isA_sh g1) (by decide) rfl dX11_copyRow_4 ?_
  refine j_icmp_ge (tgt := 26) C dX11_copyRow_5 (by decide) (fun c2 => ?_) (fun c2 => ?_)
  · replace h := it c2 h
    obtain ⟨-, hs⟩ := s2_inj h
    subst hs
    exact j_vret C e dX11_copyRow_26
  · replace h := ie c2 h
    refine j_iload_n C 2 dX11_copyRow_8 rfl ?_
    refine j_aload_n C 1 dX11_copyRow_9 rfl ?_
    obtain ⟨g3, h⟩ := gd_some h
    refine j_alen (N := (csh x1).2) C (isA_sh g3) (by decide) rfl dX11_copyRow_10 ?_
    refine j_icmp_ge (tgt := 26) C dX11_copyRow_11 (by decide) (fun c4 => ?_) (fun c4 => ?_)
    · replace h := it c4 h
      obtain ⟨-, hs⟩ := s2_inj h
      subst hs
      exact j_vret C e dX11_copyRow_26
    · replace h := ie c4 h
      refine j_aload_n C 1 dX11_copyRow_14 rfl ?_
      refine j_iload_n C 2 dX11_copyRow_15 rfl ?_
      refine j_aload_n C 0 dX11_copyRow_16 rfl ?_
      refine j_iload_n C 2 dX11_copyRow_17 rfl ?_
      obtain ⟨g5, h⟩ := gd_some h
      refine j_iaload (N := (csh x0).2) C (isA_sh g1) (inb_in g5) dX11_copyRow_18 ?_
      obtain ⟨g6, h⟩ := gd_some h
      refine j_iastore (N := (csh x1).2) C (isA_sh g3) (inb_in g6) dX11_copyRow_19 ?_
      refine j_iinc (L' := [(2, .int (x2 + 1)), (0, .ref (wad (ωC α) x0)), (1, .ref (wad (ωC α) x1))]) C 2 dX11_copyRow_20 rfl rfl rfl rfl ?_
      refine j_goto (tgt := 2) C dX11_copyRow_23 (by decide) ?_
      exact j_sub [1, 2, 0] rfl (hk2 _ _ h)
set_option maxRecDepth 10000 in
theorem c11_copyRow (l : Launch) {α : WA} {fu : Nat} {a1 : Nat} {a2 : Nat} {σ σ' : M2}  (h : F11_copyRow fu a1 a2 σ = some ((), σ')) : Ct l (ωC α) yX11_copyRow cX11_copyRow 3 (none) 1 [.ref (wad (ωC α) a1), .ref (wad (ωC α) a2)] σ (none) σ' := by
  unfold F11_copyRow at h
  refine Ct.of (own := "EveryoneWins") (L := [(0, .ref (wad (ωC α) a1)), (1, .ref (wad (ωC α) a2))]) (by decide +kernel) rfl rfl rfl (fun κ hl e C => ?_)
  show J (ωC α) κ 1 3 0 [(0, .ref (wad (ωC α) a1)), (1, .ref (wad (ωC α) a2))] [] σ
  refine j_iconst (v := 0) C dX11_copyRow_0 (by decide) ?_
  refine j_istore_n (L' := [(2, .int (0 : Int32)), (0, .ref (wad (ωC α) a1)), (1, .ref (wad (ωC α) a2))]) C dX11_copyRow_1 rfl rfl rfl ?_
  exact j_sub [1, 2, 0] rfl (b11_copyRow_2 C e h)
set_option maxRecDepth 10000 in
theorem c1_become (l : Launch) {α : WA} {fu : Nat} {t : Nat} {a1 : Nat} {σ σ' : M2}  (h : F1_become fu t a1 σ = some ((), σ')) : Ct l (ωC α) yX1_become cX1_become 2 (none) 2 [.ref (wad (ωC α) t), .ref (wad (ωC α) a1)] σ (none) σ' := by
  unfold F1_become at h
  refine Ct.of (own := "EveryoneWins$Children") (L := [(0, .ref (wad (ωC α) t)), (1, .ref (wad (ωC α) a1))]) (by decide +kernel) rfl rfl rfl (fun κ hl e C => ?_)
  show J (ωC α) κ 2 2 0 [(0, .ref (wad (ωC α) t)), (1, .ref (wad (ωC α) a1))] [] σ
  refine j_aload_n C 1 dX1_become_0 rfl ?_
  obtain ⟨g1, h⟩ := gd_some h
  refine j_getr (o := a1) (j := 0) C inT1 (ci := 1) rfl (by decide) (isO_sh g1) rfl rfl wd_107 dX1_become_1 (o' := crf a1 0) rfl ?_
  refine j_aload_n C 0 dX1_become_4 rfl ?_
  obtain ⟨g2, h⟩ := gd_some h
  refine j_getr (o := t) (j := 0) C inT1 (ci := 1) rfl (by decide) (isO_sh g2) rfl rfl wd_107 dX1_become_5 (o' := crf t 0) rfl ?_
  obtain ⟨r3, s4, hc5, h⟩ := bnd_some h
  refine k_N (v := none) C sb_X11_copyRow (c11_copyRow _ hc5) rfl (by decide) wn_999 rfl dX1_become_8 ?_
  show J (ωC α) κ _ _ 11 _ [] s4
  refine j_aload_n C 1 dX1_become_11 rfl ?_
  refine j_getr (o := a1) (j := 1) C inT1 (ci := 1) rfl (by decide) (isO_sh g1) rfl rfl wd_110 dX1_become_12 (o' := crf a1 1) rfl ?_
  refine j_aload_n C 0 dX1_become_15 rfl ?_
  refine j_getr (o := t) (j := 1) C inT1 (ci := 1) rfl (by decide) (isO_sh g2) rfl rfl wd_110 dX1_become_16 (o' := crf t 1) rfl ?_
  obtain ⟨r6, s7, hc8, h⟩ := bnd_some h
  refine k_N (v := none) C sb_X11_copyRow (c11_copyRow _ hc8) rfl (by decide) wn_999 rfl dX1_become_19 ?_
  show J (ωC α) κ _ _ 22 _ [] s7
  refine j_aload_n C 1 dX1_become_22 rfl ?_
  refine j_getr (o := a1) (j := 2) C inT1 (ci := 1) rfl (by decide) (isO_sh g1) rfl rfl wd_113 dX1_become_23 (o' := crf a1 2) rfl ?_
  refine j_aload_n C 0 dX1_become_26 rfl ?_
  refine j_getr (o := t) (j := 2) C inT1 (ci := 1) rfl (by decide) (isO_sh g2) rfl rfl wd_113 dX1_become_27 (o' := crf t 2) rfl ?_
  obtain ⟨r9, s10, hc11, h⟩ := bnd_some h
  refine k_N (v := none) C sb_X11_copyRow (c11_copyRow _ hc11) rfl (by decide) wn_999 rfl dX1_become_30 ?_
  show J (ωC α) κ _ _ 33 _ [] s10
  refine j_aload_n C 0 dX1_become_33 rfl ?_
  refine j_aload_n C 1 dX1_become_34 rfl ?_
  refine j_geti (o := a1) (j := 3) C inT1 (ci := 1) rfl (by decide) (isO_sh g1) rfl rfl wd_116 dX1_become_35 ?_
  refine j_puti (o := t) (j := 3) C inT1 tyX1_ok nmX1 (ci := 1) rfl (by decide) (isO_sh g2) rfl rfl rfl (tyX1_ok 3 (by decide)) rfl rfl wd_116 dX1_become_38 ?_
  obtain ⟨-, hs⟩ := s2_inj h
  subst hs
  exact j_vret C e dX1_become_41
set_option maxRecDepth 10000 in
theorem b2_begin_12 {α : WA} {κ : KT} {fu : Nat} {σ' : M2} {x1 : Int32} (C : Cx (ωC α) κ cX2_begin 2 "EveryoneWins$Day" (none)) (e : κ.2.2.2.2.2.2.2.2.2 = (none, σ'))  {σ : M2} (h : F2_begin_12 fu x1 σ = some ((), σ')) : J (ωC α) κ 1 2 12 [(0, .ref (wad (ωC α) 41)), (1, .int x1)] [] σ := by
  unfold F2_begin_12 at h
  refine wl1_ind (fun x1 σ => J (ωC α) κ 1 2 12 [(0, .ref (wad (ωC α) 41)), (1, .int x1)] [] σ) ?_ fu x1 σ h
  intro k12 hk12 x1 σ h
  try dsimp only at h
  show J (ωC α) κ 1 2 12 [(0, .ref (wad (ωC α) 41)), (1, .int x1)] [] σ
  refine j_iload_n C 1 dX2_begin_12 rfl ?_
  refine j_aload_n C 0 dX2_begin_13 rfl ?_
  refine j_getr (o := 41) (j := 3) C inT2 (ci := 2) rfl (by decide) (rfl) rfl rfl wd_257 dX2_begin_14 (o' := 42) rfl ?_
  refine j_alen (o := 42) (t := 0) (N := 8) (v := 8) C rfl (by decide) rfl dX2_begin_17 ?_
  refine j_icmp_ge (tgt := 34) C dX2_begin_18 (by decide) (fun c1 => ?_) (fun c1 => ?_)
  · replace h := it c1 h
    obtain ⟨-, hs⟩ := s2_inj h
    subst hs
    exact j_vret C e dX2_begin_34
  · replace h := ie c1 h
    refine j_aload_n C 0 dX2_begin_21 rfl ?_
    refine j_getr (o := 41) (j := 3) C inT2 (ci := 2) rfl (by decide) (rfl) rfl rfl wd_257 dX2_begin_22 (o' := 42) rfl ?_
    refine j_iload_n C 1 dX2_begin_25 rfl ?_
    refine j_iconst (v := 0) C dX2_begin_26 (by decide) ?_
    obtain ⟨g2, h⟩ := gd_some h
    refine j_iastore (N := 8) C (rfl) (inb_in g2) dX2_begin_27 ?_
    refine j_iinc (L' := [(1, .int (x1 + 1)), (0, .ref (wad (ωC α) 41))]) C 1 dX2_begin_28 rfl rfl rfl rfl ?_
    refine j_goto (tgt := 12) C dX2_begin_31 (by decide) ?_
    exact j_sub [1, 0] rfl (hk12 _ _ h)
set_option maxRecDepth 10000 in
theorem c2_begin (l : Launch) {α : WA} {fu : Nat}  {σ σ' : M2}  (h : F2_begin fu σ = some ((), σ')) : Ct l (ωC α) yX2_begin cX2_begin 2 (none) 1 [.ref (wad (ωC α) 41)] σ (none) σ' := by
  unfold F2_begin at h
  refine Ct.of (own := "EveryoneWins$Day") (L := [(0, .ref (wad (ωC α) 41))]) (by decide +kernel) rfl rfl rfl (fun κ hl e C => ?_)
  show J (ωC α) κ 1 2 0 [(0, .ref (wad (ωC α) 41))] [] σ
  refine j_aload_n C 0 dX2_begin_0 rfl ?_
  refine j_iconst (v := 0) C dX2_begin_1 (by decide) ?_
  refine j_puti (o := 41) (j := 8) C inT2 tyX2_ok nmX2 (ci := 2) rfl (by decide) (rfl) rfl rfl rfl (tyX2_ok 8 (by decide)) rfl rfl wd_268 dX2_begin_2 ?_
  refine j_aload_n C 0 dX2_begin_5 rfl ?_
  refine j_iconst (v := 0) C dX2_begin_6 (by decide) ?_
  refine j_puti (o := 41) (j := 9) C inT2 tyX2_ok nmX2 (ci := 2) rfl (by decide) (rfl) rfl rfl rfl (tyX2_ok 9 (by decide)) rfl rfl wd_270 dX2_begin_7 ?_
  refine j_iconst (v := 0) C dX2_begin_10 (by decide) ?_
  refine j_istore_n (L' := [(1, .int (0 : Int32)), (0, .ref (wad (ωC α) 41))]) C dX2_begin_11 rfl rfl rfl ?_
  exact j_sub [1, 0] rfl (b2_begin_12 C e h)
set_option maxRecDepth 10000 in
theorem c11_at (l : Launch) {α : WA}  {a1 : Nat} {a2 : Int32} {σ σ' : M2} {v : Int32}  (h : F11_at a1 a2 σ = some (v, σ')) : Ct l (ωC α) yX11_at cX11_at 2 (some FieldType.int) 1 [.ref (wad (ωC α) a1), .int a2] σ (some (.int v)) σ' := by
  unfold F11_at at h
  refine Ct.of (own := "EveryoneWins") (L := [(0, .ref (wad (ωC α) a1)), (1, .int a2)]) (by decide +kernel) rfl rfl rfl (fun κ hl e C => ?_)
  show J (ωC α) κ 1 2 0 [(0, .ref (wad (ωC α) a1)), (1, .int a2)] [] σ
  refine j_iload_n C 1 dX11_at_0 rfl ?_
  refine j_if_lt (tgt := 16) C dX11_at_1 (by decide) (fun c1 => ?_) (fun c1 => ?_)
  · replace h := it c1 h
    refine j_iconst (v := 0) C dX11_at_16 (by decide) ?_
    obtain ⟨hv, hs⟩ := s2_inj h
    subst hv
    subst hs
    exact j_iret C e dX11_at_17
  · replace h := ie c1 h
    refine j_iload_n C 1 dX11_at_4 rfl ?_
    refine j_aload_n C 0 dX11_at_5 rfl ?_
    obtain ⟨g2, h⟩ := gd_some h
    refine j_alen (N := (csh a1).2) C (isA_sh g2) (by decide) rfl dX11_at_6 ?_
    refine j_icmp_ge (tgt := 16) C dX11_at_7 (by decide) (fun c3 => ?_) (fun c3 => ?_)
    · replace h := it c3 h
      refine j_iconst (v := 0) C dX11_at_16 (by decide) ?_
      obtain ⟨hv, hs⟩ := s2_inj h
      subst hv
      subst hs
      exact j_iret C e dX11_at_17
    · replace h := ie c3 h
      refine j_aload_n C 0 dX11_at_10 rfl ?_
      refine j_iload_n C 1 dX11_at_11 rfl ?_
      obtain ⟨g4, h⟩ := gd_some h
      refine j_iaload (N := (csh a1).2) C (isA_sh g2) (inb_in g4) dX11_at_12 ?_
      refine j_goto (tgt := 17) C dX11_at_13 (by decide) ?_
      obtain ⟨hv, hs⟩ := s2_inj h
      subst hv
      subst hs
      exact j_iret C e dX11_at_17
set_option maxRecDepth 10000 in
theorem c11_has (l : Launch) {α : WA}  {a1 : Int32} {a2 : Int32} {σ σ' : M2} {v : Int32}  (h : F11_has a1 a2 σ = some (v, σ')) : Ct l (ωC α) yX11_has cX11_has 2 (some FieldType.boolean) 1 [.int a1, .int a2] σ (some (.int v)) σ' := by
  unfold F11_has at h
  refine Ct.of (own := "EveryoneWins") (L := [(0, .int a1), (1, .int a2)]) (by decide +kernel) rfl rfl rfl (fun κ hl e C => ?_)
  show J (ωC α) κ 1 2 0 [(0, .int a1), (1, .int a2)] [] σ
  refine j_iload_n C 0 dX11_has_0 rfl ?_
  refine j_iload_n C 1 dX11_has_1 rfl ?_
  refine j_ishr C dX11_has_2 ?_
  refine j_iconst (v := 1) C dX11_has_3 (by decide) ?_
  refine j_iand C dX11_has_4 ?_
  refine j_if_eq (tgt := 12) C dX11_has_5 (by decide) (fun c1 => ?_) (fun c1 => ?_)
  · replace h := it c1 h
    refine j_iconst (v := 0) C dX11_has_12 (by decide) ?_
    obtain ⟨hv, hs⟩ := s2_inj h
    subst hv
    subst hs
    exact j_zret C e rfl dX11_has_13
  · replace h := ie c1 h
    refine j_iconst (v := 1) C dX11_has_8 (by decide) ?_
    refine j_goto (tgt := 13) C dX11_has_9 (by decide) ?_
    obtain ⟨hv, hs⟩ := s2_inj h
    subst hv
    subst hs
    exact j_zret C e rfl dX11_has_13
set_option maxRecDepth 10000 in
theorem cJJ6_bitCount_0f7a4 (l : Launch) {α : WA}  {a1 : Int32} {σ σ' : M2} {v : Int32}  (h : FJJ6_bitCount_0f7a4 a1 σ = some (v, σ')) : Ct l (ωC α) yJ6_bitCount_0f7a4 cJ6_bitCount_0f7a4 1 (some FieldType.int) 1 [.int a1] σ (some (.int v)) σ' := by
  unfold FJJ6_bitCount_0f7a4 at h
  refine Ct.of (own := "java/lang/Integer") (L := [(0, .int a1)]) (by decide +kernel) rfl rfl rfl (fun κ hl e C => ?_)
  show J (ωC α) κ 1 1 0 [(0, .int a1)] [] σ
  refine j_iload_n C 0 dJ6_bitCount_0f7a4_0 rfl ?_
  refine j_iload_n C 0 dJ6_bitCount_0f7a4_1 rfl ?_
  refine j_iconst (v := 1) C dJ6_bitCount_0f7a4_2 (by decide) ?_
  refine j_iushr C dJ6_bitCount_0f7a4_3 ?_
  refine j_ldc_w (v := 1431655765) C wd_704 dJ6_bitCount_0f7a4_4 ?_
  refine j_iand C dJ6_bitCount_0f7a4_7 ?_
  refine j_isub C dJ6_bitCount_0f7a4_8 ?_
  refine j_istore_n (L' := [(0, .int (a1 - (((a1.toUInt32 >>> ((1 : Int32).toUInt32 &&& Int32.toUInt32 31)).toInt32) &&& (1431655765 : Int32))))]) C dJ6_bitCount_0f7a4_9 rfl rfl rfl ?_
  refine j_iload_n C 0 dJ6_bitCount_0f7a4_10 rfl ?_
  refine j_ldc_w (v := 858993459) C wd_705 dJ6_bitCount_0f7a4_11 ?_
  refine j_iand C dJ6_bitCount_0f7a4_14 ?_
  refine j_iload_n C 0 dJ6_bitCount_0f7a4_15 rfl ?_
  refine j_iconst (v := 2) C dJ6_bitCount_0f7a4_16 (by decide) ?_
  refine j_iushr C dJ6_bitCount_0f7a4_17 ?_
  refine j_ldc_w (v := 858993459) C wd_705 dJ6_bitCount_0f7a4_18 ?_
  refine j_iand C dJ6_bitCount_0f7a4_21 ?_
  refine j_iadd C dJ6_bitCount_0f7a4_22 ?_
  refine j_istore_n (L' := [(0, .int (((a1 - (((a1.toUInt32 >>> ((1 : Int32).toUInt32 &&& Int32.toUInt32 31)).toInt32) &&& (1431655765 : Int32))) &&& (858993459 : Int32)) + ((((a1 - (((a1.toUInt32 >>> ((1 : Int32).toUInt32 &&& Int32.toUInt32 31)).toInt32) &&& (1431655765 : Int32))).toUInt32 >>> ((2 : Int32).toUInt32 &&& Int32.toUInt32 31)).toInt32) &&& (858993459 : Int32))))]) C dJ6_bitCount_0f7a4_23 rfl rfl rfl ?_
  refine j_iload_n C 0 dJ6_bitCount_0f7a4_24 rfl ?_
  refine j_iload_n C 0 dJ6_bitCount_0f7a4_25 rfl ?_
  refine j_iconst (v := 4) C dJ6_bitCount_0f7a4_26 (by decide) ?_
  refine j_iushr C dJ6_bitCount_0f7a4_27 ?_
  refine j_iadd C dJ6_bitCount_0f7a4_28 ?_
  refine j_ldc_w (v := 252645135) C wd_706 dJ6_bitCount_0f7a4_29 ?_
  refine j_iand C dJ6_bitCount_0f7a4_32 ?_
  refine j_istore_n (L' := [(0, .int (((((a1 - (((a1.toUInt32 >>> ((1 : Int32).toUInt32 &&& Int32.toUInt32 31)).toInt32) &&& (1431655765 : Int32))) &&& (858993459 : Int32)) + ((((a1 - (((a1.toUInt32 >>> ((1 : Int32).toUInt32 &&& Int32.toUInt32 31)).toInt32) &&& (1431655765 : Int32))).toUInt32 >>> ((2 : Int32).toUInt32 &&& Int32.toUInt32 31)).toInt32) &&& (858993459 : Int32))) + (((((a1 - (((a1.toUInt32 >>> ((1 : Int32).toUInt32 &&& Int32.toUInt32 31)).toInt32) &&& (1431655765 : Int32))) &&& (858993459 : Int32)) + ((((a1 - (((a1.toUInt32 >>> ((1 : Int32).toUInt32 &&& Int32.toUInt32 31)).toInt32) &&& (1431655765 : Int32))).toUInt32 >>> ((2 : Int32).toUInt32 &&& Int32.toUInt32 31)).toInt32) &&& (858993459 : Int32))).toUInt32 >>> ((4 : Int32).toUInt32 &&& Int32.toUInt32 31)).toInt32)) &&& (252645135 : Int32)))]) C dJ6_bitCount_0f7a4_33 rfl rfl rfl ?_
  refine j_iload_n C 0 dJ6_bitCount_0f7a4_34 rfl ?_
  refine j_iload_n C 0 dJ6_bitCount_0f7a4_35 rfl ?_
  refine j_bipush (v := 8) C dJ6_bitCount_0f7a4_36 (by decide) ?_
  refine j_iushr C dJ6_bitCount_0f7a4_38 ?_
  refine j_iadd C dJ6_bitCount_0f7a4_39 ?_
  refine j_istore_n (L' := [(0, .int ((((((a1 - (((a1.toUInt32 >>> ((1 : Int32).toUInt32 &&& Int32.toUInt32 31)).toInt32) &&& (1431655765 : Int32))) &&& (858993459 : Int32)) + ((((a1 - (((a1.toUInt32 >>> ((1 : Int32).toUInt32 &&& Int32.toUInt32 31)).toInt32) &&& (1431655765 : Int32))).toUInt32 >>> ((2 : Int32).toUInt32 &&& Int32.toUInt32 31)).toInt32) &&& (858993459 : Int32))) + (((((a1 - (((a1.toUInt32 >>> ((1 : Int32).toUInt32 &&& Int32.toUInt32 31)).toInt32) &&& (1431655765 : Int32))) &&& (858993459 : Int32)) + ((((a1 - (((a1.toUInt32 >>> ((1 : Int32).toUInt32 &&& Int32.toUInt32 31)).toInt32) &&& (1431655765 : Int32))).toUInt32 >>> ((2 : Int32).toUInt32 &&& Int32.toUInt32 31)).toInt32) &&& (858993459 : Int32))).toUInt32 >>> ((4 : Int32).toUInt32 &&& Int32.toUInt32 31)).toInt32)) &&& (252645135 : Int32)) + (((((((a1 - (((a1.toUInt32 >>> ((1 : Int32).toUInt32 &&& Int32.toUInt32 31)).toInt32) &&& (1431655765 : Int32))) &&& (858993459 : Int32)) + ((((a1 - (((a1.toUInt32 >>> ((1 : Int32).toUInt32 &&& Int32.toUInt32 31)).toInt32) &&& (1431655765 : Int32))).toUInt32 >>> ((2 : Int32).toUInt32 &&& Int32.toUInt32 31)).toInt32) &&& (858993459 : Int32))) + (((((a1 - (((a1.toUInt32 >>> ((1 : Int32).toUInt32 &&& Int32.toUInt32 31)).toInt32) &&& (1431655765 : Int32))) &&& (858993459 : Int32)) + ((((a1 - (((a1.toUInt32 >>> ((1 : Int32).toUInt32 &&& Int32.toUInt32 31)).toInt32) &&& (1431655765 : Int32))).toUInt32 >>> ((2 : Int32).toUInt32 &&& Int32.toUInt32 31)).toInt32) &&& (858993459 : Int32))).toUInt32 >>> ((4 : Int32).toUInt32 &&& Int32.toUInt32 31)).toInt32)) &&& (252645135 : Int32)).toUInt32 >>> ((8 : Int32).toUInt32 &&& Int32.toUInt32 31)).toInt32)))]) C dJ6_bitCount_0f7a4_40 rfl rfl rfl ?_
  refine j_iload_n C 0 dJ6_bitCount_0f7a4_41 rfl ?_
  refine j_iload_n C 0 dJ6_bitCount_0f7a4_42 rfl ?_
  refine j_bipush (v := 16) C dJ6_bitCount_0f7a4_43 (by decide) ?_
  refine j_iushr C dJ6_bitCount_0f7a4_45 ?_
  refine j_iadd C dJ6_bitCount_0f7a4_46 ?_
  refine j_istore_n (L' := [(0, .int (((((((a1 - (((a1.toUInt32 >>> ((1 : Int32).toUInt32 &&& Int32.toUInt32 31)).toInt32) &&& (1431655765 : Int32))) &&& (858993459 : Int32)) + ((((a1 - (((a1.toUInt32 >>> ((1 : Int32).toUInt32 &&& Int32.toUInt32 31)).toInt32) &&& (1431655765 : Int32))).toUInt32 >>> ((2 : Int32).toUInt32 &&& Int32.toUInt32 31)).toInt32) &&& (858993459 : Int32))) + (((((a1 - (((a1.toUInt32 >>> ((1 : Int32).toUInt32 &&& Int32.toUInt32 31)).toInt32) &&& (1431655765 : Int32))) &&& (858993459 : Int32)) + ((((a1 - (((a1.toUInt32 >>> ((1 : Int32).toUInt32 &&& Int32.toUInt32 31)).toInt32) &&& (1431655765 : Int32))).toUInt32 >>> ((2 : Int32).toUInt32 &&& Int32.toUInt32 31)).toInt32) &&& (858993459 : Int32))).toUInt32 >>> ((4 : Int32).toUInt32 &&& Int32.toUInt32 31)).toInt32)) &&& (252645135 : Int32)) + (((((((a1 - (((a1.toUInt32 >>> ((1 : Int32).toUInt32 &&& Int32.toUInt32 31)).toInt32) &&& (1431655765 : Int32))) &&& (858993459 : Int32)) + ((((a1 - (((a1.toUInt32 >>> ((1 : Int32).toUInt32 &&& Int32.toUInt32 31)).toInt32) &&& (1431655765 : Int32))).toUInt32 >>> ((2 : Int32).toUInt32 &&& Int32.toUInt32 31)).toInt32) &&& (858993459 : Int32))) + (((((a1 - (((a1.toUInt32 >>> ((1 : Int32).toUInt32 &&& Int32.toUInt32 31)).toInt32) &&& (1431655765 : Int32))) &&& (858993459 : Int32)) + ((((a1 - (((a1.toUInt32 >>> ((1 : Int32).toUInt32 &&& Int32.toUInt32 31)).toInt32) &&& (1431655765 : Int32))).toUInt32 >>> ((2 : Int32).toUInt32 &&& Int32.toUInt32 31)).toInt32) &&& (858993459 : Int32))).toUInt32 >>> ((4 : Int32).toUInt32 &&& Int32.toUInt32 31)).toInt32)) &&& (252645135 : Int32)).toUInt32 >>> ((8 : Int32).toUInt32 &&& Int32.toUInt32 31)).toInt32)) + ((((((((a1 - (((a1.toUInt32 >>> ((1 : Int32).toUInt32 &&& Int32.toUInt32 31)).toInt32) &&& (1431655765 : Int32))) &&& (858993459 : Int32)) + ((((a1 - (((a1.toUInt32 >>> ((1 : Int32).toUInt32 &&& Int32.toUInt32 31)).toInt32) &&& (1431655765 : Int32))).toUInt32 >>> ((2 : Int32).toUInt32 &&& Int32.toUInt32 31)).toInt32) &&& (858993459 : Int32))) + (((((a1 - (((a1.toUInt32 >>> ((1 : Int32).toUInt32 &&& Int32.toUInt32 31)).toInt32) &&& (1431655765 : Int32))) &&& (858993459 : Int32)) + ((((a1 - (((a1.toUInt32 >>> ((1 : Int32).toUInt32 &&& Int32.toUInt32 31)).toInt32) &&& (1431655765 : Int32))).toUInt32 >>> ((2 : Int32).toUInt32 &&& Int32.toUInt32 31)).toInt32) &&& (858993459 : Int32))).toUInt32 >>> ((4 : Int32).toUInt32 &&& Int32.toUInt32 31)).toInt32)) &&& (252645135 : Int32)) + (((((((a1 - (((a1.toUInt32 >>> ((1 : Int32).toUInt32 &&& Int32.toUInt32 31)).toInt32) &&& (1431655765 : Int32))) &&& (858993459 : Int32)) + ((((a1 - (((a1.toUInt32 >>> ((1 : Int32).toUInt32 &&& Int32.toUInt32 31)).toInt32) &&& (1431655765 : Int32))).toUInt32 >>> ((2 : Int32).toUInt32 &&& Int32.toUInt32 31)).toInt32) &&& (858993459 : Int32))) + (((((a1 - (((a1.toUInt32 >>> ((1 : Int32).toUInt32 &&& Int32.toUInt32 31)).toInt32) &&& (1431655765 : Int32))) &&& (858993459 : Int32)) + ((((a1 - (((a1.toUInt32 >>> ((1 : Int32).toUInt32 &&& Int32.toUInt32 31)).toInt32) &&& (1431655765 : Int32))).toUInt32 >>> ((2 : Int32).toUInt32 &&& Int32.toUInt32 31)).toInt32) &&& (858993459 : Int32))).toUInt32 >>> ((4 : Int32).toUInt32 &&& Int32.toUInt32 31)).toInt32)) &&& (252645135 : Int32)).toUInt32 >>> ((8 : Int32).toUInt32 &&& Int32.toUInt32 31)).toInt32)).toUInt32 >>> ((16 : Int32).toUInt32 &&& Int32.toUInt32 31)).toInt32)))]) C dJ6_bitCount_0f7a4_47 rfl rfl rfl ?_
  refine j_iload_n C 0 dJ6_bitCount_0f7a4_48 rfl ?_
  refine j_bipush (v := 63) C dJ6_bitCount_0f7a4_49 (by decide) ?_
  refine j_iand C dJ6_bitCount_0f7a4_51 ?_
  obtain ⟨hv, hs⟩ := s2_inj h
  subst hv
  subst hs
  exact j_iret C e dJ6_bitCount_0f7a4_52
set_option maxRecDepth 10000 in
theorem c5_howManyRun (l : Launch) {α : WA}  {t : Nat} {a1 : Int32} {σ σ' : M2} {v : Int32}  (h : F5_howManyRun t a1 σ = some (v, σ')) : Ct l (ωC α) yX5_howManyRun cX5_howManyRun 2 (some FieldType.int) 2 [.ref (wad (ωC α) t), .int a1] σ (some (.int v)) σ' := by
  unfold F5_howManyRun at h
  refine Ct.of (own := "EveryoneWins$Races") (L := [(0, .ref (wad (ωC α) t)), (1, .int a1)]) (by decide +kernel) rfl rfl rfl (fun κ hl e C => ?_)
  show J (ωC α) κ 2 2 0 [(0, .ref (wad (ωC α) t)), (1, .int a1)] [] σ
  refine j_aload_n C 0 dX5_howManyRun_0 rfl ?_
  obtain ⟨g1, h⟩ := gd_some h
  refine j_getr (o := t) (j := 2) C inT5 (ci := 4) rfl (by decide) (isO_sh g1) rfl rfl wd_141 dX5_howManyRun_1 (o' := crf t 2) rfl ?_
  refine j_iload_n C 1 dX5_howManyRun_4 rfl ?_
  obtain ⟨r2, s3, hc4, h⟩ := bnd_some h
  refine k_N (v := some (.int r2)) C sb_X11_at (c11_at _ hc4) rfl (by decide) wn_700 rfl dX5_howManyRun_5 ?_
  show J (ωC α) κ _ _ 8 _ [.int r2] s3
  obtain ⟨r5, s6, hc7, h⟩ := bnd_some h
  refine k_S (v := some (.int r5)) C sb_J6_bitCount_0f7a4 (cJJ6_bitCount_0f7a4 _ hc7) rfl (by decide) wd_701 rfl dX5_howManyRun_8 ?_
  show J (ωC α) κ _ _ 11 _ [.int r5] s6
  obtain ⟨hv, hs⟩ := s2_inj h
  subst hv
  subst hs
  exact j_iret C e dX5_howManyRun_11
set_option maxRecDepth 10000 in
theorem b10_textAt_22 {α : WA} {κ : KT}  {v : Option Nat} {σ' : M2}  (C : Cx (ωC α) κ cX10_textAt 2 "EveryoneWins$Texts" (some (FieldType.object "EveryoneWins$Text"))) (e : κ.2.2.2.2.2.2.2.2.2 = (some (va_rf (v.map (wad (ωC α)))), σ'))  {σ : M2} (h : F10_textAt_22  σ = some (v, σ')) : J (ωC α) κ 1 2 22 [] [] σ := by
  unfold F10_textAt_22 at h
  refine j_null C dX10_textAt_22 ?_
  obtain ⟨hv, hs⟩ := s2_inj h
  subst hv
  subst hs
  exact j_aret C rfl (Or.inl ⟨_, rfl⟩) (Or.inl rfl) e dX10_textAt_23
set_option maxRecDepth 10000 in
theorem c10_textAt (l : Launch) {α : WA}  {a1 : Int32} {σ σ' : M2} {v : Option Nat}  (h : F10_textAt a1 σ = some (v, σ')) : Ct l (ωC α) yX10_textAt cX10_textAt 2 (some (FieldType.object "EveryoneWins$Text")) 1 [.ref (wad (ωC α) 10), .int a1] σ (some (va_rf (v.map (wad (ωC α))))) σ' := by
  unfold F10_textAt at h
  refine Ct.of (own := "EveryoneWins$Texts") (L := [(0, .ref (wad (ωC α) 10)), (1, .int a1)]) (by decide +kernel) rfl rfl rfl (fun κ hl e C => ?_)
  show J (ωC α) κ 1 2 0 [(0, .ref (wad (ωC α) 10)), (1, .int a1)] [] σ
  refine j_iload_n C 1 dX10_textAt_0 rfl ?_
  refine j_if_lt (tgt := 22) C dX10_textAt_1 (by decide) (fun c1 => ?_) (fun c1 => ?_)
  · replace h := it c1 h
    exact j_sub [] rfl (b10_textAt_22 C e h)
  · replace h := ie c1 h
    refine j_iload_n C 1 dX10_textAt_4 rfl ?_
    refine j_aload_n C 0 dX10_textAt_5 rfl ?_
    refine j_getr (o := 10) (j := 0) C inT10 (ci := 9) rfl (by decide) (rfl) rfl rfl wd_191 dX10_textAt_6 (o' := 11) rfl ?_
    refine j_alen (o := 11) (t := 1) (N := 6) (v := 6) C rfl (by decide) rfl dX10_textAt_9 ?_
    refine j_icmp_ge (tgt := 22) C dX10_textAt_10 (by decide) (fun c2 => ?_) (fun c2 => ?_)
    · replace h := it c2 h
      exact j_sub [] rfl (b10_textAt_22 C e h)
    · replace h := ie c2 h
      refine j_aload_n C 0 dX10_textAt_13 rfl ?_
      refine j_getr (o := 10) (j := 0) C inT10 (ci := 9) rfl (by decide) (rfl) rfl rfl wd_191 dX10_textAt_14 (o' := 11) rfl ?_
      refine j_iload_n C 1 dX10_textAt_17 rfl ?_
      obtain ⟨g3, h⟩ := gd_some h
      refine j_aaload (N := 6) C rfl (inb_in g3) dX10_textAt_18 ?_
      refine j_goto (tgt := 23) C dX10_textAt_19 (by decide) ?_
      obtain ⟨hv, hs⟩ := s2_inj h
      subst hv
      subst hs
      exact j_aret C rfl (Or.inl ⟨_, rfl⟩) (Or.inr ⟨_, rfl⟩) e dX10_textAt_23
set_option maxRecDepth 10000 in
theorem c10_theLaw (l : Launch) {α : WA}   {σ σ' : M2} {v : Option Nat}  (h : F10_theLaw  σ = some (v, σ')) : Ct l (ωC α) yX10_theLaw cX10_theLaw 1 (some (FieldType.object "EveryoneWins$Text")) 2 [.ref (wad (ωC α) 10)] σ (some (va_rf (v.map (wad (ωC α))))) σ' := by
  unfold F10_theLaw at h
  refine Ct.of (own := "EveryoneWins$Texts") (L := [(0, .ref (wad (ωC α) 10))]) (by decide +kernel) rfl rfl rfl (fun κ hl e C => ?_)
  show J (ωC α) κ 2 1 0 [(0, .ref (wad (ωC α) 10))] [] σ
  refine j_aload_n C 0 dX10_theLaw_0 rfl ?_
  refine j_aload_n C 0 dX10_theLaw_1 rfl ?_
  refine j_geti (o := 10) (j := 2) C inT10 (ci := 9) rfl (by decide) (rfl) rfl rfl wd_195 dX10_theLaw_2 ?_
  obtain ⟨r1, s2, hc3, h⟩ := bnd_some h
  cases r1 with
  | none =>
    refine k_V (v := some .null) C vb_X10_textAt (ci := 9) (T := TX10) (N := 3) rfl (by decide) (c10_textAt _ hc3) rfl (by decide) wd_423 (rfl) rfl dX10_theLaw_5 ?_
    show J (ωC α) κ _ _ 8 _ [.null] s2
    obtain ⟨hv, hs⟩ := s2_inj h
    subst hv
    subst hs
    exact j_aret C rfl (Or.inl ⟨_, rfl⟩) (Or.inl rfl) e dX10_theLaw_8
  | some q4 =>
    refine k_V (v := some (.ref (wad (ωC α) q4))) C vb_X10_textAt (ci := 9) (T := TX10) (N := 3) rfl (by decide) (c10_textAt _ hc3) rfl (by decide) wd_423 (rfl) rfl dX10_theLaw_5 ?_
    show J (ωC α) κ _ _ 8 _ [.ref (wad (ωC α) q4)] s2
    obtain ⟨hv, hs⟩ := s2_inj h
    subst hv
    subst hs
    exact j_aret C rfl (Or.inl ⟨_, rfl⟩) (Or.inr ⟨_, rfl⟩) e dX10_theLaw_8
set_option maxRecDepth 10000 in
theorem c9_push (l : Launch) {α : WA}  {t : Nat} {a1 : Int32} {σ σ' : M2}  (h : F9_push t a1 σ = some ((), σ')) : Ct l (ωC α) yX9_push cX9_push 2 (none) 1 [.ref (wad (ωC α) t), .int a1] σ (none) σ' := by
  unfold F9_push at h
  refine Ct.of (own := "EveryoneWins$Text") (L := [(0, .ref (wad (ωC α) t)), (1, .int a1)]) (by decide +kernel) rfl rfl rfl (fun κ hl e C => ?_)
  show J (ωC α) κ 1 2 0 [(0, .ref (wad (ωC α) t)), (1, .int a1)] [] σ
  refine j_aload_n C 0 dX9_push_0 rfl ?_
  obtain ⟨g1, h⟩ := gd_some h
  refine j_geti (o := t) (j := 4) C inT9 (ci := 8) rfl (by decide) (isO_sh g1) rfl rfl wd_179 dX9_push_1 ?_
  refine j_aload_n C 0 dX9_push_4 rfl ?_
  refine j_getr (o := t) (j := 2) C inT9 (ci := 8) rfl (by decide) (isO_sh g1) rfl rfl wd_177 dX9_push_5 (o' := crf t 2) rfl ?_
  obtain ⟨g2, h⟩ := gd_some h
  refine j_alen (N := (csh (crf t 2)).2) C (isA_sh g2) (by decide) rfl dX9_push_8 ?_
  refine j_icmp_ge (tgt := 32) C dX9_push_9 (by decide) (fun c3 => ?_) (fun c3 => ?_)
  · replace h := it c3 h
    obtain ⟨-, hs⟩ := s2_inj h
    subst hs
    exact j_vret C e dX9_push_32
  · replace h := ie c3 h
    refine j_aload_n C 0 dX9_push_12 rfl ?_
    refine j_getr (o := t) (j := 2) C inT9 (ci := 8) rfl (by decide) (isO_sh g1) rfl rfl wd_177 dX9_push_13 (o' := crf t 2) rfl ?_
    refine j_aload_n C 0 dX9_push_16 rfl ?_
    refine j_geti (o := t) (j := 4) C inT9 (ci := 8) rfl (by decide) (isO_sh g1) rfl rfl wd_179 dX9_push_17 ?_
    refine j_iload_n C 1 dX9_push_20 rfl ?_
    obtain ⟨g4, h⟩ := gd_some h
    refine j_iastore (N := (csh (crf t 2)).2) C (isA_sh g2) (inb_in g4) dX9_push_21 ?_
    refine j_aload_n C 0 dX9_push_22 rfl ?_
    refine j_dup C dX9_push_23 rfl ?_
    refine j_geti (o := t) (j := 4) C inT9 (ci := 8) rfl (by decide) (isO_sh g1) rfl rfl wd_179 dX9_push_24 ?_
    refine j_iconst (v := 1) C dX9_push_27 (by decide) ?_
    refine j_iadd C dX9_push_28 ?_
    refine j_puti (o := t) (j := 4) C inT9 tyX9_ok nmX9 (ci := 8) rfl (by decide) (isO_sh g1) rfl rfl rfl (tyX9_ok 4 (by decide)) rfl rfl wd_179 dX9_push_29 ?_
    obtain ⟨-, hs⟩ := s2_inj h
    subst hs
    exact j_vret C e dX9_push_32
set_option maxRecDepth 10000 in
theorem c9_pop (l : Launch) {α : WA}  {t : Nat} {σ σ' : M2} {v : Int32}  (h : F9_pop t σ = some (v, σ')) : Ct l (ωC α) yX9_pop cX9_pop 1 (some FieldType.int) 1 [.ref (wad (ωC α) t)] σ (some (.int v)) σ' := by
  unfold F9_pop at h
  refine Ct.of (own := "EveryoneWins$Text") (L := [(0, .ref (wad (ωC α) t))]) (by decide +kernel) rfl rfl rfl (fun κ hl e C => ?_)
  show J (ωC α) κ 1 1 0 [(0, .ref (wad (ωC α) t))] [] σ
  refine j_aload_n C 0 dX9_pop_0 rfl ?_
  obtain ⟨g1, h⟩ := gd_some h
  refine j_geti (o := t) (j := 4) C inT9 (ci := 8) rfl (by decide) (isO_sh g1) rfl rfl wd_179 dX9_pop_1 ?_
  refine j_if_le (tgt := 19) C dX9_pop_4 (by decide) (fun c2 => ?_) (fun c2 => ?_)
  · replace h := it c2 h
    refine j_iconst (v := 0) C dX9_pop_19 (by decide) ?_
    obtain ⟨hv, hs⟩ := s2_inj h
    subst hv
    subst hs
    exact j_iret C e dX9_pop_20
  · replace h := ie c2 h
    refine j_aload_n C 0 dX9_pop_7 rfl ?_
    refine j_geti (o := t) (j := 4) C inT9 (ci := 8) rfl (by decide) (isO_sh g1) rfl rfl wd_179 dX9_pop_8 ?_
    refine j_aload_n C 0 dX9_pop_11 rfl ?_
    refine j_getr (o := t) (j := 2) C inT9 (ci := 8) rfl (by decide) (isO_sh g1) rfl rfl wd_177 dX9_pop_12 (o' := crf t 2) rfl ?_
    obtain ⟨g3, h⟩ := gd_some h
    refine j_alen (N := (csh (crf t 2)).2) C (isA_sh g3) (by decide) rfl dX9_pop_15 ?_
    refine j_icmp_le (tgt := 21) C dX9_pop_16 (by decide) (fun c4 => ?_) (fun c4 => ?_)
    · replace h := it c4 h
      refine j_aload_n C 0 dX9_pop_21 rfl ?_
      refine j_dup C dX9_pop_22 rfl ?_
      refine j_geti (o := t) (j := 4) C inT9 (ci := 8) rfl (by decide) (isO_sh g1) rfl rfl wd_179 dX9_pop_23 ?_
      refine j_iconst (v := 1) C dX9_pop_26 (by decide) ?_
      refine j_isub C dX9_pop_27 ?_
      refine j_puti (o := t) (j := 4) C inT9 tyX9_ok nmX9 (ci := 8) rfl (by decide) (isO_sh g1) rfl rfl rfl (tyX9_ok 4 (by decide)) rfl rfl wd_179 dX9_pop_28 ?_
      refine j_aload_n C 0 dX9_pop_31 rfl ?_
      refine j_getr (o := t) (j := 2) C inT9 (ci := 8) rfl (by decide) (isO_sh g1) rfl rfl wd_177 dX9_pop_32 (o' := crf t 2) rfl ?_
      refine j_aload_n C 0 dX9_pop_35 rfl ?_
      refine j_geti (o := t) (j := 4) C inT9 (ci := 8) rfl (by decide) (isO_sh g1) rfl rfl wd_179 dX9_pop_36 ?_
      obtain ⟨g5, h⟩ := gd_some h
      refine j_iaload (N := (csh (crf t 2)).2) C (isA_sh g3) (inb_in g5) dX9_pop_39 ?_
      obtain ⟨hv, hs⟩ := s2_inj h
      subst hv
      subst hs
      exact j_iret C e dX9_pop_40
    · replace h := ie c4 h
      refine j_iconst (v := 0) C dX9_pop_19 (by decide) ?_
      obtain ⟨hv, hs⟩ := s2_inj h
      subst hv
      subst hs
      exact j_iret C e dX9_pop_20
set_option maxRecDepth 10000 in
theorem c9_joined (l : Launch) {α : WA}  {a1 : Int32} {a2 : Int32} {a3 : Int32} {σ σ' : M2} {v : Int32}  (h : F9_joined a1 a2 a3 σ = some (v, σ')) : Ct l (ωC α) yX9_joined cX9_joined 3 (some FieldType.int) 1 [.int a1, .int a2, .int a3] σ (some (.int v)) σ' := by
  unfold F9_joined at h
  refine Ct.of (own := "EveryoneWins$Text") (L := [(0, .int a1), (1, .int a2), (2, .int a3)]) (by decide +kernel) rfl rfl rfl (fun κ hl e C => ?_)
  show J (ωC α) κ 1 3 0 [(0, .int a1), (1, .int a2), (2, .int a3)] [] σ
  refine j_iload_n C 0 dX9_joined_0 rfl ?_
  by_cases c1 : a1 = (-14 : Int32)
  · replace h := it c1 h
    refine j_tabEq (tgt := 74) C dX9_joined_1 c1 (by decide) (by decide) rfl (by decide) ?_
    refine j_iload_n C 1 dX9_joined_74 rfl ?_
    refine j_if_eq (tgt := 86) C dX9_joined_75 (by decide) (fun c2 => ?_) (fun c2 => ?_)
    · replace h := it c2 h
      refine j_iconst (v := 0) C dX9_joined_86 (by decide) ?_
      obtain ⟨hv, hs⟩ := s2_inj h
      subst hv
      subst hs
      exact j_iret C e dX9_joined_87
    · replace h := ie c2 h
      refine j_iload_n C 2 dX9_joined_78 rfl ?_
      refine j_if_eq (tgt := 86) C dX9_joined_79 (by decide) (fun c3 => ?_) (fun c3 => ?_)
      · replace h := it c3 h
        refine j_iconst (v := 0) C dX9_joined_86 (by decide) ?_
        obtain ⟨hv, hs⟩ := s2_inj h
        subst hv
        subst hs
        exact j_iret C e dX9_joined_87
      · replace h := ie c3 h
        refine j_iconst (v := 1) C dX9_joined_82 (by decide) ?_
        refine j_goto (tgt := 87) C dX9_joined_83 (by decide) ?_
        obtain ⟨hv, hs⟩ := s2_inj h
        subst hv
        subst hs
        exact j_iret C e dX9_joined_87
  replace h := ie c1 h
  by_cases c4 : a1 = (-13 : Int32)
  · replace h := it c4 h
    refine j_tabEq (tgt := 63) C dX9_joined_1 c4 (by decide) (by decide) rfl (by decide) ?_
    refine j_iload_n C 1 dX9_joined_63 rfl ?_
    refine j_iload_n C 2 dX9_joined_64 rfl ?_
    refine j_icmp_ne (tgt := 72) C dX9_joined_65 (by decide) (fun c5 => ?_) (fun c5 => ?_)
    · replace h := ie c5 h
      refine j_iconst (v := 0) C dX9_joined_72 (by decide) ?_
      obtain ⟨hv, hs⟩ := s2_inj h
      subst hv
      subst hs
      exact j_iret C e dX9_joined_73
    · replace h := it c5 h
      refine j_iconst (v := 1) C dX9_joined_68 (by decide) ?_
      refine j_goto (tgt := 73) C dX9_joined_69 (by decide) ?_
      obtain ⟨hv, hs⟩ := s2_inj h
      subst hv
      subst hs
      exact j_iret C e dX9_joined_73
  replace h := ie c4 h
  by_cases c6 : a1 = (-12 : Int32)
  · replace h := it c6 h
    refine j_tabEq (tgt := 52) C dX9_joined_1 c6 (by decide) (by decide) rfl (by decide) ?_
    refine j_iload_n C 1 dX9_joined_52 rfl ?_
    refine j_iload_n C 2 dX9_joined_53 rfl ?_
    refine j_icmp_ge (tgt := 61) C dX9_joined_54 (by decide) (fun c7 => ?_) (fun c7 => ?_)
    · replace h := it c7 h
      refine j_iconst (v := 0) C dX9_joined_61 (by decide) ?_
      obtain ⟨hv, hs⟩ := s2_inj h
      subst hv
      subst hs
      exact j_iret C e dX9_joined_62
    · replace h := ie c7 h
      refine j_iconst (v := 1) C dX9_joined_57 (by decide) ?_
      refine j_goto (tgt := 62) C dX9_joined_58 (by decide) ?_
      obtain ⟨hv, hs⟩ := s2_inj h
      subst hv
      subst hs
      exact j_iret C e dX9_joined_62
  replace h := ie c6 h
  by_cases c8 : a1 = (-11 : Int32)
  · replace h := it c8 h
    refine j_tabEq (tgt := 48) C dX9_joined_1 c8 (by decide) (by decide) rfl (by decide) ?_
    refine j_iload_n C 1 dX9_joined_48 rfl ?_
    refine j_iload_n C 2 dX9_joined_49 rfl ?_
    refine j_isub C dX9_joined_50 ?_
    obtain ⟨hv, hs⟩ := s2_inj h
    subst hv
    subst hs
    exact j_iret C e dX9_joined_51
  replace h := ie c8 h
  by_cases c9 : a1 = (-10 : Int32)
  · replace h := it c9 h
    refine j_tabEq (tgt := 44) C dX9_joined_1 c9 (by decide) (by decide) rfl (by decide) ?_
    refine j_iload_n C 1 dX9_joined_44 rfl ?_
    refine j_iload_n C 2 dX9_joined_45 rfl ?_
    refine j_iadd C dX9_joined_46 ?_
    obtain ⟨hv, hs⟩ := s2_inj h
    subst hv
    subst hs
    exact j_iret C e dX9_joined_47
  replace h := ie c9 h
  by_cases c10 : a1 = (-9 : Int32)
  · replace h := it c10 h
    refine j_tabEq (tgt := 40) C dX9_joined_1 c10 (by decide) (by decide) rfl (by decide) ?_
    refine j_iload_n C 1 dX9_joined_40 rfl ?_
    refine j_iload_n C 2 dX9_joined_41 rfl ?_
    refine j_imul C dX9_joined_42 ?_
    obtain ⟨hv, hs⟩ := s2_inj h
    subst hv
    subst hs
    exact j_iret C e dX9_joined_43
  replace h := ie c10 h
  refine j_tableOut (tgt := 88) C dX9_joined_1 (by have q0 := ne_ti c1 (z := -14) (by decide); have q1 := ne_ti c4 (z := -13) (by decide); have q2 := ne_ti c6 (z := -12) (by decide); have q3 := ne_ti c8 (z := -11) (by decide); have q4 := ne_ti c9 (z := -10) (by decide); have q5 := ne_ti c10 (z := -9) (by decide); omega) (by decide) ?_
  refine j_iload_n C 1 dX9_joined_88 rfl ?_
  refine j_if_ne (tgt := 96) C dX9_joined_89 (by decide) (fun c11 => ?_) (fun c11 => ?_)
  · replace h := ie c11 h
    refine j_iconst (v := 1) C dX9_joined_96 (by decide) ?_
    refine j_goto (tgt := 101) C dX9_joined_97 (by decide) ?_
    obtain ⟨hv, hs⟩ := s2_inj h
    subst hv
    subst hs
    exact j_iret C e dX9_joined_101
  · replace h := it c11 h
    refine j_iload_n C 2 dX9_joined_92 rfl ?_
    refine j_if_eq (tgt := 100) C dX9_joined_93 (by decide) (fun c12 => ?_) (fun c12 => ?_)
    · replace h := it c12 h
      refine j_iconst (v := 0) C dX9_joined_100 (by decide) ?_
      obtain ⟨hv, hs⟩ := s2_inj h
      subst hv
      subst hs
      exact j_iret C e dX9_joined_101
    · replace h := ie c12 h
      refine j_iconst (v := 1) C dX9_joined_96 (by decide) ?_
      refine j_goto (tgt := 101) C dX9_joined_97 (by decide) ?_
      obtain ⟨hv, hs⟩ := s2_inj h
      subst hv
      subst hs
      exact j_iret C e dX9_joined_101
set_option maxRecDepth 10000 in
theorem b9_value_169 {α : WA} {κ : KT} {fu : Nat} {v : Int32} {σ' : M2} {x0 : Nat} {y0 : Int32} (C : Cx (ωC α) κ cX9_value 7 "EveryoneWins$Text" (some FieldType.int)) (e : κ.2.2.2.2.2.2.2.2.2 = (some (.int v), σ'))  {σ : M2} (h : F9_value_169 fu x0 y0 σ = some (v, σ')) : J (ωC α) κ 2 7 169 [(0, .ref (wad (ωC α) x0))] [.int y0] σ := by
  unfold F9_value_169 at h
  refine j_bipush (v := 99) C dX9_value_169 (by decide) ?_
  refine j_aload_n C 0 dX9_value_171 rfl ?_
  obtain ⟨g1, h⟩ := gd_some h
  obtain ⟨r2, s3, hc4, h⟩ := bnd_some h
  refine k_V (v := some (.int r2)) C vb_X9_pop (ci := 8) (T := TX9) (N := 5) rfl (by decide) (c9_pop _ hc4) rfl (by decide) wd_720 (isO_sh g1) rfl dX9_value_172 ?_
  show J (ωC α) κ _ _ 175 _ [.int r2, .int (99 : Int32), .int y0] s3
  refine j_mmin C (by decide) rfl wd_727 wd_728 wd_90 wd_729 dX9_value_175 ?_
  refine j_mmax C (by decide) rfl wd_730 wd_731 wd_90 wd_732 dX9_value_178 ?_
  obtain ⟨hv, hs⟩ := s2_inj h
  subst hv
  subst hs
  exact j_iret C e dX9_value_181
set_option maxRecDepth 10000 in
theorem b9_value_153 {α : WA} {κ : KT} {fu : Nat} {v : Int32} {σ' : M2} {x0 : Nat} {x1 : Int32} {x2 : Nat} {x3 : Int32} {x4 : Int32} (C : Cx (ωC α) κ cX9_value 7 "EveryoneWins$Text" (some FieldType.int)) (e : κ.2.2.2.2.2.2.2.2.2 = (some (.int v), σ')) {k34 : Int32 → M2 → Option (Int32 × M2)} (hk34 : ∀ (x4' : Int32) (σ : M2), k34 x4' σ = some (v, σ') → J (ωC α) κ 2 7 34 [(0, .ref (wad (ωC α) x0)), (1, .int x1), (2, .ref (wad (ωC α) x2)), (3, .int x3), (4, .int x4')] [] σ) {σ : M2} (h : F9_value_153 fu k34 x0 x1 x2 x3 x4 σ = some (v, σ')) : J (ωC α) κ 2 7 153 [(0, .ref (wad (ωC α) x0)), (1, .int x1), (2, .ref (wad (ωC α) x2)), (3, .int x3), (4, .int x4)] [] σ := by
  unfold F9_value_153 at h
  refine j_iinc (L' := [(4, .int (x4 + 1)), (0, .ref (wad (ωC α) x0)), (1, .int x1), (2, .ref (wad (ωC α) x2)), (3, .int x3)]) C 4 dX9_value_153 rfl rfl rfl rfl ?_
  refine j_goto (tgt := 34) C dX9_value_156 (by decide) ?_
  exact j_sub [1, 2, 3, 4, 0] rfl (hk34 _ _ h)
set_option maxRecDepth 10000 in
theorem b9_value_126 {α : WA} {κ : KT} {fu : Nat} {v : Int32} {σ' : M2} {x0 : Nat} {x1 : Int32} {x2 : Nat} {x3 : Int32} {x4 : Int32} {y0 : Int32} {y1 : Nat} (C : Cx (ωC α) κ cX9_value 7 "EveryoneWins$Text" (some FieldType.int)) (e : κ.2.2.2.2.2.2.2.2.2 = (some (.int v), σ')) {k34 : Int32 → M2 → Option (Int32 × M2)} (hk34 : ∀ (x4' : Int32) (σ : M2), k34 x4' σ = some (v, σ') → J (ωC α) κ 2 7 34 [(0, .ref (wad (ωC α) x0)), (1, .int x1), (2, .ref (wad (ωC α) x2)), (3, .int x3), (4, .int x4')] [] σ) {σ : M2} (h : F9_value_126 fu k34 x0 x1 x2 x3 x4 y0 y1 σ = some (v, σ')) : J (ωC α) κ 2 7 126 [(0, .ref (wad (ωC α) x0)), (1, .int x1), (2, .ref (wad (ωC α) x2)), (3, .int x3), (4, .int x4)] [.int y0, .ref (wad (ωC α) y1)] σ := by
  unfold F9_value_126 at h
  obtain ⟨g1, h⟩ := gd_some h
  obtain ⟨r2, s3, hc4, h⟩ := bnd_some h
  refine k_V (v := none) C vb_X9_push (ci := 8) (T := TX9) (N := 5) rfl (by decide) (c9_push _ hc4) rfl (by decide) wd_716 (isO_sh g1) rfl dX9_value_126 ?_
  show J (ωC α) κ _ _ 129 _ [] s3
  refine j_goto (tgt := 153) C dX9_value_129 (by decide) ?_
  exact (b9_value_153 C e hk34 h)
set_option maxRecDepth 10000 in
theorem b9_value_34 {α : WA} {κ : KT} {fu : Nat} {v : Int32} {σ' : M2} {x0 : Nat} {x1 : Int32} {x2 : Nat} {x3 : Int32} {x4 : Int32} (C : Cx (ωC α) κ cX9_value 7 "EveryoneWins$Text" (some FieldType.int)) (e : κ.2.2.2.2.2.2.2.2.2 = (some (.int v), σ'))  {σ : M2} (h : F9_value_34 fu x0 x1 x2 x3 x4 σ = some (v, σ')) : J (ωC α) κ 2 7 34 [(0, .ref (wad (ωC α) x0)), (1, .int x1), (2, .ref (wad (ωC α) x2)), (3, .int x3), (4, .int x4)] [] σ := by
  unfold F9_value_34 at h
  refine wl1_ind (fun x4 σ => J (ωC α) κ 2 7 34 [(0, .ref (wad (ωC α) x0)), (1, .int x1), (2, .ref (wad (ωC α) x2)), (3, .int x3), (4, .int x4)] [] σ) ?_ fu x4 σ h
  intro k34 hk34 x4 σ h
  try dsimp only at h
  show J (ωC α) κ 2 7 34 [(0, .ref (wad (ωC α) x0)), (1, .int x1), (2, .ref (wad (ωC α) x2)), (3, .int x3), (4, .int x4)] [] σ
  refine j_iload C 4 dX9_value_34 rfl ?_
  refine j_iload_n C 3 dX9_value_36 rfl ?_
  refine j_icmp_ge (tgt := 159) C dX9_value_37 (by decide) (fun c1 => ?_) (fun c1 => ?_)
  · replace h := it c1 h
    refine j_iload_n C 1 dX9_value_159 rfl ?_
    refine j_if_ne (tgt := 167) C dX9_value_160 (by decide) (fun c2 => ?_) (fun c2 => ?_)
    · replace h := ie c2 h
      refine j_bipush (v := -99) C dX9_value_167 (by decide) ?_
      exact j_sub [0] rfl (b9_value_169 C e h)
    · replace h := it c2 h
      refine j_iconst (v := 0) C dX9_value_163 (by decide) ?_
      refine j_goto (tgt := 169) C dX9_value_164 (by decide) ?_
      exact j_sub [0] rfl (b9_value_169 C e h)
  · replace h := ie c1 h
    refine j_aload_n C 0 dX9_value_40 rfl ?_
    obtain ⟨g3, h⟩ := gd_some h
    refine j_getr (o := x0) (j := 0) C inT9 (ci := 8) rfl (by decide) (isO_sh g3) rfl rfl wd_175 dX9_value_41 (o' := crf x0 0) rfl ?_
    refine j_iload C 4 dX9_value_44 rfl ?_
    obtain ⟨r4, s5, hc6, h⟩ := bnd_some h
    refine k_N (v := some (.int r4)) C sb_X11_at (c11_at _ hc6) rfl (by decide) wn_715 rfl dX9_value_46 ?_
    show J (ωC α) κ _ _ 49 _ [.int r4] s5
    refine j_istore (L' := [(5, .int r4), (0, .ref (wad (ωC α) x0)), (1, .int x1), (2, .ref (wad (ωC α) x2)), (3, .int x3), (4, .int x4)]) C dX9_value_49 rfl rfl ?_
    refine j_iload C 0 dX9_value_51 rfl ?_
    refine j_if_lt (tgt := 65) C dX9_value_53 (by decide) (fun c7 => ?_) (fun c7 => ?_)
    · replace h := it c7 h
      refine j_iload C 0 dX9_value_65 rfl ?_
      refine j_bipush (v := -7) C dX9_value_67 (by decide) ?_
      refine j_icmp_le (tgt := 87) C dX9_value_69 (by decide) (fun c8 => ?_) (fun c8 => ?_)
      · replace h := it c8 h
        refine j_iload C 0 dX9_value_87 rfl ?_
        refine j_bipush (v := -7) C dX9_value_89 (by decide) ?_
        refine j_icmp_ne (tgt := 106) C dX9_value_91 (by decide) (fun c9 => ?_) (fun c9 => ?_)
        · replace h := ie c9 h
          refine j_iload C 0 dX9_value_106 rfl ?_
          refine j_bipush (v := -8) C dX9_value_108 (by decide) ?_
          refine j_icmp_ne (tgt := 132) C dX9_value_110 (by decide) (fun c10 => ?_) (fun c10 => ?_)
          · replace h := ie c10 h
            refine j_aload_n C 1 dX9_value_132 rfl ?_
            obtain ⟨r11, s12, hc13, h⟩ := bnd_some h
            refine k_V (v := some (.int r11)) C vb_X9_pop (ci := 8) (T := TX9) (N := 5) rfl (by decide) (c9_pop _ hc13) rfl (by decide) wd_720 (isO_sh g3) rfl dX9_value_133 ?_
            show J (ωC α) κ _ _ 136 _ [.int r11] s12
            refine j_istore (L' := [(6, .int r11), (5, .int r4), (0, .ref (wad (ωC α) x0)), (1, .int x1), (2, .ref (wad (ωC α) x2)), (3, .int x3), (4, .int x4)]) C dX9_value_136 rfl rfl ?_
            refine j_aload_n C 2 dX9_value_138 rfl ?_
            refine j_iload C 1 dX9_value_139 rfl ?_
            refine j_aload_n C 2 dX9_value_141 rfl ?_
            obtain ⟨r14, s15, hc16, h⟩ := bnd_some h
            refine k_V (v := some (.int r14)) C vb_X9_pop (ci := 8) (T := TX9) (N := 5) rfl (by decide) (c9_pop _ hc16) rfl (by decide) wd_720 (isO_sh g3) rfl dX9_value_142 ?_
            show J (ωC α) κ _ _ 145 _ [.int r14, .int r4, .ref (wad (ωC α) x0)] s15
            refine j_iload C 0 dX9_value_145 rfl ?_
            obtain ⟨r17, s18, hc19, h⟩ := bnd_some h
            refine k_S (v := some (.int r17)) C sb_X9_joined (c9_joined _ hc19) rfl (by decide) wd_724 rfl dX9_value_147 ?_
            show J (ωC α) κ _ _ 150 _ [.int r17, .ref (wad (ωC α) x0)] s18
            obtain ⟨r20, s21, hc22, h⟩ := bnd_some h
            refine k_V (v := none) C vb_X9_push (ci := 8) (T := TX9) (N := 5) rfl (by decide) (c9_push _ hc22) rfl (by decide) wd_716 (isO_sh g3) rfl dX9_value_150 ?_
            show J (ωC α) κ _ _ 153 _ [] s21
            exact j_sub [2, 3, 4, 5, 6] rfl (b9_value_153 C e hk34 h)
          · replace h := it c10 h
            refine j_aload_n C 1 dX9_value_113 rfl ?_
            refine j_aload_n C 1 dX9_value_114 rfl ?_
            obtain ⟨r23, s24, hc25, h⟩ := bnd_some h
            refine k_V (v := some (.int r23)) C vb_X9_pop (ci := 8) (T := TX9) (N := 5) rfl (by decide) (c9_pop _ hc25) rfl (by decide) wd_720 (isO_sh g3) rfl dX9_value_115 ?_
            show J (ωC α) κ _ _ 118 _ [.int r23, .ref (wad (ωC α) x0)] s24
            refine j_if_ne (tgt := 125) C dX9_value_118 (by decide) (fun c26 => ?_) (fun c26 => ?_)
            · replace h := ie c26 h
              refine j_iconst (v := 0) C dX9_value_125 (by decide) ?_
              exact j_sub [1, 2, 3, 4, 5] rfl (b9_value_126 C e hk34 h)
            · replace h := it c26 h
              refine j_iconst (v := 1) C dX9_value_121 (by decide) ?_
              refine j_goto (tgt := 126) C dX9_value_122 (by decide) ?_
              exact j_sub [1, 2, 3, 4, 5] rfl (b9_value_126 C e hk34 h)
        · replace h := it c9 h
          refine j_aload_n C 1 dX9_value_94 rfl ?_
          refine j_aload_n C 1 dX9_value_95 rfl ?_
          obtain ⟨r27, s28, hc29, h⟩ := bnd_some h
          refine k_V (v := some (.int r27)) C vb_X9_pop (ci := 8) (T := TX9) (N := 5) rfl (by decide) (c9_pop _ hc29) rfl (by decide) wd_720 (isO_sh g3) rfl dX9_value_96 ?_
          show J (ωC α) κ _ _ 99 _ [.int r27, .ref (wad (ωC α) x0)] s28
          refine j_ineg C dX9_value_99 ?_
          obtain ⟨r30, s31, hc32, h⟩ := bnd_some h
          refine k_V (v := none) C vb_X9_push (ci := 8) (T := TX9) (N := 5) rfl (by decide) (c9_push _ hc32) rfl (by decide) wd_716 (isO_sh g3) rfl dX9_value_100 ?_
          show J (ωC α) κ _ _ 103 _ [] s31
          refine j_goto (tgt := 153) C dX9_value_103 (by decide) ?_
          exact j_sub [1, 2, 3, 4, 5] rfl (b9_value_153 C e hk34 h)
      · replace h := ie c8 h
        refine j_aload_n C 1 dX9_value_72 rfl ?_
        refine j_aload_n C 3 dX9_value_73 rfl ?_
        refine j_iconst (v := -1) C dX9_value_74 (by decide) ?_
        refine j_iload C 0 dX9_value_75 rfl ?_
        refine j_isub C dX9_value_77 ?_
        obtain ⟨r33, s34, hc35, h⟩ := bnd_some h
        refine k_N (v := some (.int r33)) C sb_X11_at (c11_at _ hc35) rfl (by decide) wn_715 rfl dX9_value_78 ?_
        show J (ωC α) κ _ _ 81 _ [.int r33, .ref (wad (ωC α) x0)] s34
        obtain ⟨r36, s37, hc38, h⟩ := bnd_some h
        refine k_V (v := none) C vb_X9_push (ci := 8) (T := TX9) (N := 5) rfl (by decide) (c9_push _ hc38) rfl (by decide) wd_716 (isO_sh g3) rfl dX9_value_81 ?_
        show J (ωC α) κ _ _ 84 _ [] s37
        refine j_goto (tgt := 153) C dX9_value_84 (by decide) ?_
        exact j_sub [1, 2, 3, 4, 5] rfl (b9_value_153 C e hk34 h)
    · replace h := ie c7 h
      refine j_aload_n C 1 dX9_value_56 rfl ?_
      refine j_iload C 0 dX9_value_57 rfl ?_
      obtain ⟨r39, s40, hc41, h⟩ := bnd_some h
      refine k_V (v := none) C vb_X9_push (ci := 8) (T := TX9) (N := 5) rfl (by decide) (c9_push _ hc41) rfl (by decide) wd_716 (isO_sh g3) rfl dX9_value_59 ?_
      show J (ωC α) κ _ _ 62 _ [] s40
      refine j_goto (tgt := 153) C dX9_value_62 (by decide) ?_
      exact j_sub [1, 2, 3, 4, 5] rfl (b9_value_153 C e hk34 h)
set_option maxRecDepth 10000 in
theorem b9_value_32 {α : WA} {κ : KT} {fu : Nat} {v : Int32} {σ' : M2} {x0 : Nat} {x1 : Int32} {x2 : Nat} {x3 : Int32} {y0 : Int32} (C : Cx (ωC α) κ cX9_value 7 "EveryoneWins$Text" (some FieldType.int)) (e : κ.2.2.2.2.2.2.2.2.2 = (some (.int v), σ'))  {σ : M2} (h : F9_value_32 fu x0 x1 x2 x3 y0 σ = some (v, σ')) : J (ωC α) κ 2 7 32 [(0, .ref (wad (ωC α) x0)), (1, .int x1), (2, .ref (wad (ωC α) x2)), (3, .int x3)] [.int y0] σ := by
  unfold F9_value_32 at h
  refine j_istore (L' := [(4, .int y0), (0, .ref (wad (ωC α) x0)), (1, .int x1), (2, .ref (wad (ωC α) x2)), (3, .int x3)]) C dX9_value_32 rfl rfl ?_
  exact j_sub [1, 2, 3, 4, 0] rfl (b9_value_34 C e h)
set_option maxRecDepth 10000 in
theorem c9_value (l : Launch) {α : WA} {fu : Nat} {t : Nat} {a1 : Int32} {a2 : Nat} {σ σ' : M2} {v : Int32}  (h : F9_value fu t a1 a2 σ = some (v, σ')) : Ct l (ωC α) yX9_value cX9_value 7 (some FieldType.int) 2 [.ref (wad (ωC α) t), .int a1, .ref (wad (ωC α) a2)] σ (some (.int v)) σ' := by
  unfold F9_value at h
  refine Ct.of (own := "EveryoneWins$Text") (L := [(0, .ref (wad (ωC α) t)), (1, .int a1), (2, .ref (wad (ωC α) a2))]) (by decide +kernel) rfl rfl rfl (fun κ hl e C => ?_)
  show J (ωC α) κ 2 7 0 [(0, .ref (wad (ωC α) t)), (1, .int a1), (2, .ref (wad (ωC α) a2))] [] σ
  refine j_aload_n C 0 dX9_value_0 rfl ?_
  obtain ⟨g1, h⟩ := gd_some h
  refine j_getr (o := t) (j := 1) C inT9 (ci := 8) rfl (by decide) (isO_sh g1) rfl rfl wd_176 dX9_value_1 (o' := crf t 1) rfl ?_
  refine j_iload_n C 1 dX9_value_4 rfl ?_
  obtain ⟨r2, s3, hc4, h⟩ := bnd_some h
  refine k_N (v := some (.int r2)) C sb_X11_at (c11_at _ hc4) rfl (by decide) wn_715 rfl dX9_value_5 ?_
  show J (ωC α) κ _ _ 8 _ [.int r2] s3
  refine j_istore_n (L' := [(3, .int r2), (0, .ref (wad (ωC α) t)), (1, .int a1), (2, .ref (wad (ωC α) a2))]) C dX9_value_8 rfl rfl rfl ?_
  refine j_aload_n C 1 dX9_value_9 rfl ?_
  refine j_iconst (v := 0) C dX9_value_10 (by decide) ?_
  refine j_puti (o := t) (j := 4) C inT9 tyX9_ok nmX9 (ci := 8) rfl (by decide) (isO_sh g1) rfl rfl rfl (tyX9_ok 4 (by decide)) rfl rfl wd_179 dX9_value_11 ?_
  refine j_iload_n C 2 dX9_value_14 rfl ?_
  refine j_if_ne (tgt := 22) C dX9_value_15 (by decide) (fun c5 => ?_) (fun c5 => ?_)
  · replace h := ie c5 h
    refine j_aload_n C 1 dX9_value_22 rfl ?_
    refine j_getr (o := t) (j := 1) C inT9 (ci := 8) rfl (by decide) (isO_sh g1) rfl rfl wd_176 dX9_value_23 (o' := crf t 1) rfl ?_
    refine j_iload_n C 2 dX9_value_26 rfl ?_
    refine j_iconst (v := 1) C dX9_value_27 (by decide) ?_
    refine j_isub C dX9_value_28 ?_
    obtain ⟨r6, s7, hc8, h⟩ := bnd_some h
    refine k_N (v := some (.int r6)) C sb_X11_at (c11_at _ hc8) rfl (by decide) wn_715 rfl dX9_value_29 ?_
    show J (ωC α) κ _ _ 32 _ [.int r6] s7
    exact j_sub [1, 2, 3, 0] rfl (b9_value_32 C e h)
  · replace h := it c5 h
    refine j_iconst (v := 0) C dX9_value_18 (by decide) ?_
    refine j_goto (tgt := 32) C dX9_value_19 (by decide) ?_
    exact j_sub [1, 2, 3, 0] rfl (b9_value_32 C e h)
set_option maxRecDepth 10000 in
theorem b2_says_127 {α : WA} {κ : KT} {fu : Nat} {v : Int32} {σ' : M2} {x1 : Int32} {y0 : Int32} {y1 : Int32} (C : Cx (ωC α) κ cX2_says 7 "EveryoneWins$Day" (some FieldType.int)) (e : κ.2.2.2.2.2.2.2.2.2 = (some (.int v), σ'))  {σ : M2} (h : F2_says_127 fu x1 y0 y1 σ = some (v, σ')) : J (ωC α) κ 3 7 127 [(0, .ref (wad (ωC α) 41)), (1, .int x1)] [.int y0, .int y1, .ref (wad (ωC α) 46)] σ := by
  unfold F2_says_127 at h
  obtain ⟨r1, s2, hc3, h⟩ := bnd_some h
  refine k_N (v := none) C sb_X11_set (c11_set _ hc3) rfl (by decide) wn_695 rfl dX2_says_127 ?_
  show J (ωC α) κ _ _ 130 _ [] s2
  refine j_aload_n C 0 dX2_says_130 rfl ?_
  refine j_getr (o := 41) (j := 2) C inT2 (ci := 2) rfl (by decide) (rfl) rfl rfl wd_256 dX2_says_131 (o' := 10) rfl ?_
  obtain ⟨r4, s5, hc6, h⟩ := bnd_some h
  cases r4 with
  | none =>
    refine k_V (v := some .null) C vb_X10_theLaw (ci := 9) (T := TX10) (N := 3) rfl (by decide) (c10_theLaw _ hc6) rfl (by decide) wd_707 (rfl) rfl dX2_says_134 ?_
    show J (ωC α) κ _ _ 137 _ [.null] s5
    refine j_astoreN (L' := [(6, .null), (0, .ref (wad (ωC α) 41)), (1, .int x1)]) C dX2_says_137 rfl rfl ?_
    refine j_aloadN C 0 dX2_says_139 rfl ?_
    refine j_ifnonnullN C dX2_says_141 ?_
    refine j_iconst (v := 0) C dX2_says_144 (by decide) ?_
    refine j_goto (tgt := 158) C dX2_says_145 (by decide) ?_
    obtain ⟨hv, hs⟩ := s2_inj h
    subst hv
    subst hs
    exact j_iret C e dX2_says_158
  | some q7 =>
    refine k_V (v := some (.ref (wad (ωC α) q7))) C vb_X10_theLaw (ci := 9) (T := TX10) (N := 3) rfl (by decide) (c10_theLaw _ hc6) rfl (by decide) wd_707 (rfl) rfl dX2_says_134 ?_
    show J (ωC α) κ _ _ 137 _ [.ref (wad (ωC α) q7)] s5
    refine j_astore (L' := [(6, .ref (wad (ωC α) q7)), (0, .ref (wad (ωC α) 41)), (1, .int x1)]) C dX2_says_137 rfl rfl ?_
    refine j_aload C 0 dX2_says_139 rfl ?_
    refine j_ifnonnull (tgt := 148) C dX2_says_141 (by decide) ?_
    refine j_aload C 0 dX2_says_148 rfl ?_
    refine j_iload_n C 2 dX2_says_150 rfl ?_
    refine j_aload_n C 1 dX2_says_151 rfl ?_
    refine j_getr (o := 41) (j := 7) C inT2 (ci := 2) rfl (by decide) (rfl) rfl rfl wd_265 dX2_says_152 (o' := 46) rfl ?_
    obtain ⟨g8, h⟩ := gd_some h
    obtain ⟨r9, s10, hc11, h⟩ := bnd_some h
    refine k_V (v := some (.int r9)) C vb_X9_value (ci := 8) (T := TX9) (N := 5) rfl (by decide) (c9_value _ hc11) rfl (by decide) wd_711 (isO_sh g8) rfl dX2_says_155 ?_
    show J (ωC α) κ _ _ 158 _ [.int r9] s10
    obtain ⟨hv, hs⟩ := s2_inj h
    subst hv
    subst hs
    exact j_iret C e dX2_says_158
set_option maxRecDepth 10000 in
theorem b2_says_109 {α : WA} {κ : KT} {fu : Nat} {v : Int32} {σ' : M2} {x1 : Int32} {x3 : Int32} {x5 : Int32} {y0 : Int32} {y1 : Int32} (C : Cx (ωC α) κ cX2_says 7 "EveryoneWins$Day" (some FieldType.int)) (e : κ.2.2.2.2.2.2.2.2.2 = (some (.int v), σ'))  {σ : M2} (h : F2_says_109 fu x1 x3 x5 y0 y1 σ = some (v, σ')) : J (ωC α) κ 3 7 109 [(0, .ref (wad (ωC α) 41)), (1, .int x1), (3, .int x3), (5, .int x5)] [.int y0, .int y1, .ref (wad (ωC α) 46)] σ := by
  unfold F2_says_109 at h
  obtain ⟨r1, s2, hc3, h⟩ := bnd_some h
  refine k_N (v := none) C sb_X11_set (c11_set _ hc3) rfl (by decide) wn_695 rfl dX2_says_109 ?_
  show J (ωC α) κ _ _ 112 _ [] s2
  refine j_aload_n C 0 dX2_says_112 rfl ?_
  refine j_getr (o := 41) (j := 7) C inT2 (ci := 2) rfl (by decide) (rfl) rfl rfl wd_265 dX2_says_113 (o' := 46) rfl ?_
  refine j_iconst (v := 5) C dX2_says_116 (by decide) ?_
  refine j_iload C 3 dX2_says_117 rfl ?_
  refine j_if_eq (tgt := 126) C dX2_says_119 (by decide) (fun c4 => ?_) (fun c4 => ?_)
  · replace h := it c4 h
    refine j_iconst (v := 0) C dX2_says_126 (by decide) ?_
    exact j_sub [0, 1] rfl (b2_says_127 C e h)
  · replace h := ie c4 h
    refine j_iload_n C 2 dX2_says_122 rfl ?_
    refine j_goto (tgt := 127) C dX2_says_123 (by decide) ?_
    exact j_sub [0, 1] rfl (b2_says_127 C e h)
set_option maxRecDepth 10000 in
theorem b2_says_84 {α : WA} {κ : KT} {fu : Nat} {v : Int32} {σ' : M2} {x1 : Int32} {x3 : Int32} {x5 : Int32} {y0 : Int32} {y1 : Int32} (C : Cx (ωC α) κ cX2_says 7 "EveryoneWins$Day" (some FieldType.int)) (e : κ.2.2.2.2.2.2.2.2.2 = (some (.int v), σ'))  {σ : M2} (h : F2_says_84 fu x1 x3 x5 y0 y1 σ = some (v, σ')) : J (ωC α) κ 3 7 84 [(0, .ref (wad (ωC α) 41)), (1, .int x1), (3, .int x3), (5, .int x5)] [.int y0, .int y1, .ref (wad (ωC α) 46)] σ := by
  unfold F2_says_84 at h
  obtain ⟨r1, s2, hc3, h⟩ := bnd_some h
  refine k_N (v := none) C sb_X11_set (c11_set _ hc3) rfl (by decide) wn_695 rfl dX2_says_84 ?_
  show J (ωC α) κ _ _ 87 _ [] s2
  refine j_aload_n C 0 dX2_says_87 rfl ?_
  refine j_getr (o := 41) (j := 7) C inT2 (ci := 2) rfl (by decide) (rfl) rfl rfl wd_265 dX2_says_88 (o' := 46) rfl ?_
  refine j_iconst (v := 4) C dX2_says_91 (by decide) ?_
  refine j_iload C 3 dX2_says_92 rfl ?_
  refine j_if_eq (tgt := 108) C dX2_says_94 (by decide) (fun c4 => ?_) (fun c4 => ?_)
  · replace h := it c4 h
    refine j_iconst (v := 0) C dX2_says_108 (by decide) ?_
    exact (b2_says_109 C e h)
  · replace h := ie c4 h
    refine j_aload_n C 0 dX2_says_97 rfl ?_
    refine j_getr (o := 41) (j := 1) C inT2 (ci := 2) rfl (by decide) (rfl) rfl rfl wd_255 dX2_says_98 (o' := 5) rfl ?_
    refine j_iload_n C 2 dX2_says_101 rfl ?_
    obtain ⟨r5, s6, hc7, h⟩ := bnd_some h
    refine k_V (v := some (.int r5)) C vb_X5_howManyRun (ci := 4) (T := TX5) (N := 5) rfl (by decide) (c5_howManyRun _ hc7) rfl (by decide) wd_696 (rfl) rfl dX2_says_102 ?_
    show J (ωC α) κ _ _ 105 _ [.int r5, .int (4 : Int32), .ref (wad (ωC α) 46)] s6
    refine j_goto (tgt := 109) C dX2_says_105 (by decide) ?_
    exact (b2_says_109 C e h)
set_option maxRecDepth 10000 in
theorem b2_says_9 {α : WA} {κ : KT} {fu : Nat} {v : Int32} {σ' : M2} {x1 : Int32} {x2 : Int32} {x3 : Int32} {x4 : Int32} {y0 : Int32} (C : Cx (ωC α) κ cX2_says 7 "EveryoneWins$Day" (some FieldType.int)) (e : κ.2.2.2.2.2.2.2.2.2 = (some (.int v), σ'))  {σ : M2} (h : F2_says_9 fu x1 x2 x3 x4 y0 σ = some (v, σ')) : J (ωC α) κ 3 7 9 [(0, .ref (wad (ωC α) 41)), (1, .int x1), (2, .int x2), (3, .int x3), (4, .int x4)] [.int y0] σ := by
  unfold F2_says_9 at h
  refine j_istore (L' := [(5, .int y0), (0, .ref (wad (ωC α) 41)), (1, .int x1), (2, .int x2), (3, .int x3), (4, .int x4)]) C dX2_says_9 rfl rfl ?_
  refine j_aload_n C 1 dX2_says_11 rfl ?_
  refine j_getr (o := 41) (j := 7) C inT2 (ci := 2) rfl (by decide) (rfl) rfl rfl wd_265 dX2_says_12 (o' := 46) rfl ?_
  refine j_iconst (v := 0) C dX2_says_15 (by decide) ?_
  refine j_aload_n C 1 dX2_says_16 rfl ?_
  refine j_getr (o := 41) (j := 0) C inT2 (ci := 2) rfl (by decide) (rfl) rfl rfl wd_254 dX2_says_17 (o' := 1) rfl ?_
  refine j_getr (o := 1) (j := 0) C inT1 (ci := 1) rfl (by decide) (rfl) rfl rfl wd_108 dX2_says_20 (o' := 2) rfl ?_
  refine j_iload_n C 3 dX2_says_23 rfl ?_
  obtain ⟨r1, s2, hc3, h⟩ := bnd_some h
  refine k_N (v := some (.int r1)) C sb_X11_at (c11_at _ hc3) rfl (by decide) wn_694 rfl dX2_says_24 ?_
  show J (ωC α) κ _ _ 27 _ [.int r1, .int (0 : Int32), .ref (wad (ωC α) 46)] s2
  obtain ⟨r4, s5, hc6, h⟩ := bnd_some h
  refine k_N (v := none) C sb_X11_set (c11_set _ hc6) rfl (by decide) wn_695 rfl dX2_says_27 ?_
  show J (ωC α) κ _ _ 30 _ [] s5
  refine j_aload_n C 1 dX2_says_30 rfl ?_
  refine j_getr (o := 41) (j := 7) C inT2 (ci := 2) rfl (by decide) (rfl) rfl rfl wd_265 dX2_says_31 (o' := 46) rfl ?_
  refine j_iconst (v := 1) C dX2_says_34 (by decide) ?_
  refine j_aload_n C 1 dX2_says_35 rfl ?_
  refine j_getr (o := 41) (j := 0) C inT2 (ci := 2) rfl (by decide) (rfl) rfl rfl wd_254 dX2_says_36 (o' := 1) rfl ?_
  refine j_getr (o := 1) (j := 1) C inT1 (ci := 1) rfl (by decide) (rfl) rfl rfl wd_111 dX2_says_39 (o' := 3) rfl ?_
  refine j_iload_n C 3 dX2_says_42 rfl ?_
  obtain ⟨r7, s8, hc9, h⟩ := bnd_some h
  refine k_N (v := some (.int r7)) C sb_X11_at (c11_at _ hc9) rfl (by decide) wn_694 rfl dX2_says_43 ?_
  show J (ωC α) κ _ _ 46 _ [.int r7, .int (1 : Int32), .ref (wad (ωC α) 46)] s8
  obtain ⟨r10, s11, hc12, h⟩ := bnd_some h
  refine k_N (v := none) C sb_X11_set (c11_set _ hc12) rfl (by decide) wn_695 rfl dX2_says_46 ?_
  show J (ωC α) κ _ _ 49 _ [] s11
  refine j_aload_n C 1 dX2_says_49 rfl ?_
  refine j_getr (o := 41) (j := 7) C inT2 (ci := 2) rfl (by decide) (rfl) rfl rfl wd_265 dX2_says_50 (o' := 46) rfl ?_
  refine j_iconst (v := 2) C dX2_says_53 (by decide) ?_
  refine j_iload C 5 dX2_says_54 rfl ?_
  obtain ⟨r13, s14, hc15, h⟩ := bnd_some h
  refine k_N (v := none) C sb_X11_set (c11_set _ hc15) rfl (by decide) wn_695 rfl dX2_says_56 ?_
  show J (ωC α) κ _ _ 59 _ [] s14
  refine j_aload_n C 1 dX2_says_59 rfl ?_
  refine j_getr (o := 41) (j := 7) C inT2 (ci := 2) rfl (by decide) (rfl) rfl rfl wd_265 dX2_says_60 (o' := 46) rfl ?_
  refine j_iconst (v := 3) C dX2_says_63 (by decide) ?_
  refine j_iload C 0 dX2_says_64 rfl ?_
  refine j_if_eq (tgt := 83) C dX2_says_66 (by decide) (fun c16 => ?_) (fun c16 => ?_)
  · replace h := it c16 h
    refine j_iconst (v := 0) C dX2_says_83 (by decide) ?_
    exact j_sub [1, 2, 4, 0] rfl (b2_says_84 C e h)
  · replace h := ie c16 h
    refine j_aload_n C 1 dX2_says_69 rfl ?_
    refine j_getr (o := 41) (j := 1) C inT2 (ci := 2) rfl (by decide) (rfl) rfl rfl wd_255 dX2_says_70 (o' := 5) rfl ?_
    refine j_getr (o := 5) (j := 1) C inT5 (ci := 4) rfl (by decide) (rfl) rfl rfl wd_139 dX2_says_73 (o' := 7) rfl ?_
    refine j_iload_n C 4 dX2_says_76 rfl ?_
    obtain ⟨r17, s18, hc19, h⟩ := bnd_some h
    refine k_N (v := some (.int r17)) C sb_X11_at (c11_at _ hc19) rfl (by decide) wn_694 rfl dX2_says_77 ?_
    show J (ωC α) κ _ _ 80 _ [.int r17, .int (3 : Int32), .ref (wad (ωC α) 46)] s18
    refine j_goto (tgt := 84) C dX2_says_80 (by decide) ?_
    exact j_sub [1, 2, 4, 0] rfl (b2_says_84 C e h)
set_option maxRecDepth 10000 in
theorem c2_says (l : Launch) {α : WA} {fu : Nat} {a1 : Int32} {a2 : Int32} {a3 : Int32} {a4 : Int32} {σ σ' : M2} {v : Int32}  (h : F2_says fu a1 a2 a3 a4 σ = some (v, σ')) : Ct l (ωC α) yX2_says cX2_says 7 (some FieldType.int) 3 [.ref (wad (ωC α) 41), .int a1, .int a2, .int a3, .int a4] σ (some (.int v)) σ' := by
  unfold F2_says at h
  refine Ct.of (own := "EveryoneWins$Day") (L := [(0, .ref (wad (ωC α) 41)), (1, .int a1), (2, .int a2), (3, .int a3), (4, .int a4)]) (by decide +kernel) rfl rfl rfl (fun κ hl e C => ?_)
  show J (ωC α) κ 3 7 0 [(0, .ref (wad (ωC α) 41)), (1, .int a1), (2, .int a2), (3, .int a3), (4, .int a4)] [] σ
  refine j_iload_n C 3 dX2_says_0 rfl ?_
  refine j_if_lt (tgt := 8) C dX2_says_1 (by decide) (fun c1 => ?_) (fun c1 => ?_)
  · replace h := it c1 h
    refine j_iconst (v := 0) C dX2_says_8 (by decide) ?_
    exact (b2_says_9 C e h)
  · replace h := ie c1 h
    refine j_iconst (v := 1) C dX2_says_4 (by decide) ?_
    refine j_goto (tgt := 9) C dX2_says_5 (by decide) ?_
    exact (b2_says_9 C e h)
set_option maxRecDepth 10000 in
theorem c3_inSack (l : Launch) {α : WA}  {a1 : Int32} {a2 : Int32} {σ σ' : M2} {v : Int32}  (h : F3_inSack a1 a2 σ = some (v, σ')) : Ct l (ωC α) yX3_inSack cX3_inSack 2 (some FieldType.int) 1 [.int a1, .int a2] σ (some (.int v)) σ' := by
  unfold F3_inSack at h
  refine Ct.of (own := "EveryoneWins$Kinds") (L := [(0, .int a1), (1, .int a2)]) (by decide +kernel) rfl rfl rfl (fun κ hl e C => ?_)
  show J (ωC α) κ 1 2 0 [(0, .int a1), (1, .int a2)] [] σ
  refine j_iload_n C 0 dX3_inSack_0 rfl ?_
  refine j_iconst (v := 2) C dX3_inSack_1 (by decide) ?_
  refine j_idiv C dX3_inSack_2 (by decide) ?_
  refine j_iload_n C 1 dX3_inSack_3 rfl ?_
  refine j_iadd C dX3_inSack_4 ?_
  obtain ⟨hv, hs⟩ := s2_inj h
  subst hv
  subst hs
  exact j_iret C e dX3_inSack_5
set_option maxRecDepth 10000 in
theorem c3_doesIn (l : Launch) {α : WA}  {a1 : Int32} {a2 : Int32} {a3 : Int32} {a4 : Int32} {σ σ' : M2} {v : Int32}  (h : F3_doesIn a1 a2 a3 a4 σ = some (v, σ')) : Ct l (ωC α) yX3_doesIn cX3_doesIn 4 (some FieldType.int) 2 [.int a1, .int a2, .int a3, .int a4] σ (some (.int v)) σ' := by
  unfold F3_doesIn at h
  refine Ct.of (own := "EveryoneWins$Kinds") (L := [(0, .int a1), (1, .int a2), (2, .int a3), (3, .int a4)]) (by decide +kernel) rfl rfl rfl (fun κ hl e C => ?_)
  show J (ωC α) κ 2 4 0 [(0, .int a1), (1, .int a2), (2, .int a3), (3, .int a4)] [] σ
  refine j_iload_n C 0 dX3_doesIn_0 rfl ?_
  by_cases c1 : a1 = (1 : Int32)
  · replace h := it c1 h
    refine j_tabEq (tgt := 36) C dX3_doesIn_1 c1 (by decide) (by decide) rfl (by decide) ?_
    refine j_iload_n C 1 dX3_doesIn_36 rfl ?_
    refine j_iload_n C 2 dX3_doesIn_37 rfl ?_
    obtain ⟨r2, s3, hc4, h⟩ := bnd_some h
    refine k_S (v := some (.int r2)) C sb_X3_inSack (c3_inSack _ hc4) rfl (by decide) wd_782 rfl dX3_doesIn_38 ?_
    show J (ωC α) κ _ _ 41 _ [.int r2] s3
    obtain ⟨hv, hs⟩ := s2_inj h
    subst hv
    subst hs
    exact j_iret C e dX3_doesIn_41
  replace h := ie c1 h
  by_cases c5 : a1 = (2 : Int32)
  · replace h := it c5 h
    refine j_tabEq (tgt := 42) C dX3_doesIn_1 c5 (by decide) (by decide) rfl (by decide) ?_
    refine j_iload_n C 2 dX3_doesIn_42 rfl ?_
    refine j_iload_n C 3 dX3_doesIn_43 rfl ?_
    refine j_iadd C dX3_doesIn_44 ?_
    obtain ⟨hv, hs⟩ := s2_inj h
    subst hv
    subst hs
    exact j_iret C e dX3_doesIn_45
  replace h := ie c5 h
  by_cases c6 : a1 = (3 : Int32)
  · replace h := it c6 h
    refine j_tabEq (tgt := 46) C dX3_doesIn_1 c6 (by decide) (by decide) rfl (by decide) ?_
    refine j_bipush (v := 99) C dX3_doesIn_46 (by decide) ?_
    refine j_iload_n C 1 dX3_doesIn_48 rfl ?_
    refine j_iload_n C 2 dX3_doesIn_49 rfl ?_
    obtain ⟨r7, s8, hc9, h⟩ := bnd_some h
    refine k_S (v := some (.int r7)) C sb_X3_inSack (c3_inSack _ hc9) rfl (by decide) wd_782 rfl dX3_doesIn_50 ?_
    show J (ωC α) κ _ _ 53 _ [.int r7, .int (99 : Int32)] s8
    refine j_isub C dX3_doesIn_53 ?_
    obtain ⟨hv, hs⟩ := s2_inj h
    subst hv
    subst hs
    exact j_iret C e dX3_doesIn_54
  replace h := ie c6 h
  by_cases c10 : a1 = (4 : Int32)
  · replace h := it c10 h
    refine j_tabEq (tgt := 55) C dX3_doesIn_1 c10 (by decide) (by decide) rfl (by decide) ?_
    refine j_iload_n C 2 dX3_doesIn_55 rfl ?_
    refine j_iload_n C 3 dX3_doesIn_56 rfl ?_
    refine j_iadd C dX3_doesIn_57 ?_
    refine j_iload_n C 1 dX3_doesIn_58 rfl ?_
    refine j_isub C dX3_doesIn_59 ?_
    obtain ⟨hv, hs⟩ := s2_inj h
    subst hv
    subst hs
    exact j_iret C e dX3_doesIn_60
  replace h := ie c10 h
  by_cases c11 : a1 = (5 : Int32)
  · replace h := it c11 h
    refine j_tabEq (tgt := 61) C dX3_doesIn_1 c11 (by decide) (by decide) rfl (by decide) ?_
    refine j_bipush (v := 7) C dX3_doesIn_61 (by decide) ?_
    refine j_iload_n C 1 dX3_doesIn_63 rfl ?_
    refine j_imul C dX3_doesIn_64 ?_
    refine j_iconst (v := 3) C dX3_doesIn_65 (by decide) ?_
    refine j_iload_n C 2 dX3_doesIn_66 rfl ?_
    refine j_imul C dX3_doesIn_67 ?_
    refine j_iadd C dX3_doesIn_68 ?_
    refine j_iload_n C 3 dX3_doesIn_69 rfl ?_
    refine j_iadd C dX3_doesIn_70 ?_
    refine j_bipush (v := 31) C dX3_doesIn_71 (by decide) ?_
    refine j_irem C dX3_doesIn_73 (by decide) ?_
    obtain ⟨hv, hs⟩ := s2_inj h
    subst hv
    subst hs
    exact j_iret C e dX3_doesIn_74
  replace h := ie c11 h
  refine j_tableOut (tgt := 75) C dX3_doesIn_1 (by have q0 := ne_ti c1 (z := 1) (by decide); have q1 := ne_ti c5 (z := 2) (by decide); have q2 := ne_ti c6 (z := 3) (by decide); have q3 := ne_ti c10 (z := 4) (by decide); have q4 := ne_ti c11 (z := 5) (by decide); omega) (by decide) ?_
  refine j_iload_n C 1 dX3_doesIn_75 rfl ?_
  obtain ⟨hv, hs⟩ := s2_inj h
  subst hv
  subst hs
  exact j_iret C e dX3_doesIn_76
set_option maxRecDepth 10000 in
theorem c3_yardsCountIn (l : Launch) {α : WA}  {a1 : Int32} {a2 : Int32} {a3 : Int32} {σ σ' : M2} {v : Int32}  (h : F3_yardsCountIn a1 a2 a3 σ = some (v, σ')) : Ct l (ωC α) yX3_yardsCountIn cX3_yardsCountIn 3 (some FieldType.int) 1 [.int a1, .int a2, .int a3] σ (some (.int v)) σ' := by
  unfold F3_yardsCountIn at h
  refine Ct.of (own := "EveryoneWins$Kinds") (L := [(0, .int a1), (1, .int a2), (2, .int a3)]) (by decide +kernel) rfl rfl rfl (fun κ hl e C => ?_)
  show J (ωC α) κ 1 3 0 [(0, .int a1), (1, .int a2), (2, .int a3)] [] σ
  refine j_iload_n C 0 dX3_yardsCountIn_0 rfl ?_
  by_cases c1 : a1 = (3 : Int32)
  · replace h := it c1 h
    refine j_lookup (tgt := 28) (off := 27) C dX3_yardsCountIn_1 (by decide) (lk_eq c1 (by decide)) (by decide) ?_
    refine j_iload_n C 1 dX3_yardsCountIn_28 rfl ?_
    refine j_iload_n C 2 dX3_yardsCountIn_29 rfl ?_
    refine j_imul C dX3_yardsCountIn_30 ?_
    refine j_iconst (v := 2) C dX3_yardsCountIn_31 (by decide) ?_
    refine j_idiv C dX3_yardsCountIn_32 (by decide) ?_
    obtain ⟨hv, hs⟩ := s2_inj h
    subst hv
    subst hs
    exact j_iret C e dX3_yardsCountIn_33
  replace h := ie c1 h
  by_cases c2 : a1 = (4 : Int32)
  · replace h := it c2 h
    refine j_lookup (tgt := 34) (off := 33) C dX3_yardsCountIn_1 (by decide) (lk_eq c2 (by decide)) (by decide) ?_
    refine j_iload_n C 1 dX3_yardsCountIn_34 rfl ?_
    refine j_ineg C dX3_yardsCountIn_35 ?_
    obtain ⟨hv, hs⟩ := s2_inj h
    subst hv
    subst hs
    exact j_iret C e dX3_yardsCountIn_36
  replace h := ie c2 h
  refine j_lookup (tgt := 37) (off := 36) C dX3_yardsCountIn_1 (by decide) (by have q3 := ne_ti c1 (z := 3) (by decide); have q4 := ne_ti c2 (z := 4) (by decide); show (if (3 : Int) = Int32.toInt a1 then (27 : Int) else if (4 : Int) = Int32.toInt a1 then (33 : Int) else (36 : Int)) = 36; rw [if_neg (Ne.symm q3), if_neg (Ne.symm q4)]) (by decide) ?_
  refine j_iload_n C 1 dX3_yardsCountIn_37 rfl ?_
  obtain ⟨hv, hs⟩ := s2_inj h
  subst hv
  subst hs
  exact j_iret C e dX3_yardsCountIn_38
set_option maxRecDepth 10000 in
theorem c2_scoreOf (l : Launch) {α : WA}  {a1 : Int32} {a2 : Int32} {a3 : Int32} {σ σ' : M2} {v : Int32}  (h : F2_scoreOf a1 a2 a3 σ = some (v, σ')) : Ct l (ωC α) yX2_scoreOf cX2_scoreOf 7 (some FieldType.int) 3 [.ref (wad (ωC α) 41), .int a1, .int a2, .int a3] σ (some (.int v)) σ' := by
  unfold F2_scoreOf at h
  refine Ct.of (own := "EveryoneWins$Day") (L := [(0, .ref (wad (ωC α) 41)), (1, .int a1), (2, .int a2), (3, .int a3)]) (by decide +kernel) rfl rfl rfl (fun κ hl e C => ?_)
  show J (ωC α) κ 3 7 0 [(0, .ref (wad (ωC α) 41)), (1, .int a1), (2, .int a2), (3, .int a3)] [] σ
  refine j_aload_n C 0 dX2_scoreOf_0 rfl ?_
  refine j_getr (o := 41) (j := 1) C inT2 (ci := 2) rfl (by decide) (rfl) rfl rfl wd_255 dX2_scoreOf_1 (o' := 5) rfl ?_
  refine j_getr (o := 5) (j := 0) C inT5 (ci := 4) rfl (by decide) (rfl) rfl rfl wd_136 dX2_scoreOf_4 (o' := 6) rfl ?_
  refine j_iload_n C 2 dX2_scoreOf_7 rfl ?_
  obtain ⟨r1, s2, hc3, h⟩ := bnd_some h
  refine k_N (v := some (.int r1)) C sb_X11_at (c11_at _ hc3) rfl (by decide) wn_694 rfl dX2_scoreOf_8 ?_
  show J (ωC α) κ _ _ 11 _ [.int r1] s2
  refine j_istore (L' := [(4, .int r1), (0, .ref (wad (ωC α) 41)), (1, .int a1), (2, .int a2), (3, .int a3)]) C dX2_scoreOf_11 rfl rfl ?_
  refine j_aload_n C 1 dX2_scoreOf_13 rfl ?_
  refine j_getr (o := 41) (j := 1) C inT2 (ci := 2) rfl (by decide) (rfl) rfl rfl wd_255 dX2_scoreOf_14 (o' := 5) rfl ?_
  refine j_getr (o := 5) (j := 1) C inT5 (ci := 4) rfl (by decide) (rfl) rfl rfl wd_139 dX2_scoreOf_17 (o' := 7) rfl ?_
  refine j_iload_n C 3 dX2_scoreOf_20 rfl ?_
  obtain ⟨r4, s5, hc6, h⟩ := bnd_some h
  refine k_N (v := some (.int r4)) C sb_X11_at (c11_at _ hc6) rfl (by decide) wn_694 rfl dX2_scoreOf_21 ?_
  show J (ωC α) κ _ _ 24 _ [.int r4] s5
  refine j_istore (L' := [(5, .int r4), (4, .int r1), (0, .ref (wad (ωC α) 41)), (1, .int a1), (2, .int a2), (3, .int a3)]) C dX2_scoreOf_24 rfl rfl ?_
  refine j_bipush (v := 99) C dX2_scoreOf_26 (by decide) ?_
  refine j_iload_n C 5 dX2_scoreOf_28 rfl ?_
  refine j_aload_n C 2 dX2_scoreOf_29 rfl ?_
  refine j_getr (o := 41) (j := 0) C inT2 (ci := 2) rfl (by decide) (rfl) rfl rfl wd_254 dX2_scoreOf_30 (o' := 1) rfl ?_
  refine j_getr (o := 1) (j := 2) C inT1 (ci := 1) rfl (by decide) (rfl) rfl rfl wd_114 dX2_scoreOf_33 (o' := 4) rfl ?_
  refine j_iload_n C 3 dX2_scoreOf_36 rfl ?_
  obtain ⟨r7, s8, hc9, h⟩ := bnd_some h
  refine k_N (v := some (.int r7)) C sb_X11_at (c11_at _ hc9) rfl (by decide) wn_694 rfl dX2_scoreOf_37 ?_
  show J (ωC α) κ _ _ 40 _ [.int r7, .int a3, .int (99 : Int32)] s8
  refine j_iadd C dX2_scoreOf_40 ?_
  refine j_mmin C (by decide) rfl wd_778 wd_728 wd_90 wd_729 dX2_scoreOf_41 ?_
  refine j_istore (L' := [(6, .int (if (a3 + r7) < (99 : Int32) then (a3 + r7) else (99 : Int32))), (5, .int r4), (4, .int r1), (0, .ref (wad (ωC α) 41)), (1, .int a1), (2, .int a2), (3, .int a3)]) C dX2_scoreOf_44 rfl rfl ?_
  refine j_iload C 2 dX2_scoreOf_46 rfl ?_
  refine j_aload_n C 3 dX2_scoreOf_48 rfl ?_
  refine j_getr (o := 41) (j := 0) C inT2 (ci := 2) rfl (by decide) (rfl) rfl rfl wd_254 dX2_scoreOf_49 (o' := 1) rfl ?_
  refine j_getr (o := 1) (j := 0) C inT1 (ci := 1) rfl (by decide) (rfl) rfl rfl wd_108 dX2_scoreOf_52 (o' := 2) rfl ?_
  refine j_iload_n C 4 dX2_scoreOf_55 rfl ?_
  obtain ⟨r10, s11, hc12, h⟩ := bnd_some h
  refine k_N (v := some (.int r10)) C sb_X11_at (c11_at _ hc12) rfl (by decide) wn_694 rfl dX2_scoreOf_56 ?_
  show J (ωC α) κ _ _ 59 _ [.int r10, .int r1] s11
  refine j_aload_n C 3 dX2_scoreOf_59 rfl ?_
  refine j_getr (o := 41) (j := 0) C inT2 (ci := 2) rfl (by decide) (rfl) rfl rfl wd_254 dX2_scoreOf_60 (o' := 1) rfl ?_
  refine j_getr (o := 1) (j := 1) C inT1 (ci := 1) rfl (by decide) (rfl) rfl rfl wd_111 dX2_scoreOf_63 (o' := 3) rfl ?_
  refine j_iload_n C 4 dX2_scoreOf_66 rfl ?_
  obtain ⟨r13, s14, hc15, h⟩ := bnd_some h
  refine k_N (v := some (.int r13)) C sb_X11_at (c11_at _ hc15) rfl (by decide) wn_694 rfl dX2_scoreOf_67 ?_
  show J (ωC α) κ _ _ 70 _ [.int r13, .int r10, .int r1] s14
  refine j_iload C 1 dX2_scoreOf_70 rfl ?_
  obtain ⟨r16, s17, hc18, h⟩ := bnd_some h
  refine k_S (v := some (.int r16)) C sb_X3_doesIn (c3_doesIn _ hc18) rfl (by decide) wd_779 rfl dX2_scoreOf_72 ?_
  show J (ωC α) κ _ _ 75 _ [.int r16] s17
  refine j_iload C 2 dX2_scoreOf_75 rfl ?_
  refine j_iload C 0 dX2_scoreOf_77 rfl ?_
  refine j_iload C 1 dX2_scoreOf_79 rfl ?_
  obtain ⟨r19, s20, hc21, h⟩ := bnd_some h
  refine k_S (v := some (.int r19)) C sb_X3_yardsCountIn (c3_yardsCountIn _ hc21) rfl (by decide) wd_785 rfl dX2_scoreOf_81 ?_
  show J (ωC α) κ _ _ 84 _ [.int r19, .int r16] s20
  refine j_iadd C dX2_scoreOf_84 ?_
  obtain ⟨hv, hs⟩ := s2_inj h
  subst hv
  subst hs
  exact j_iret C e dX2_scoreOf_85
set_option maxRecDepth 10000 in
theorem b2_comesBehind_78 {α : WA} {κ : KT} {fu : Nat} {σ' : M2} {x2 : Int32} {x3 : Int32} {x4 : Int32} (C : Cx (ωC α) κ cX2_comesBehind 6 "EveryoneWins$Day" (none)) (e : κ.2.2.2.2.2.2.2.2.2 = (none, σ'))  {σ : M2} (h : F2_comesBehind_78 fu x2 x3 x4 σ = some ((), σ')) : J (ωC α) κ 2 6 78 [(0, .ref (wad (ωC α) 41)), (2, .int x2), (3, .int x3), (4, .int x4)] [] σ := by
  unfold F2_comesBehind_78 at h
  refine j_aload_n C 0 dX2_comesBehind_78 rfl ?_
  refine j_getr (o := 41) (j := 6) C inT2 (ci := 2) rfl (by decide) (rfl) rfl rfl wd_264 dX2_comesBehind_79 (o' := 45) rfl ?_
  refine j_iload C 3 dX2_comesBehind_82 rfl ?_
  refine j_iload_n C 2 dX2_comesBehind_84 rfl ?_
  obtain ⟨r1, s2, hc3, h⟩ := bnd_some h
  refine k_N (v := none) C sb_X11_set (c11_set _ hc3) rfl (by decide) wn_695 rfl dX2_comesBehind_85 ?_
  show J (ωC α) κ _ _ 88 _ [] s2
  refine j_aload_n C 0 dX2_comesBehind_88 rfl ?_
  refine j_getr (o := 41) (j := 4) C inT2 (ci := 2) rfl (by decide) (rfl) rfl rfl wd_260 dX2_comesBehind_89 (o' := 43) rfl ?_
  refine j_iload C 3 dX2_comesBehind_92 rfl ?_
  refine j_iload_n C 1 dX2_comesBehind_94 rfl ?_
  obtain ⟨r4, s5, hc6, h⟩ := bnd_some h
  refine k_N (v := none) C sb_X11_set (c11_set _ hc6) rfl (by decide) wn_695 rfl dX2_comesBehind_95 ?_
  show J (ωC α) κ _ _ 98 _ [] s5
  obtain ⟨-, hs⟩ := s2_inj h
  subst hs
  exact j_vret C e dX2_comesBehind_98
set_option maxRecDepth 10000 in
theorem b2_comesBehind_6 {α : WA} {κ : KT} {fu : Nat} {σ' : M2} {x2 : Int32} {x3 : Int32} {x4 : Int32} {x5 : Int32} (C : Cx (ωC α) κ cX2_comesBehind 6 "EveryoneWins$Day" (none)) (e : κ.2.2.2.2.2.2.2.2.2 = (none, σ'))  {σ : M2} (h : F2_comesBehind_6 fu x2 x3 x4 x5 σ = some ((), σ')) : J (ωC α) κ 2 6 6 [(0, .ref (wad (ωC α) 41)), (2, .int x2), (3, .int x3), (4, .int x4), (5, .int x5)] [] σ := by
  unfold F2_comesBehind_6 at h
  refine wl2_ind (fun x4 x5 σ => J (ωC α) κ 2 6 6 [(0, .ref (wad (ωC α) 41)), (2, .int x2), (3, .int x3), (4, .int x4), (5, .int x5)] [] σ) ?_ fu x4 x5 σ h
  intro k6 hk6 x4 x5 σ h
  try dsimp only at h
  show J (ωC α) κ 2 6 6 [(0, .ref (wad (ωC α) 41)), (2, .int x2), (3, .int x3), (4, .int x4), (5, .int x5)] [] σ
  refine j_iload C 4 dX2_comesBehind_6 rfl ?_
  refine j_if_le (tgt := 78) C dX2_comesBehind_8 (by decide) (fun c1 => ?_) (fun c1 => ?_)
  · replace h := it c1 h
    exact j_sub [0, 1, 2, 3] rfl (b2_comesBehind_78 C e h)
  · replace h := ie c1 h
    refine j_aload_n C 0 dX2_comesBehind_11 rfl ?_
    refine j_getr (o := 41) (j := 6) C inT2 (ci := 2) rfl (by decide) (rfl) rfl rfl wd_264 dX2_comesBehind_12 (o' := 45) rfl ?_
    refine j_iload C 4 dX2_comesBehind_15 rfl ?_
    refine j_iconst (v := 1) C dX2_comesBehind_17 (by decide) ?_
    refine j_isub C dX2_comesBehind_18 ?_
    obtain ⟨r2, s3, hc4, h⟩ := bnd_some h
    refine k_N (v := some (.int r2)) C sb_X11_at (c11_at _ hc4) rfl (by decide) wn_694 rfl dX2_comesBehind_19 ?_
    show J (ωC α) κ _ _ 22 _ [.int r2] s3
    refine j_iload_n C 2 dX2_comesBehind_22 rfl ?_
    refine j_icmp_ge (tgt := 78) C dX2_comesBehind_23 (by decide) (fun c5 => ?_) (fun c5 => ?_)
    · replace h := it c5 h
      exact j_sub [0, 1, 2, 3] rfl (b2_comesBehind_78 C e h)
    · replace h := ie c5 h
      refine j_aload_n C 0 dX2_comesBehind_26 rfl ?_
      refine j_getr (o := 41) (j := 6) C inT2 (ci := 2) rfl (by decide) (rfl) rfl rfl wd_264 dX2_comesBehind_27 (o' := 45) rfl ?_
      refine j_iload C 4 dX2_comesBehind_30 rfl ?_
      refine j_aload_n C 0 dX2_comesBehind_32 rfl ?_
      refine j_getr (o := 41) (j := 6) C inT2 (ci := 2) rfl (by decide) (rfl) rfl rfl wd_264 dX2_comesBehind_33 (o' := 45) rfl ?_
      refine j_iload C 4 dX2_comesBehind_36 rfl ?_
      refine j_iconst (v := 1) C dX2_comesBehind_38 (by decide) ?_
      refine j_isub C dX2_comesBehind_39 ?_
      obtain ⟨r6, s7, hc8, h⟩ := bnd_some h
      refine k_N (v := some (.int r6)) C sb_X11_at (c11_at _ hc8) rfl (by decide) wn_694 rfl dX2_comesBehind_40 ?_
      show J (ωC α) κ _ _ 43 _ [.int r6, .int x5, .ref (wad (ωC α) 45)] s7
      obtain ⟨r9, s10, hc11, h⟩ := bnd_some h
      refine k_N (v := none) C sb_X11_set (c11_set _ hc11) rfl (by decide) wn_695 rfl dX2_comesBehind_43 ?_
      show J (ωC α) κ _ _ 46 _ [] s10
      refine j_aload_n C 0 dX2_comesBehind_46 rfl ?_
      refine j_getr (o := 41) (j := 4) C inT2 (ci := 2) rfl (by decide) (rfl) rfl rfl wd_260 dX2_comesBehind_47 (o' := 43) rfl ?_
      refine j_iload C 4 dX2_comesBehind_50 rfl ?_
      refine j_aload_n C 0 dX2_comesBehind_52 rfl ?_
      refine j_getr (o := 41) (j := 4) C inT2 (ci := 2) rfl (by decide) (rfl) rfl rfl wd_260 dX2_comesBehind_53 (o' := 43) rfl ?_
      refine j_iload C 4 dX2_comesBehind_56 rfl ?_
      refine j_iconst (v := 1) C dX2_comesBehind_58 (by decide) ?_
      refine j_isub C dX2_comesBehind_59 ?_
      obtain ⟨r12, s13, hc14, h⟩ := bnd_some h
      refine k_N (v := some (.int r12)) C sb_X11_at (c11_at _ hc14) rfl (by decide) wn_694 rfl dX2_comesBehind_60 ?_
      show J (ωC α) κ _ _ 63 _ [.int r12, .int x5, .ref (wad (ωC α) 43)] s13
      obtain ⟨r15, s16, hc17, h⟩ := bnd_some h
      refine k_N (v := none) C sb_X11_set (c11_set _ hc17) rfl (by decide) wn_695 rfl dX2_comesBehind_63 ?_
      show J (ωC α) κ _ _ 66 _ [] s16
      refine j_iload C 4 dX2_comesBehind_66 rfl ?_
      refine j_iconst (v := 1) C dX2_comesBehind_68 (by decide) ?_
      refine j_isub C dX2_comesBehind_69 ?_
      refine j_istore (L' := [(4, .int (x5 - (1 : Int32))), (0, .ref (wad (ωC α) 41)), (2, .int x2), (3, .int x3), (5, .int x5)]) C dX2_comesBehind_70 rfl rfl ?_
      refine j_iinc (L' := [(5, .int (x5 + (-1))), (4, .int (x5 - (1 : Int32))), (0, .ref (wad (ωC α) 41)), (2, .int x2), (3, .int x3)]) C 4 dX2_comesBehind_72 rfl rfl rfl rfl ?_
      refine j_goto (tgt := 6) C dX2_comesBehind_75 (by decide) ?_
      exact j_sub [2, 3, 4, 1, 0] rfl (hk6 _ _ _ h)
set_option maxRecDepth 10000 in
theorem c2_comesBehind (l : Launch) {α : WA} {fu : Nat} {a1 : Int32} {a2 : Int32} {a3 : Int32} {σ σ' : M2}  (h : F2_comesBehind fu a1 a2 a3 σ = some ((), σ')) : Ct l (ωC α) yX2_comesBehind cX2_comesBehind 6 (none) 2 [.ref (wad (ωC α) 41), .int a1, .int a2, .int a3] σ (none) σ' := by
  unfold F2_comesBehind at h
  refine Ct.of (own := "EveryoneWins$Day") (L := [(0, .ref (wad (ωC α) 41)), (1, .int a1), (2, .int a2), (3, .int a3)]) (by decide +kernel) rfl rfl rfl (fun κ hl e C => ?_)
  show J (ωC α) κ 2 6 0 [(0, .ref (wad (ωC α) 41)), (1, .int a1), (2, .int a2), (3, .int a3)] [] σ
  refine j_iload_n C 1 dX2_comesBehind_0 rfl ?_
  refine j_istore (L' := [(4, .int a1), (0, .ref (wad (ωC α) 41)), (1, .int a1), (2, .int a2), (3, .int a3)]) C dX2_comesBehind_1 rfl rfl ?_
  refine j_iload_n C 2 dX2_comesBehind_3 rfl ?_
  refine j_istore (L' := [(5, .int a1), (4, .int a1), (0, .ref (wad (ωC α) 41)), (1, .int a1), (2, .int a2), (3, .int a3)]) C dX2_comesBehind_4 rfl rfl ?_
  exact j_sub [2, 4, 5, 1, 0] rfl (b2_comesBehind_6 C e h)
set_option maxRecDepth 10000 in
theorem b2_lineUp_72 {α : WA} {κ : KT} {fu : Nat} {v : Int32} {σ' : M2} {x1 : Int32} {x2 : Int32} {x3 : Int32} {x4 : Int32} (C : Cx (ωC α) κ cX2_lineUp 5 "EveryoneWins$Day" (some FieldType.int)) (e : κ.2.2.2.2.2.2.2.2.2 = (some (.int v), σ')) {k17 : Int32 → Int32 → M2 → Option (Int32 × M2)} (hk17 : ∀ (x3' : Int32) (x4' : Int32) (σ : M2), k17 x3' x4' σ = some (v, σ') → J (ωC α) κ 4 5 17 [(0, .ref (wad (ωC α) 41)), (1, .int x1), (2, .int x2), (3, .int x3'), (4, .int x4')] [] σ) {σ : M2} (h : F2_lineUp_72 fu k17 x1 x2 x3 x4 σ = some (v, σ')) : J (ωC α) κ 4 5 72 [(0, .ref (wad (ωC α) 41)), (1, .int x1), (2, .int x2), (3, .int x3), (4, .int x4)] [] σ := by
  unfold F2_lineUp_72 at h
  refine j_iinc (L' := [(4, .int (x4 + 1)), (0, .ref (wad (ωC α) 41)), (1, .int x1), (2, .int x2), (3, .int x3)]) C 4 dX2_lineUp_72 rfl rfl rfl rfl ?_
  refine j_goto (tgt := 17) C dX2_lineUp_75 (by decide) ?_
  exact j_sub [1, 2, 3, 4, 0] rfl (hk17 _ _ _ h)
set_option maxRecDepth 10000 in
theorem b2_lineUp_17 {α : WA} {κ : KT} {fu : Nat} {v : Int32} {σ' : M2} {x1 : Int32} {x2 : Int32} {x3 : Int32} {x4 : Int32} (C : Cx (ωC α) κ cX2_lineUp 5 "EveryoneWins$Day" (some FieldType.int)) (e : κ.2.2.2.2.2.2.2.2.2 = (some (.int v), σ'))  {σ : M2} (h : F2_lineUp_17 fu x1 x2 x3 x4 σ = some (v, σ')) : J (ωC α) κ 4 5 17 [(0, .ref (wad (ωC α) 41)), (1, .int x1), (2, .int x2), (3, .int x3), (4, .int x4)] [] σ := by
  unfold F2_lineUp_17 at h
  refine wl2_ind (fun x3 x4 σ => J (ωC α) κ 4 5 17 [(0, .ref (wad (ωC α) 41)), (1, .int x1), (2, .int x2), (3, .int x3), (4, .int x4)] [] σ) ?_ fu x3 x4 σ h
  intro k17 hk17 x3 x4 σ h
  try dsimp only at h
  show J (ωC α) κ 4 5 17 [(0, .ref (wad (ωC α) 41)), (1, .int x1), (2, .int x2), (3, .int x3), (4, .int x4)] [] σ
  refine j_iload C 4 dX2_lineUp_17 rfl ?_
  refine j_aload_n C 0 dX2_lineUp_19 rfl ?_
  refine j_getr (o := 41) (j := 0) C inT2 (ci := 2) rfl (by decide) (rfl) rfl rfl wd_254 dX2_lineUp_20 (o' := 1) rfl ?_
  refine j_geti (o := 1) (j := 3) C inT1 (ci := 1) rfl (by decide) (rfl) rfl rfl wd_118 dX2_lineUp_23 ?_
  refine j_icmp_ge (tgt := 78) C dX2_lineUp_26 (by decide) (fun c1 => ?_) (fun c1 => ?_)
  · replace h := it c1 h
    refine j_iload_n C 3 dX2_lineUp_78 rfl ?_
    obtain ⟨hv, hs⟩ := s2_inj h
    subst hv
    subst hs
    exact j_iret C e dX2_lineUp_79
  · replace h := ie c1 h
    refine j_iload_n C 2 dX2_lineUp_29 rfl ?_
    refine j_iload C 4 dX2_lineUp_30 rfl ?_
    obtain ⟨r2, s3, hc4, h⟩ := bnd_some h
    refine k_N (v := some (.int r2)) C sb_X11_has (c11_has _ hc4) rfl (by decide) wn_770 rfl dX2_lineUp_32 ?_
    show J (ωC α) κ _ _ 35 _ [.int r2] s3
    refine j_if_eq (tgt := 72) C dX2_lineUp_35 (by decide) (fun c5 => ?_) (fun c5 => ?_)
    · replace h := it c5 h
      exact (b2_lineUp_72 C e hk17 h)
    · replace h := ie c5 h
      refine j_aload_n C 0 dX2_lineUp_38 rfl ?_
      refine j_iload_n C 3 dX2_lineUp_39 rfl ?_
      refine j_iload C 4 dX2_lineUp_40 rfl ?_
      refine j_aload_n C 0 dX2_lineUp_42 rfl ?_
      refine j_iload C 4 dX2_lineUp_43 rfl ?_
      refine j_iload_n C 1 dX2_lineUp_45 rfl ?_
      refine j_aload_n C 0 dX2_lineUp_46 rfl ?_
      refine j_iconst (v := 0) C dX2_lineUp_47 (by decide) ?_
      refine j_iload C 4 dX2_lineUp_48 rfl ?_
      refine j_iload_n C 1 dX2_lineUp_50 rfl ?_
      refine j_aload_n C 0 dX2_lineUp_51 rfl ?_
      refine j_getr (o := 41) (j := 3) C inT2 (ci := 2) rfl (by decide) (rfl) rfl rfl wd_257 dX2_lineUp_52 (o' := 42) rfl ?_
      refine j_iload C 4 dX2_lineUp_55 rfl ?_
      obtain ⟨r6, s7, hc8, h⟩ := bnd_some h
      refine k_N16 (v := some (.int r6)) C sb_X11_at rfl (c11_at _ hc8) rfl (by decide) wn_694 rfl dX2_lineUp_57 ?_
      show J (ωC α) κ _ _ 60 _ [.int r6, .int x1, .int x4, .int (0 : Int32), .ref (wad (ωC α) 41), .int x1, .int x4, .ref (wad (ωC α) 41), .int x4, .int x3, .ref (wad (ωC α) 41)] s7
      obtain ⟨r9, s10, hc11, h⟩ := bnd_some h
      refine k_V (v := some (.int r9)) C vb_X2_says (ci := 2) (T := TX2) (N := 12) rfl (by decide) (c2_says _ hc11) rfl (by decide) wd_773 (rfl) rfl dX2_lineUp_60 ?_
      show J (ωC α) κ _ _ 63 _ [.int r9, .int x1, .int x4, .ref (wad (ωC α) 41), .int x4, .int x3, .ref (wad (ωC α) 41)] s10
      obtain ⟨r12, s13, hc14, h⟩ := bnd_some h
      refine k_V (v := some (.int r12)) C vb_X2_scoreOf (ci := 2) (T := TX2) (N := 12) rfl (by decide) (c2_scoreOf _ hc14) rfl (by decide) wd_774 (rfl) rfl dX2_lineUp_63 ?_
      show J (ωC α) κ _ _ 66 _ [.int r12, .int x4, .int x3, .ref (wad (ωC α) 41)] s13
      obtain ⟨r15, s16, hc17, h⟩ := bnd_some h
      refine k_V (v := none) C vb_X2_comesBehind (ci := 2) (T := TX2) (N := 12) rfl (by decide) (c2_comesBehind _ hc17) rfl (by decide) wd_788 (rfl) rfl dX2_lineUp_66 ?_
      show J (ωC α) κ _ _ 69 _ [] s16
      refine j_iinc (L' := [(3, .int (x3 + 1)), (0, .ref (wad (ωC α) 41)), (1, .int x1), (2, .int x2), (4, .int x4)]) C 3 dX2_lineUp_69 rfl rfl rfl rfl ?_
      exact j_sub [1, 2, 3, 0, 4] rfl (b2_lineUp_72 C e hk17 h)
set_option maxRecDepth 10000 in
theorem c2_lineUp (l : Launch) {α : WA} {fu : Nat} {a1 : Int32} {σ σ' : M2} {v : Int32}  (h : F2_lineUp fu a1 σ = some (v, σ')) : Ct l (ωC α) yX2_lineUp cX2_lineUp 5 (some FieldType.int) 4 [.ref (wad (ωC α) 41), .int a1] σ (some (.int v)) σ' := by
  unfold F2_lineUp at h
  refine Ct.of (own := "EveryoneWins$Day") (L := [(0, .ref (wad (ωC α) 41)), (1, .int a1)]) (by decide +kernel) rfl rfl rfl (fun κ hl e C => ?_)
  show J (ωC α) κ 4 5 0 [(0, .ref (wad (ωC α) 41)), (1, .int a1)] [] σ
  refine j_aload_n C 0 dX2_lineUp_0 rfl ?_
  refine j_getr (o := 41) (j := 1) C inT2 (ci := 2) rfl (by decide) (rfl) rfl rfl wd_255 dX2_lineUp_1 (o' := 5) rfl ?_
  refine j_getr (o := 5) (j := 2) C inT5 (ci := 4) rfl (by decide) (rfl) rfl rfl wd_142 dX2_lineUp_4 (o' := 8) rfl ?_
  refine j_iload_n C 1 dX2_lineUp_7 rfl ?_
  obtain ⟨r1, s2, hc3, h⟩ := bnd_some h
  refine k_N (v := some (.int r1)) C sb_X11_at (c11_at _ hc3) rfl (by decide) wn_694 rfl dX2_lineUp_8 ?_
  show J (ωC α) κ _ _ 11 _ [.int r1] s2
  refine j_istore_n (L' := [(2, .int r1), (0, .ref (wad (ωC α) 41)), (1, .int a1)]) C dX2_lineUp_11 rfl rfl rfl ?_
  refine j_iconst (v := 0) C dX2_lineUp_12 (by decide) ?_
  refine j_istore_n (L' := [(3, .int (0 : Int32)), (2, .int r1), (0, .ref (wad (ωC α) 41)), (1, .int a1)]) C dX2_lineUp_13 rfl rfl rfl ?_
  refine j_iconst (v := 0) C dX2_lineUp_14 (by decide) ?_
  refine j_istore (L' := [(4, .int (0 : Int32)), (3, .int (0 : Int32)), (2, .int r1), (0, .ref (wad (ωC α) 41)), (1, .int a1)]) C dX2_lineUp_15 rfl rfl ?_
  exact j_sub [3, 4, 2, 1, 0] rfl (b2_lineUp_17 C e h)
set_option maxRecDepth 10000 in
theorem b3_isOne_37 {α : WA} {κ : KT} {fu : Nat} {v : Int32} {σ' : M2} {x1 : Int32} {x3 : Int32} {y0 : Int32} (C : Cx (ωC α) κ cX3_isOne 4 "EveryoneWins$Kinds" (some FieldType.boolean)) (e : κ.2.2.2.2.2.2.2.2.2 = (some (.int v), σ')) {k4 : Int32 → Int32 → M2 → Option (Int32 × M2)} (hk4 : ∀ (x2' : Int32) (x3' : Int32) (σ : M2), k4 x2' x3' σ = some (v, σ') → J (ωC α) κ 1 4 4 [(1, .int x1), (2, .int x2'), (3, .int x3')] [] σ) {σ : M2} (h : F3_isOne_37 fu k4 x1 x3 y0 σ = some (v, σ')) : J (ωC α) κ 1 4 37 [(1, .int x1), (3, .int x3)] [.int y0] σ := by
  unfold F3_isOne_37 at h
  refine j_istore_n (L' := [(2, .int y0), (1, .int x1), (3, .int x3)]) C dX3_isOne_37 rfl rfl rfl ?_
  refine j_iinc (L' := [(3, .int (x3 + 1)), (2, .int y0), (1, .int x1)]) C 2 dX3_isOne_38 rfl rfl rfl rfl ?_
  refine j_goto (tgt := 4) C dX3_isOne_41 (by decide) ?_
  exact j_sub [2, 1, 0] rfl (hk4 _ _ _ h)
set_option maxRecDepth 10000 in
theorem b3_isOne_4 {α : WA} {κ : KT} {fu : Nat} {v : Int32} {σ' : M2} {x1 : Int32} {x2 : Int32} {x3 : Int32} (C : Cx (ωC α) κ cX3_isOne 4 "EveryoneWins$Kinds" (some FieldType.boolean)) (e : κ.2.2.2.2.2.2.2.2.2 = (some (.int v), σ'))  {σ : M2} (h : F3_isOne_4 fu x1 x2 x3 σ = some (v, σ')) : J (ωC α) κ 1 4 4 [(1, .int x1), (2, .int x2), (3, .int x3)] [] σ := by
  unfold F3_isOne_4 at h
  refine wl2_ind (fun x2 x3 σ => J (ωC α) κ 1 4 4 [(1, .int x1), (2, .int x2), (3, .int x3)] [] σ) ?_ fu x2 x3 σ h
  intro k4 hk4 x2 x3 σ h
  try dsimp only at h
  show J (ωC α) κ 1 4 4 [(1, .int x1), (2, .int x2), (3, .int x3)] [] σ
  refine j_iload_n C 2 dX3_isOne_4 rfl ?_
  refine j_iconst (v := 5) C dX3_isOne_5 (by decide) ?_
  refine j_icmp_gt (tgt := 44) C dX3_isOne_6 (by decide) (fun c1 => ?_) (fun c1 => ?_)
  · replace h := it c1 h
    refine j_iconst (v := 0) C dX3_isOne_44 (by decide) ?_
    obtain ⟨hv, hs⟩ := s2_inj h
    subst hv
    subst hs
    exact j_zret C e rfl dX3_isOne_45
  · replace h := ie c1 h
    refine j_iload_n C 1 dX3_isOne_9 rfl ?_
    refine j_if_lt (tgt := 44) C dX3_isOne_10 (by decide) (fun c2 => ?_) (fun c2 => ?_)
    · replace h := it c2 h
      refine j_iconst (v := 0) C dX3_isOne_44 (by decide) ?_
      obtain ⟨hv, hs⟩ := s2_inj h
      subst hv
      subst hs
      exact j_zret C e rfl dX3_isOne_45
    · replace h := ie c2 h
      refine j_iload_n C 1 dX3_isOne_13 rfl ?_
      refine j_iload_n C 0 dX3_isOne_14 rfl ?_
      refine j_icmp_ne (tgt := 20) C dX3_isOne_15 (by decide) (fun c3 => ?_) (fun c3 => ?_)
      · replace h := ie c3 h
        refine j_iload_n C 1 dX3_isOne_20 rfl ?_
        refine j_getsA C wd_821 dX3_isOne_21 ?_
        refine j_tlen C dX3_isOne_24 ?_
        refine j_icmp_ge (tgt := 36) C dX3_isOne_25 (by decide) (fun c4 => ?_) (fun c4 => ?_)
        · replace h := it c4 h
          refine j_iconst (v := -1) C dX3_isOne_36 (by decide) ?_
          exact j_sub [0, 2] rfl (b3_isOne_37 C e hk4 h)
        · replace h := ie c4 h
          refine j_getsA C wd_821 dX3_isOne_28 ?_
          refine j_iload_n C 1 dX3_isOne_31 rfl ?_
          obtain ⟨g5, h⟩ := gd_some h
          refine j_tald C (inb_in g5) dX3_isOne_32 ?_
          refine j_goto (tgt := 37) C dX3_isOne_33 (by decide) ?_
          exact j_sub [0, 2] rfl (b3_isOne_37 C e hk4 h)
      · replace h := it c3 h
        refine j_iconst (v := 1) C dX3_isOne_18 (by decide) ?_
        obtain ⟨hv, hs⟩ := s2_inj h
        subst hv
        subst hs
        exact j_zret C e rfl dX3_isOne_19
set_option maxRecDepth 10000 in
theorem c3_isOne (l : Launch) {α : WA} {fu : Nat} {a1 : Int32} {a2 : Int32} {σ σ' : M2} {v : Int32}  (h : F3_isOne fu a1 a2 σ = some (v, σ')) : Ct l (ωC α) yX3_isOne cX3_isOne 4 (some FieldType.boolean) 1 [.int a1, .int a2] σ (some (.int v)) σ' := by
  unfold F3_isOne at h
  refine Ct.of (own := "EveryoneWins$Kinds") (L := [(0, .int a1), (1, .int a2)]) (by decide +kernel) rfl rfl rfl (fun κ hl e C => ?_)
  show J (ωC α) κ 1 4 0 [(0, .int a1), (1, .int a2)] [] σ
  refine j_iload_n C 0 dX3_isOne_0 rfl ?_
  refine j_istore_n (L' := [(2, .int a1), (0, .int a1), (1, .int a2)]) C dX3_isOne_1 rfl rfl rfl ?_
  refine j_iconst (v := 0) C dX3_isOne_2 (by decide) ?_
  refine j_istore_n (L' := [(3, .int (0 : Int32)), (2, .int a1), (0, .int a1), (1, .int a2)]) C dX3_isOne_3 rfl rfl rfl ?_
  exact j_sub [3, 1, 0] rfl (b3_isOne_4 C e h)
set_option maxRecDepth 10000 in
theorem b3_ribbonsIn_15 {α : WA} {κ : KT} {fu : Nat} {v : Int32} {σ' : M2} {x0 : Int32} {x1 : Int32} {x2 : Int32} (C : Cx (ωC α) κ cX3_ribbonsIn 3 "EveryoneWins$Kinds" (some FieldType.int)) (e : κ.2.2.2.2.2.2.2.2.2 = (some (.int v), σ'))  {σ : M2} (h : F3_ribbonsIn_15 fu x0 x1 x2 σ = some (v, σ')) : J (ωC α) κ 2 3 15 [(0, .int x0), (1, .int x1), (2, .int x2)] [] σ := by
  unfold F3_ribbonsIn_15 at h
  refine j_iload_n C 0 dX3_ribbonsIn_15 rfl ?_
  refine j_iconst (v := 5) C dX3_ribbonsIn_16 (by decide) ?_
  refine j_icmp_ne (tgt := 26) C dX3_ribbonsIn_17 (by decide) (fun c1 => ?_) (fun c1 => ?_)
  · replace h := ie c1 h
    refine j_iload_n C 1 dX3_ribbonsIn_26 rfl ?_
    obtain ⟨hv, hs⟩ := s2_inj h
    subst hv
    subst hs
    exact j_iret C e dX3_ribbonsIn_27
  · replace h := it c1 h
    refine j_iload_n C 2 dX3_ribbonsIn_20 rfl ?_
    refine j_iconst (v := 2) C dX3_ribbonsIn_21 (by decide) ?_
    refine j_idiv C dX3_ribbonsIn_22 (by decide) ?_
    refine j_goto (tgt := 27) C dX3_ribbonsIn_23 (by decide) ?_
    obtain ⟨hv, hs⟩ := s2_inj h
    subst hv
    subst hs
    exact j_iret C e dX3_ribbonsIn_27
set_option maxRecDepth 10000 in
theorem c3_ribbonsIn (l : Launch) {α : WA} {fu : Nat} {a1 : Int32} {a2 : Int32} {a3 : Int32} {σ σ' : M2} {v : Int32}  (h : F3_ribbonsIn fu a1 a2 a3 σ = some (v, σ')) : Ct l (ωC α) yX3_ribbonsIn cX3_ribbonsIn 3 (some FieldType.int) 2 [.int a1, .int a2, .int a3] σ (some (.int v)) σ' := by
  unfold F3_ribbonsIn at h
  refine Ct.of (own := "EveryoneWins$Kinds") (L := [(0, .int a1), (1, .int a2), (2, .int a3)]) (by decide +kernel) rfl rfl rfl (fun κ hl e C => ?_)
  show J (ωC α) κ 2 3 0 [(0, .int a1), (1, .int a2), (2, .int a3)] [] σ
  refine j_iload_n C 0 dX3_ribbonsIn_0 rfl ?_
  refine j_iconst (v := 2) C dX3_ribbonsIn_1 (by decide) ?_
  obtain ⟨r1, s2, hc3, h⟩ := bnd_some h
  refine k_S (v := some (.int r1)) C sb_X3_isOne (c3_isOne _ hc3) rfl (by decide) wd_818 rfl dX3_ribbonsIn_2 ?_
  show J (ωC α) κ _ _ 5 _ [.int r1] s2
  refine j_if_eq (tgt := 15) C dX3_ribbonsIn_5 (by decide) (fun c4 => ?_) (fun c4 => ?_)
  · replace h := it c4 h
    exact (b3_ribbonsIn_15 C e h)
  · replace h := ie c4 h
    refine j_iload_n C 2 dX3_ribbonsIn_8 rfl ?_
    refine j_iconst (v := 3) C dX3_ribbonsIn_9 (by decide) ?_
    refine j_icmp_ge (tgt := 15) C dX3_ribbonsIn_10 (by decide) (fun c5 => ?_) (fun c5 => ?_)
    · replace h := it c5 h
      exact (b3_ribbonsIn_15 C e h)
    · replace h := ie c5 h
      refine j_iconst (v := 1) C dX3_ribbonsIn_13 (by decide) ?_
      obtain ⟨hv, hs⟩ := s2_inj h
      subst hv
      subst hs
      exact j_iret C e dX3_ribbonsIn_14
set_option maxRecDepth 10000 in
theorem b2_giveRibbons_37 {α : WA} {κ : KT} {fu : Nat} {σ' : M2} {x1 : Int32} {x3 : Int32} {x4 : Int32} {x5 : Int32} (C : Cx (ωC α) κ cX2_giveRibbons 8 "EveryoneWins$Day" (none)) (e : κ.2.2.2.2.2.2.2.2.2 = (none, σ'))  {σ : M2} (h : F2_giveRibbons_37 fu x1 x3 x4 x5 σ = some ((), σ')) : J (ωC α) κ 4 8 37 [(0, .ref (wad (ωC α) 41)), (1, .int x1), (3, .int x3), (4, .int x4), (5, .int x5)] [] σ := by
  unfold F2_giveRibbons_37 at h
  refine wl2_ind (fun x4 x5 σ => J (ωC α) κ 4 8 37 [(0, .ref (wad (ωC α) 41)), (1, .int x1), (3, .int x3), (4, .int x4), (5, .int x5)] [] σ) ?_ fu x4 x5 σ h
  intro k37 hk37 x4 x5 σ h
  try dsimp only at h
  show J (ωC α) κ 4 8 37 [(0, .ref (wad (ωC α) 41)), (1, .int x1), (3, .int x3), (4, .int x4), (5, .int x5)] [] σ
  refine j_iload C 4 dX2_giveRibbons_37 rfl ?_
  refine j_iload_n C 2 dX2_giveRibbons_39 rfl ?_
  refine j_icmp_ge (tgt := 122) C dX2_giveRibbons_40 (by decide) (fun c1 => ?_) (fun c1 => ?_)
  · replace h := it c1 h
    refine j_aload_n C 0 dX2_giveRibbons_122 rfl ?_
    refine j_getr (o := 41) (j := 5) C inT2 (ci := 2) rfl (by decide) (rfl) rfl rfl wd_262 dX2_giveRibbons_123 (o' := 44) rfl ?_
    refine j_iload_n C 1 dX2_giveRibbons_126 rfl ?_
    refine j_iload C 3 dX2_giveRibbons_127 rfl ?_
    obtain ⟨r2, s3, hc4, h⟩ := bnd_some h
    refine k_N (v := none) C sb_X11_set (c11_set _ hc4) rfl (by decide) wn_695 rfl dX2_giveRibbons_129 ?_
    show J (ωC α) κ _ _ 132 _ [] s3
    obtain ⟨-, hs⟩ := s2_inj h
    subst hs
    exact j_vret C e dX2_giveRibbons_132
  · replace h := ie c1 h
    refine j_aload_n C 0 dX2_giveRibbons_43 rfl ?_
    refine j_getr (o := 41) (j := 4) C inT2 (ci := 2) rfl (by decide) (rfl) rfl rfl wd_260 dX2_giveRibbons_44 (o' := 43) rfl ?_
    refine j_iload C 4 dX2_giveRibbons_47 rfl ?_
    obtain ⟨r5, s6, hc7, h⟩ := bnd_some h
    refine k_N (v := some (.int r5)) C sb_X11_at (c11_at _ hc7) rfl (by decide) wn_694 rfl dX2_giveRibbons_49 ?_
    show J (ωC α) κ _ _ 52 _ [.int r5] s6
    refine j_istore (L' := [(6, .int r5), (0, .ref (wad (ωC α) 41)), (1, .int x1), (3, .int x3), (4, .int x4), (5, .int x5)]) C dX2_giveRibbons_52 rfl rfl ?_
    refine j_aload_n C 1 dX2_giveRibbons_54 rfl ?_
    refine j_getr (o := 41) (j := 3) C inT2 (ci := 2) rfl (by decide) (rfl) rfl rfl wd_257 dX2_giveRibbons_55 (o' := 42) rfl ?_
    refine j_iload C 0 dX2_giveRibbons_58 rfl ?_
    obtain ⟨r8, s9, hc10, h⟩ := bnd_some h
    refine k_N (v := some (.int r8)) C sb_X11_at (c11_at _ hc10) rfl (by decide) wn_694 rfl dX2_giveRibbons_60 ?_
    show J (ωC α) κ _ _ 63 _ [.int r8] s9
    refine j_istore (L' := [(7, .int r8), (6, .int r5), (0, .ref (wad (ωC α) 41)), (1, .int x1), (3, .int x3), (4, .int x4), (5, .int x5)]) C dX2_giveRibbons_63 rfl rfl ?_
    refine j_aload_n C 2 dX2_giveRibbons_65 rfl ?_
    refine j_dup C dX2_giveRibbons_66 rfl ?_
    refine j_geti (o := 41) (j := 8) C inT2 (ci := 2) rfl (by decide) (rfl) rfl rfl wd_268 dX2_giveRibbons_67 ?_
    refine j_aload_n C 2 dX2_giveRibbons_70 rfl ?_
    refine j_iconst (v := 1) C dX2_giveRibbons_71 (by decide) ?_
    refine j_iload C 1 dX2_giveRibbons_72 rfl ?_
    refine j_iload_n C 3 dX2_giveRibbons_74 rfl ?_
    refine j_iload C 0 dX2_giveRibbons_75 rfl ?_
    obtain ⟨r11, s12, hc13, h⟩ := bnd_some h
    refine k_V (v := some (.int r11)) C vb_X2_says (ci := 2) (T := TX2) (N := 12) rfl (by decide) (c2_says _ hc13) rfl (by decide) wd_773 (rfl) rfl dX2_giveRibbons_77 ?_
    show J (ωC α) κ _ _ 80 _ [.int r11, .int (s9 41 8), .ref (wad (ωC α) 41)] s12
    refine j_iadd C dX2_giveRibbons_80 ?_
    refine j_puti (o := 41) (j := 8) C inT2 tyX2_ok nmX2 (ci := 2) rfl (by decide) (rfl) rfl rfl rfl (tyX2_ok 8 (by decide)) rfl rfl wd_268 dX2_giveRibbons_81 ?_
    refine j_aload_n C 2 dX2_giveRibbons_84 rfl ?_
    refine j_getr (o := 41) (j := 3) C inT2 (ci := 2) rfl (by decide) (rfl) rfl rfl wd_257 dX2_giveRibbons_85 (o' := 42) rfl ?_
    refine j_iload C 1 dX2_giveRibbons_88 rfl ?_
    refine j_iload C 0 dX2_giveRibbons_90 rfl ?_
    refine j_iconst (v := 1) C dX2_giveRibbons_92 (by decide) ?_
    refine j_iadd C dX2_giveRibbons_93 ?_
    obtain ⟨r14, s15, hc16, h⟩ := bnd_some h
    refine k_N (v := none) C sb_X11_set (c11_set _ hc16) rfl (by decide) wn_695 rfl dX2_giveRibbons_94 ?_
    show J (ωC α) κ _ _ 97 _ [] s15
    refine j_iload C 5 dX2_giveRibbons_97 rfl ?_
    refine j_iconst (v := 1) C dX2_giveRibbons_99 (by decide) ?_
    refine j_iload C 1 dX2_giveRibbons_100 rfl ?_
    refine j_ishl C dX2_giveRibbons_102 ?_
    refine j_ior C dX2_giveRibbons_103 ?_
    refine j_istore (L' := [(4, .int (x4 ||| ((1 : Int32) <<< (r5 &&& 31)))), (7, .int r8), (6, .int r5), (0, .ref (wad (ωC α) 41)), (1, .int x1), (3, .int x3), (5, .int x5)]) C dX2_giveRibbons_104 rfl rfl ?_
    refine j_aload_n C 3 dX2_giveRibbons_106 rfl ?_
    refine j_dup C dX2_giveRibbons_107 rfl ?_
    refine j_geti (o := 41) (j := 9) C inT2 (ci := 2) rfl (by decide) (rfl) rfl rfl wd_270 dX2_giveRibbons_108 ?_
    refine j_iconst (v := 1) C dX2_giveRibbons_111 (by decide) ?_
    refine j_iadd C dX2_giveRibbons_112 ?_
    refine j_puti (o := 41) (j := 9) C inT2 tyX2_ok nmX2 (ci := 2) rfl (by decide) (rfl) rfl rfl rfl (tyX2_ok 9 (by decide)) rfl rfl wd_270 dX2_giveRibbons_113 ?_
    refine j_iinc (L' := [(5, .int (x5 + 1)), (4, .int (x4 ||| ((1 : Int32) <<< (r5 &&& 31)))), (7, .int r8), (6, .int r5), (0, .ref (wad (ωC α) 41)), (1, .int x1), (3, .int x3)]) C 6 dX2_giveRibbons_116 rfl rfl rfl rfl ?_
    refine j_goto (tgt := 37) C dX2_giveRibbons_119 (by decide) ?_
    exact j_sub [4, 5, 6, 1, 0] rfl (hk37 _ _ _ h)
set_option maxRecDepth 10000 in
theorem c2_giveRibbons (l : Launch) {α : WA} {fu : Nat} {a1 : Int32} {a2 : Int32} {σ σ' : M2}  (h : F2_giveRibbons fu a1 a2 σ = some ((), σ')) : Ct l (ωC α) yX2_giveRibbons cX2_giveRibbons 8 (none) 4 [.ref (wad (ωC α) 41), .int a1, .int a2] σ (none) σ' := by
  unfold F2_giveRibbons at h
  refine Ct.of (own := "EveryoneWins$Day") (L := [(0, .ref (wad (ωC α) 41)), (1, .int a1), (2, .int a2)]) (by decide +kernel) rfl rfl rfl (fun κ hl e C => ?_)
  show J (ωC α) κ 4 8 0 [(0, .ref (wad (ωC α) 41)), (1, .int a1), (2, .int a2)] [] σ
  refine j_iload_n C 2 dX2_giveRibbons_0 rfl ?_
  refine j_aload_n C 0 dX2_giveRibbons_1 rfl ?_
  refine j_getr (o := 41) (j := 1) C inT2 (ci := 2) rfl (by decide) (rfl) rfl rfl wd_255 dX2_giveRibbons_2 (o' := 5) rfl ?_
  refine j_getr (o := 5) (j := 0) C inT5 (ci := 4) rfl (by decide) (rfl) rfl rfl wd_136 dX2_giveRibbons_5 (o' := 6) rfl ?_
  refine j_iload_n C 1 dX2_giveRibbons_8 rfl ?_
  obtain ⟨r1, s2, hc3, h⟩ := bnd_some h
  refine k_N (v := some (.int r1)) C sb_X11_at (c11_at _ hc3) rfl (by decide) wn_694 rfl dX2_giveRibbons_9 ?_
  show J (ωC α) κ _ _ 12 _ [.int r1, .int a2] s2
  refine j_aload_n C 0 dX2_giveRibbons_12 rfl ?_
  refine j_getr (o := 41) (j := 1) C inT2 (ci := 2) rfl (by decide) (rfl) rfl rfl wd_255 dX2_giveRibbons_13 (o' := 5) rfl ?_
  refine j_getr (o := 5) (j := 3) C inT5 (ci := 4) rfl (by decide) (rfl) rfl rfl wd_145 dX2_giveRibbons_16 (o' := 9) rfl ?_
  refine j_iload_n C 1 dX2_giveRibbons_19 rfl ?_
  obtain ⟨r4, s5, hc6, h⟩ := bnd_some h
  refine k_N (v := some (.int r4)) C sb_X11_at (c11_at _ hc6) rfl (by decide) wn_694 rfl dX2_giveRibbons_20 ?_
  show J (ωC α) κ _ _ 23 _ [.int r4, .int r1, .int a2] s5
  refine j_iload_n C 2 dX2_giveRibbons_23 rfl ?_
  obtain ⟨r7, s8, hc9, h⟩ := bnd_some h
  refine k_S (v := some (.int r7)) C sb_X3_ribbonsIn (c3_ribbonsIn _ hc9) rfl (by decide) wd_815 rfl dX2_giveRibbons_24 ?_
  show J (ωC α) κ _ _ 27 _ [.int r7, .int a2] s8
  refine j_mmin C (by decide) rfl wd_778 wd_728 wd_90 wd_729 dX2_giveRibbons_27 ?_
  refine j_istore_n (L' := [(3, .int (if r7 < a2 then r7 else a2)), (0, .ref (wad (ωC α) 41)), (1, .int a1), (2, .int a2)]) C dX2_giveRibbons_30 rfl rfl rfl ?_
  refine j_iconst (v := 0) C dX2_giveRibbons_31 (by decide) ?_
  refine j_istore (L' := [(4, .int (0 : Int32)), (3, .int (if r7 < a2 then r7 else a2)), (0, .ref (wad (ωC α) 41)), (1, .int a1), (2, .int a2)]) C dX2_giveRibbons_32 rfl rfl ?_
  refine j_iconst (v := 0) C dX2_giveRibbons_34 (by decide) ?_
  refine j_istore (L' := [(5, .int (0 : Int32)), (4, .int (0 : Int32)), (3, .int (if r7 < a2 then r7 else a2)), (0, .ref (wad (ωC α) 41)), (1, .int a1), (2, .int a2)]) C dX2_giveRibbons_35 rfl rfl ?_
  exact j_sub [3, 4, 2, 1, 0] rfl (b2_giveRibbons_37 C e h)
set_option maxRecDepth 10000 in
theorem b2_end_73 {α : WA} {κ : KT} {fu : Nat} {σ' : M2} {x1 : Int32} (C : Cx (ωC α) κ cX2_end 2 "EveryoneWins$Day" (none)) (e : κ.2.2.2.2.2.2.2.2.2 = (none, σ')) {k12 : Int32 → M2 → Option (Unit × M2)} (hk12 : ∀ (x1' : Int32) (σ : M2), k12 x1' σ = some ((), σ') → J (ωC α) κ 4 2 12 [(0, .ref (wad (ωC α) 41)), (1, .int x1')] [] σ) {σ : M2} (h : F2_end_73 fu k12 x1 σ = some ((), σ')) : J (ωC α) κ 4 2 73 [(0, .ref (wad (ωC α) 41)), (1, .int x1)] [] σ := by
  unfold F2_end_73 at h
  refine j_iinc (L' := [(1, .int (x1 + 1)), (0, .ref (wad (ωC α) 41))]) C 1 dX2_end_73 rfl rfl rfl rfl ?_
  refine j_goto (tgt := 12) C dX2_end_76 (by decide) ?_
  exact j_sub [1, 0] rfl (hk12 _ _ h)
set_option maxRecDepth 10000 in
theorem b2_end_12 {α : WA} {κ : KT} {fu : Nat} {σ' : M2} {x1 : Int32} (C : Cx (ωC α) κ cX2_end 2 "EveryoneWins$Day" (none)) (e : κ.2.2.2.2.2.2.2.2.2 = (none, σ'))  {σ : M2} (h : F2_end_12 fu x1 σ = some ((), σ')) : J (ωC α) κ 4 2 12 [(0, .ref (wad (ωC α) 41)), (1, .int x1)] [] σ := by
  unfold F2_end_12 at h
  refine wl1_ind (fun x1 σ => J (ωC α) κ 4 2 12 [(0, .ref (wad (ωC α) 41)), (1, .int x1)] [] σ) ?_ fu x1 σ h
  intro k12 hk12 x1 σ h
  try dsimp only at h
  show J (ωC α) κ 4 2 12 [(0, .ref (wad (ωC α) 41)), (1, .int x1)] [] σ
  refine j_iload_n C 1 dX2_end_12 rfl ?_
  refine j_aload_n C 0 dX2_end_13 rfl ?_
  refine j_getr (o := 41) (j := 0) C inT2 (ci := 2) rfl (by decide) (rfl) rfl rfl wd_254 dX2_end_14 (o' := 1) rfl ?_
  refine j_geti (o := 1) (j := 3) C inT1 (ci := 1) rfl (by decide) (rfl) rfl rfl wd_118 dX2_end_17 ?_
  refine j_icmp_ge (tgt := 79) C dX2_end_20 (by decide) (fun c1 => ?_) (fun c1 => ?_)
  · replace h := it c1 h
    obtain ⟨-, hs⟩ := s2_inj h
    subst hs
    exact j_vret C e dX2_end_79
  · replace h := ie c1 h
    refine j_aload_n C 0 dX2_end_23 rfl ?_
    refine j_getr (o := 41) (j := 3) C inT2 (ci := 2) rfl (by decide) (rfl) rfl rfl wd_257 dX2_end_24 (o' := 42) rfl ?_
    refine j_iload_n C 1 dX2_end_27 rfl ?_
    obtain ⟨r2, s3, hc4, h⟩ := bnd_some h
    refine k_N (v := some (.int r2)) C sb_X11_at (c11_at _ hc4) rfl (by decide) wn_694 rfl dX2_end_28 ?_
    show J (ωC α) κ _ _ 31 _ [.int r2] s3
    refine j_if_ne (tgt := 73) C dX2_end_31 (by decide) (fun c5 => ?_) (fun c5 => ?_)
    · replace h := ie c5 h
      exact (b2_end_73 C e hk12 h)
    · replace h := it c5 h
      refine j_aload_n C 0 dX2_end_34 rfl ?_
      refine j_dup C dX2_end_35 rfl ?_
      refine j_geti (o := 41) (j := 8) C inT2 (ci := 2) rfl (by decide) (rfl) rfl rfl wd_268 dX2_end_36 ?_
      refine j_aload_n C 0 dX2_end_39 rfl ?_
      refine j_iconst (v := 2) C dX2_end_40 (by decide) ?_
      refine j_iload_n C 1 dX2_end_41 rfl ?_
      refine j_iconst (v := -1) C dX2_end_42 (by decide) ?_
      refine j_iconst (v := 0) C dX2_end_43 (by decide) ?_
      obtain ⟨r6, s7, hc8, h⟩ := bnd_some h
      refine k_V (v := some (.int r6)) C vb_X2_says (ci := 2) (T := TX2) (N := 12) rfl (by decide) (c2_says _ hc8) rfl (by decide) wd_773 (rfl) rfl dX2_end_44 ?_
      show J (ωC α) κ _ _ 47 _ [.int r6, .int (s3 41 8), .ref (wad (ωC α) 41)] s7
      refine j_iadd C dX2_end_47 ?_
      refine j_puti (o := 41) (j := 8) C inT2 tyX2_ok nmX2 (ci := 2) rfl (by decide) (rfl) rfl rfl rfl (tyX2_ok 8 (by decide)) rfl rfl wd_268 dX2_end_48 ?_
      refine j_aload_n C 0 dX2_end_51 rfl ?_
      refine j_dup C dX2_end_52 rfl ?_
      refine j_geti (o := 41) (j := 10) C inT2 (ci := 2) rfl (by decide) (rfl) rfl rfl wd_273 dX2_end_53 ?_
      refine j_iconst (v := 1) C dX2_end_56 (by decide) ?_
      refine j_iadd C dX2_end_57 ?_
      refine j_puti (o := 41) (j := 10) C inT2 tyX2_ok nmX2 (ci := 2) rfl (by decide) (rfl) rfl rfl rfl (tyX2_ok 10 (by decide)) rfl rfl wd_273 dX2_end_58 ?_
      refine j_aload_n C 0 dX2_end_61 rfl ?_
      refine j_dup C dX2_end_62 rfl ?_
      refine j_geti (o := 41) (j := 11) C inT2 (ci := 2) rfl (by decide) (rfl) rfl rfl wd_275 dX2_end_63 ?_
      refine j_iconst (v := 1) C dX2_end_66 (by decide) ?_
      refine j_iload_n C 1 dX2_end_67 rfl ?_
      refine j_ishl C dX2_end_68 ?_
      refine j_ior C dX2_end_69 ?_
      refine j_puti (o := 41) (j := 11) C inT2 tyX2_ok nmX2 (ci := 2) rfl (by decide) (rfl) rfl rfl rfl (tyX2_ok 11 (by decide)) rfl rfl wd_275 dX2_end_70 ?_
      exact (b2_end_73 C e hk12 h)
set_option maxRecDepth 10000 in
theorem c2_end (l : Launch) {α : WA} {fu : Nat}  {σ σ' : M2}  (h : F2_end fu σ = some ((), σ')) : Ct l (ωC α) yX2_end cX2_end 2 (none) 4 [.ref (wad (ωC α) 41)] σ (none) σ' := by
  unfold F2_end at h
  refine Ct.of (own := "EveryoneWins$Day") (L := [(0, .ref (wad (ωC α) 41))]) (by decide +kernel) rfl rfl rfl (fun κ hl e C => ?_)
  show J (ωC α) κ 4 2 0 [(0, .ref (wad (ωC α) 41))] [] σ
  refine j_aload_n C 0 dX2_end_0 rfl ?_
  refine j_iconst (v := 0) C dX2_end_1 (by decide) ?_
  refine j_puti (o := 41) (j := 10) C inT2 tyX2_ok nmX2 (ci := 2) rfl (by decide) (rfl) rfl rfl rfl (tyX2_ok 10 (by decide)) rfl rfl wd_273 dX2_end_2 ?_
  refine j_aload_n C 0 dX2_end_5 rfl ?_
  refine j_iconst (v := 0) C dX2_end_6 (by decide) ?_
  refine j_puti (o := 41) (j := 11) C inT2 tyX2_ok nmX2 (ci := 2) rfl (by decide) (rfl) rfl rfl rfl (tyX2_ok 11 (by decide)) rfl rfl wd_275 dX2_end_7 ?_
  refine j_iconst (v := 0) C dX2_end_10 (by decide) ?_
  refine j_istore_n (L' := [(1, .int (0 : Int32)), (0, .ref (wad (ωC α) 41))]) C dX2_end_11 rfl rfl rfl ?_
  exact j_sub [1, 0] rfl (b2_end_12 C e h)
set_option maxRecDepth 10000 in
theorem b2_runWithout_32 {α : WA} {κ : KT} {fu : Nat} {σ' : M2} {x1 : Int32} {x2 : Int32} (C : Cx (ωC α) κ cX2_runWithout 3 "EveryoneWins$Day" (none)) (e : κ.2.2.2.2.2.2.2.2.2 = (none, σ')) {k6 : Int32 → M2 → Option (Unit × M2)} (hk6 : ∀ (x2' : Int32) (σ : M2), k6 x2' σ = some ((), σ') → J (ωC α) κ 5 3 6 [(0, .ref (wad (ωC α) 41)), (1, .int x1), (2, .int x2')] [] σ) {σ : M2} (h : F2_runWithout_32 fu k6 x1 x2 σ = some ((), σ')) : J (ωC α) κ 5 3 32 [(0, .ref (wad (ωC α) 41)), (1, .int x1), (2, .int x2)] [] σ := by
  unfold F2_runWithout_32 at h
  refine j_iinc (L' := [(2, .int (x2 + 1)), (0, .ref (wad (ωC α) 41)), (1, .int x1)]) C 2 dX2_runWithout_32 rfl rfl rfl rfl ?_
  refine j_goto (tgt := 6) C dX2_runWithout_35 (by decide) ?_
  exact j_sub [1, 2, 0] rfl (hk6 _ _ h)
set_option maxRecDepth 10000 in
theorem b2_runWithout_6 {α : WA} {κ : KT} {fu : Nat} {σ' : M2} {x1 : Int32} {x2 : Int32} (C : Cx (ωC α) κ cX2_runWithout 3 "EveryoneWins$Day" (none)) (e : κ.2.2.2.2.2.2.2.2.2 = (none, σ'))  {σ : M2} (h : F2_runWithout_6 fu x1 x2 σ = some ((), σ')) : J (ωC α) κ 5 3 6 [(0, .ref (wad (ωC α) 41)), (1, .int x1), (2, .int x2)] [] σ := by
  unfold F2_runWithout_6 at h
  refine wl1_ind (fun x2 σ => J (ωC α) κ 5 3 6 [(0, .ref (wad (ωC α) 41)), (1, .int x1), (2, .int x2)] [] σ) ?_ fu x2 σ h
  intro k6 hk6 x2 σ h
  try dsimp only at h
  show J (ωC α) κ 5 3 6 [(0, .ref (wad (ωC α) 41)), (1, .int x1), (2, .int x2)] [] σ
  refine j_iload_n C 2 dX2_runWithout_6 rfl ?_
  refine j_aload_n C 0 dX2_runWithout_7 rfl ?_
  refine j_getr (o := 41) (j := 1) C inT2 (ci := 2) rfl (by decide) (rfl) rfl rfl wd_255 dX2_runWithout_8 (o' := 5) rfl ?_
  refine j_geti (o := 5) (j := 4) C inT5 (ci := 4) rfl (by decide) (rfl) rfl rfl wd_149 dX2_runWithout_11 ?_
  refine j_icmp_ge (tgt := 38) C dX2_runWithout_14 (by decide) (fun c1 => ?_) (fun c1 => ?_)
  · replace h := it c1 h
    refine j_aload_n C 0 dX2_runWithout_38 rfl ?_
    obtain ⟨r2, s3, hc4, h⟩ := bnd_some h
    refine k_V (v := none) C vb_X2_end (ci := 2) (T := TX2) (N := 12) rfl (by decide) (c2_end _ hc4) rfl (by decide) wd_823 (rfl) rfl dX2_runWithout_39 ?_
    show J (ωC α) κ _ _ 42 _ [] s3
    obtain ⟨-, hs⟩ := s2_inj h
    subst hs
    exact j_vret C e dX2_runWithout_42
  · replace h := ie c1 h
    refine j_iload_n C 2 dX2_runWithout_17 rfl ?_
    refine j_iload_n C 1 dX2_runWithout_18 rfl ?_
    refine j_icmp_eq (tgt := 32) C dX2_runWithout_19 (by decide) (fun c5 => ?_) (fun c5 => ?_)
    · replace h := it c5 h
      exact (b2_runWithout_32 C e hk6 h)
    · replace h := ie c5 h
      refine j_aload_n C 0 dX2_runWithout_22 rfl ?_
      refine j_iload_n C 2 dX2_runWithout_23 rfl ?_
      refine j_aload_n C 0 dX2_runWithout_24 rfl ?_
      refine j_iload_n C 2 dX2_runWithout_25 rfl ?_
      obtain ⟨r6, s7, hc8, h⟩ := bnd_some h
      refine k_V (v := some (.int r6)) C vb_X2_lineUp (ci := 2) (T := TX2) (N := 12) rfl (by decide) (c2_lineUp _ hc8) rfl (by decide) wd_810 (rfl) rfl dX2_runWithout_26 ?_
      show J (ωC α) κ _ _ 29 _ [.int r6, .int x2, .ref (wad (ωC α) 41)] s7
      obtain ⟨r9, s10, hc11, h⟩ := bnd_some h
      refine k_V (v := none) C vb_X2_giveRibbons (ci := 2) (T := TX2) (N := 12) rfl (by decide) (c2_giveRibbons _ hc11) rfl (by decide) wd_811 (rfl) rfl dX2_runWithout_29 ?_
      show J (ωC α) κ _ _ 32 _ [] s10
      exact (b2_runWithout_32 C e hk6 h)
set_option maxRecDepth 10000 in
theorem c2_runWithout (l : Launch) {α : WA} {fu : Nat} {a1 : Int32} {σ σ' : M2}  (h : F2_runWithout fu a1 σ = some ((), σ')) : Ct l (ωC α) yX2_runWithout cX2_runWithout 3 (none) 5 [.ref (wad (ωC α) 41), .int a1] σ (none) σ' := by
  unfold F2_runWithout at h
  refine Ct.of (own := "EveryoneWins$Day") (L := [(0, .ref (wad (ωC α) 41)), (1, .int a1)]) (by decide +kernel) rfl rfl rfl (fun κ hl e C => ?_)
  show J (ωC α) κ 5 3 0 [(0, .ref (wad (ωC α) 41)), (1, .int a1)] [] σ
  refine j_aload_n C 0 dX2_runWithout_0 rfl ?_
  obtain ⟨r1, s2, hc3, h⟩ := bnd_some h
  refine k_V (v := none) C vb_X2_begin (ci := 2) (T := TX2) (N := 12) rfl (by decide) (c2_begin _ hc3) rfl (by decide) wd_809 (rfl) rfl dX2_runWithout_1 ?_
  show J (ωC α) κ _ _ 4 _ [] s2
  refine j_iconst (v := 0) C dX2_runWithout_4 (by decide) ?_
  refine j_istore_n (L' := [(2, .int (0 : Int32)), (0, .ref (wad (ωC α) 41)), (1, .int a1)]) C dX2_runWithout_5 rfl rfl rfl ?_
  exact j_sub [1, 2, 0] rfl (b2_runWithout_6 C e h)
set_option maxRecDepth 10000 in
theorem c2_run (l : Launch) {α : WA} {fu : Nat}  {σ σ' : M2}  (h : F2_run fu σ = some ((), σ')) : Ct l (ωC α) yX2_run cX2_run 1 (none) 6 [.ref (wad (ωC α) 41)] σ (none) σ' := by
  unfold F2_run at h
  refine Ct.of (own := "EveryoneWins$Day") (L := [(0, .ref (wad (ωC α) 41))]) (by decide +kernel) rfl rfl rfl (fun κ hl e C => ?_)
  show J (ωC α) κ 6 1 0 [(0, .ref (wad (ωC α) 41))] [] σ
  refine j_aload_n C 0 dX2_run_0 rfl ?_
  refine j_iconst (v := -1) C dX2_run_1 (by decide) ?_
  obtain ⟨r1, s2, hc3, h⟩ := bnd_some h
  refine k_V (v := none) C vb_X2_runWithout (ci := 2) (T := TX2) (N := 12) rfl (by decide) (c2_runWithout _ hc3) rfl (by decide) wd_805 (rfl) rfl dX2_run_2 ?_
  show J (ωC α) κ _ _ 5 _ [] s2
  obtain ⟨-, hs⟩ := s2_inj h
  subst hs
  exact j_vret C e dX2_run_5
set_option maxRecDepth 10000 in
theorem c4_keepAhead (l : Launch) {α : WA} {fu : Nat} {a1 : Int32} {σ σ' : M2}  (h : F4_keepAhead fu a1 σ = some ((), σ')) : Ct l (ωC α) yX4_keepAhead cX4_keepAhead 2 (none) 2 [.ref (wad (ωC α) 48), .int a1] σ (none) σ' := by
  unfold F4_keepAhead at h
  refine Ct.of (own := "EveryoneWins$Orders") (L := [(0, .ref (wad (ωC α) 48)), (1, .int a1)]) (by decide +kernel) rfl rfl rfl (fun κ hl e C => ?_)
  show J (ωC α) κ 2 2 0 [(0, .ref (wad (ωC α) 48)), (1, .int a1)] [] σ
  refine j_iload_n C 1 dX4_keepAhead_0 rfl ?_
  refine j_if_lt (tgt := 44) C dX4_keepAhead_1 (by decide) (fun c1 => ?_) (fun c1 => ?_)
  · replace h := it c1 h
    obtain ⟨-, hs⟩ := s2_inj h
    subst hs
    exact j_vret C e dX4_keepAhead_44
  · replace h := ie c1 h
    refine j_iload_n C 1 dX4_keepAhead_4 rfl ?_
    refine j_aload_n C 0 dX4_keepAhead_5 rfl ?_
    refine j_getr (o := 48) (j := 3) C inT4 (ci := 3) rfl (by decide) (rfl) rfl rfl wd_329 dX4_keepAhead_6 (o' := 50) rfl ?_
    refine j_alen (o := 50) (t := 1) (N := 6) (v := 6) C rfl (by decide) rfl dX4_keepAhead_9 ?_
    refine j_icmp_ge (tgt := 44) C dX4_keepAhead_10 (by decide) (fun c2 => ?_) (fun c2 => ?_)
    · replace h := it c2 h
      obtain ⟨-, hs⟩ := s2_inj h
      subst hs
      exact j_vret C e dX4_keepAhead_44
    · replace h := ie c2 h
      refine j_aload_n C 0 dX4_keepAhead_13 rfl ?_
      refine j_getr (o := 48) (j := 1) C inT4 (ci := 3) rfl (by decide) (rfl) rfl rfl wd_327 dX4_keepAhead_14 (o' := 41) rfl ?_
      refine j_getr (o := 41) (j := 3) C inT2 (ci := 2) rfl (by decide) (rfl) rfl rfl wd_258 dX4_keepAhead_17 (o' := 42) rfl ?_
      refine j_aload_n C 0 dX4_keepAhead_20 rfl ?_
      refine j_getr (o := 48) (j := 3) C inT4 (ci := 3) rfl (by decide) (rfl) rfl rfl wd_329 dX4_keepAhead_21 (o' := 50) rfl ?_
      refine j_iload_n C 1 dX4_keepAhead_24 rfl ?_
      obtain ⟨g3, h⟩ := gd_some h
      refine j_aaload (N := 6) C rfl (inb_in g3) dX4_keepAhead_25 ?_
      obtain ⟨r4, s5, hc6, h⟩ := bnd_some h
      refine k_N (v := none) C sb_X11_copyRow (c11_copyRow _ hc6) rfl (by decide) wn_874 rfl dX4_keepAhead_26 ?_
      show J (ωC α) κ _ _ 29 _ [] s5
      refine j_aload_n C 0 dX4_keepAhead_29 rfl ?_
      refine j_getr (o := 48) (j := 4) C inT4 (ci := 3) rfl (by decide) (rfl) rfl rfl wd_330 dX4_keepAhead_30 (o' := 57) rfl ?_
      refine j_iload_n C 1 dX4_keepAhead_33 rfl ?_
      refine j_aload_n C 0 dX4_keepAhead_34 rfl ?_
      refine j_getr (o := 48) (j := 1) C inT4 (ci := 3) rfl (by decide) (rfl) rfl rfl wd_327 dX4_keepAhead_35 (o' := 41) rfl ?_
      refine j_geti (o := 41) (j := 8) C inT2 (ci := 2) rfl (by decide) (rfl) rfl rfl wd_267 dX4_keepAhead_38 ?_
      obtain ⟨r7, s8, hc9, h⟩ := bnd_some h
      refine k_N (v := none) C sb_X11_set (c11_set _ hc9) rfl (by decide) wn_877 rfl dX4_keepAhead_41 ?_
      show J (ωC α) κ _ _ 44 _ [] s8
      obtain ⟨-, hs⟩ := s2_inj h
      subst hs
      exact j_vret C e dX4_keepAhead_44
set_option maxRecDepth 10000 in
theorem b4_runFrom_53 {α : WA} {κ : KT} {fu : Nat} {σ' : M2} {x2 : Int32} (C : Cx (ωC α) κ cX4_runFrom 4 "EveryoneWins$Orders" (none)) (e : κ.2.2.2.2.2.2.2.2.2 = (none, σ'))  {σ : M2} (h : F4_runFrom_53 fu x2 σ = some ((), σ')) : J (ωC α) κ 5 4 53 [(0, .ref (wad (ωC α) 48)), (2, .int x2)] [] σ := by
  unfold F4_runFrom_53 at h
  refine wl1_ind (fun x2 σ => J (ωC α) κ 5 4 53 [(0, .ref (wad (ωC α) 48)), (2, .int x2)] [] σ) ?_ fu x2 σ h
  intro k53 hk53 x2 σ h
  try dsimp only at h
  show J (ωC α) κ 5 4 53 [(0, .ref (wad (ωC α) 48)), (2, .int x2)] [] σ
  refine j_iload_n C 1 dX4_runFrom_53 rfl ?_
  refine j_aload_n C 0 dX4_runFrom_54 rfl ?_
  refine j_getr (o := 48) (j := 0) C inT4 (ci := 3) rfl (by decide) (rfl) rfl rfl wd_326 dX4_runFrom_55 (o' := 5) rfl ?_
  refine j_geti (o := 5) (j := 4) C inT5 (ci := 4) rfl (by decide) (rfl) rfl rfl wd_150 dX4_runFrom_58 ?_
  refine j_icmp_ge (tgt := 100) C dX4_runFrom_61 (by decide) (fun c1 => ?_) (fun c1 => ?_)
  · replace h := it c1 h
    refine j_aload_n C 0 dX4_runFrom_100 rfl ?_
    refine j_getr (o := 48) (j := 1) C inT4 (ci := 3) rfl (by decide) (rfl) rfl rfl wd_327 dX4_runFrom_101 (o' := 41) rfl ?_
    obtain ⟨r2, s3, hc4, h⟩ := bnd_some h
    refine k_V (v := none) C vb_X2_end (ci := 2) (T := TX2) (N := 12) rfl (by decide) (c2_end _ hc4) rfl (by decide) wd_885 (rfl) rfl dX4_runFrom_104 ?_
    show J (ωC α) κ _ _ 107 _ [] s3
    obtain ⟨-, hs⟩ := s2_inj h
    subst hs
    exact j_vret C e dX4_runFrom_107
  · replace h := ie c1 h
    refine j_aload_n C 0 dX4_runFrom_64 rfl ?_
    refine j_iload_n C 1 dX4_runFrom_65 rfl ?_
    obtain ⟨r5, s6, hc7, h⟩ := bnd_some h
    refine k_V (v := none) C vb_X4_keepAhead (ci := 3) (T := TX4) (N := 5) rfl (by decide) (c4_keepAhead _ hc7) rfl (by decide) wd_870 (rfl) rfl dX4_runFrom_66 ?_
    show J (ωC α) κ _ _ 69 _ [] s6
    refine j_aload_n C 0 dX4_runFrom_69 rfl ?_
    refine j_getr (o := 48) (j := 2) C inT4 (ci := 3) rfl (by decide) (rfl) rfl rfl wd_328 dX4_runFrom_70 (o' := 49) rfl ?_
    refine j_iload_n C 1 dX4_runFrom_73 rfl ?_
    obtain ⟨r8, s9, hc10, h⟩ := bnd_some h
    refine k_N (v := some (.int r8)) C sb_X11_at (c11_at _ hc10) rfl (by decide) wn_882 rfl dX4_runFrom_74 ?_
    show J (ωC α) κ _ _ 77 _ [.int r8] s9
    refine j_istore_n (L' := [(3, .int r8), (0, .ref (wad (ωC α) 48)), (2, .int x2)]) C dX4_runFrom_77 rfl rfl rfl ?_
    refine j_aload_n C 1 dX4_runFrom_78 rfl ?_
    refine j_getr (o := 48) (j := 1) C inT4 (ci := 3) rfl (by decide) (rfl) rfl rfl wd_327 dX4_runFrom_79 (o' := 41) rfl ?_
    refine j_iload_n C 0 dX4_runFrom_82 rfl ?_
    refine j_aload_n C 1 dX4_runFrom_83 rfl ?_
    refine j_getr (o := 48) (j := 1) C inT4 (ci := 3) rfl (by decide) (rfl) rfl rfl wd_327 dX4_runFrom_84 (o' := 41) rfl ?_
    refine j_iload_n C 0 dX4_runFrom_87 rfl ?_
    obtain ⟨r11, s12, hc13, h⟩ := bnd_some h
    refine k_V (v := some (.int r11)) C vb_X2_lineUp (ci := 2) (T := TX2) (N := 12) rfl (by decide) (c2_lineUp _ hc13) rfl (by decide) wd_883 (rfl) rfl dX4_runFrom_88 ?_
    show J (ωC α) κ _ _ 91 _ [.int r11, .int r8, .ref (wad (ωC α) 41)] s12
    obtain ⟨r14, s15, hc16, h⟩ := bnd_some h
    refine k_V (v := none) C vb_X2_giveRibbons (ci := 2) (T := TX2) (N := 12) rfl (by decide) (c2_giveRibbons _ hc16) rfl (by decide) wd_884 (rfl) rfl dX4_runFrom_91 ?_
    show J (ωC α) κ _ _ 94 _ [] s15
    refine j_iinc (L' := [(2, .int (x2 + 1)), (3, .int r8), (0, .ref (wad (ωC α) 48))]) C 2 dX4_runFrom_94 rfl rfl rfl rfl ?_
    refine j_goto (tgt := 53) C dX4_runFrom_97 (by decide) ?_
    exact j_sub [2, 0] rfl (hk53 _ _ h)
