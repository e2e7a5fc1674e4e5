set_option maxRecDepth 10000 in
theorem b12_needs_86 {α : WA} {κ : KT} {fu : Nat} {v : Int32} {σ' : M2} {x1 : Int32} {x2 : Int32} {x3 : Int32} {x5 : Int32} {y0 : Int32} (C : Cx (ωM α) κ cX12_needs 6 "EveryoneWinsModel" (some FieldType.int)) (e : κ.2.2.2.2.2.2.2.2.2 = (some (.int v), σ')) {k41 : Int32 → Int32 → M2 → Option (Int32 × M2)} (hk41 : ∀ (x4' : Int32) (x5' : Int32) (σ : M2), k41 x4' x5' σ = some (v, σ') → J (ωM α) κ 8 6 41 [(0, .ref (wad (ωM α) 0)), (1, .int x1), (2, .int x2), (3, .int x3), (4, .int x4'), (5, .int x5')] [] σ) {σ : M2} (h : F12_needs_86 fu k41 x1 x2 x3 x5 y0 σ = some (v, σ')) : J (ωM α) κ 8 6 86 [(0, .ref (wad (ωM α) 0)), (1, .int x1), (2, .int x2), (3, .int x3), (5, .int x5)] [.int y0] σ := by
  unfold F12_needs_86 at h
  refine j_istore (L' := [(4, .int y0), (0, .ref (wad (ωM α) 0)), (1, .int x1), (2, .int x2), (3, .int x3), (5, .int x5)]) C dX12_needs_86 rfl rfl ?_
  refine j_iinc (L' := [(5, .int (x5 + 1)), (4, .int y0), (0, .ref (wad (ωM α) 0)), (1, .int x1), (2, .int x2), (3, .int x3)]) C 5 dX12_needs_88 rfl rfl rfl rfl ?_
  refine j_goto (tgt := 41) C dX12_needs_91 (by decide) ?_
  exact j_sub [2, 3, 4, 5, 1, 0] rfl (hk41 _ _ _ h)
set_option maxRecDepth 10000 in
theorem b12_needs_41 {α : WA} {κ : KT} {fu : Nat} {v : Int32} {σ' : M2} {x1 : Int32} {x2 : Int32} {x3 : Int32} {x4 : Int32} {x5 : Int32} (C : Cx (ωM α) κ cX12_needs 6 "EveryoneWinsModel" (some FieldType.int)) (e : κ.2.2.2.2.2.2.2.2.2 = (some (.int v), σ'))  {σ : M2} (h : F12_needs_41 fu x1 x2 x3 x4 x5 σ = some (v, σ')) : J (ωM α) κ 8 6 41 [(0, .ref (wad (ωM α) 0)), (1, .int x1), (2, .int x2), (3, .int x3), (4, .int x4), (5, .int x5)] [] σ := by
  unfold F12_needs_41 at h
  refine wl2_ind (fun x4 x5 σ => J (ωM α) κ 8 6 41 [(0, .ref (wad (ωM α) 0)), (1, .int x1), (2, .int x2), (3, .int x3), (4, .int x4), (5, .int x5)] [] σ) ?_ fu x4 x5 σ h
  intro k41 hk41 x4 x5 σ h
  try dsimp only at h
  show J (ωM α) κ 8 6 41 [(0, .ref (wad (ωM α) 0)), (1, .int x1), (2, .int x2), (3, .int x3), (4, .int x4), (5, .int x5)] [] σ
  refine j_iload C 5 dX12_needs_41 rfl ?_
  refine j_bipush (v := 99) C dX12_needs_43 (by decide) ?_
  refine j_icmp_gt (tgt := 94) C dX12_needs_45 (by decide) (fun c1 => ?_) (fun c1 => ?_)
  · replace h := it c1 h
    exact j_sub [0, 1, 3, 4] rfl (b12_needs_94 C e h)
  · replace h := ie c1 h
    refine j_iload C 4 dX12_needs_48 rfl ?_
    refine j_iconst (v := -1) C dX12_needs_50 (by decide) ?_
    refine j_icmp_ne (tgt := 94) C dX12_needs_51 (by decide) (fun c2 => ?_) (fun c2 => ?_)
    · replace h := ie c2 h
      exact j_sub [0, 1, 3, 4] rfl (b12_needs_94 C e h)
    · replace h := it c2 h
      refine j_aload_n C 0 dX12_needs_54 rfl ?_
      refine j_getr (o := 0) (j := 1) C inT12 (ci := 11) rfl (by decide) (rfl) rfl rfl wd_1100 dX12_needs_55 (o' := 1) rfl ?_
      refine j_iconst (v := 3) C dX12_needs_58 (by decide) ?_
      refine j_iload_n C 1 dX12_needs_59 rfl ?_
      refine j_imul C dX12_needs_60 ?_
      refine j_iconst (v := 2) C dX12_needs_61 (by decide) ?_
      refine j_iadd C dX12_needs_62 ?_
      refine j_iload C 5 dX12_needs_63 rfl ?_
      obtain ⟨g3, h⟩ := gd_some h
      refine j_iastore (N := 24) C (rfl) (inb_in g3) dX12_needs_65 ?_
      refine j_aload_n C 0 dX12_needs_66 rfl ?_
      obtain ⟨r4, s5, hc6, h⟩ := bnd_some h
      refine k_V (v := none) C vb_X12_goes (ci := 11) (T := TX12) (N := 45) rfl (by decide) (c12_goes _ hc6) rfl (by decide) wd_1332 (rfl) rfl dX12_needs_67 ?_
      show J (ωM α) κ _ _ 70 _ [] s5
      refine j_aload_n C 0 dX12_needs_70 rfl ?_
      refine j_getr (o := 0) (j := 30) C inT12 (ci := 11) rfl (by decide) (rfl) rfl rfl wd_1129 dX12_needs_71 (o' := 18) rfl ?_
      refine j_iload_n C 1 dX12_needs_74 rfl ?_
      obtain ⟨g7, h⟩ := gd_some h
      refine j_iaload (N := 8) C (rfl) (inb_in g7) dX12_needs_75 ?_
      refine j_iload_n C 2 dX12_needs_76 rfl ?_
      refine j_icmp_lt (tgt := 85) C dX12_needs_77 (by decide) (fun c8 => ?_) (fun c8 => ?_)
      · replace h := it c8 h
        refine j_iconst (v := -1) C dX12_needs_85 (by decide) ?_
        exact j_sub [0, 1, 2, 3, 5] rfl (b12_needs_86 C e hk41 h)
      · replace h := ie c8 h
        refine j_iload C 5 dX12_needs_80 rfl ?_
        refine j_goto (tgt := 86) C dX12_needs_82 (by decide) ?_
        exact j_sub [0, 1, 2, 3, 5] rfl (b12_needs_86 C e hk41 h)
set_option maxRecDepth 10000 in
theorem c12_needs (l : Launch) {α : WA} {fu : Nat} {a1 : Int32} {a2 : Int32} {σ σ' : M2} {v : Int32}  (h : F12_needs fu a1 a2 σ = some (v, σ')) : Ct l (ωM α) yX12_needs cX12_needs 6 (some FieldType.int) 8 [.ref (wad (ωM α) 0), .int a1, .int a2] σ (some (.int v)) σ' := by
  unfold F12_needs at h
  refine Ct.of (own := "EveryoneWinsModel") (L := [(0, .ref (wad (ωM α) 0)), (1, .int a1), (2, .int a2)]) (by decide +kernel) rfl rfl rfl (fun κ hl e C => ?_)
  show J (ωM α) κ 8 6 0 [(0, .ref (wad (ωM α) 0)), (1, .int a1), (2, .int a2)] [] σ
  refine j_aload_n C 0 dX12_needs_0 rfl ?_
  refine j_iload_n C 1 dX12_needs_1 rfl ?_
  obtain ⟨r1, s2, hc3, h⟩ := bnd_some h
  refine k_V (v := some (.int r1)) C vb_X12_isChild (ci := 11) (T := TX12) (N := 45) rfl (by decide) (c12_isChild _ hc3) rfl (by decide) wd_1247 (rfl) rfl dX12_needs_2 ?_
  show J (ωM α) κ _ _ 5 _ [.int r1] s2
  refine j_if_ne (tgt := 11) C dX12_needs_5 (by decide) (fun c4 => ?_) (fun c4 => ?_)
  · replace h := ie c4 h
    refine j_iload_n C 2 dX12_needs_11 rfl ?_
    refine j_iconst (v := 0) C dX12_needs_12 (by decide) ?_
    refine j_bipush (v := 6) C dX12_needs_13 (by decide) ?_
    obtain ⟨r5, s6, hc7, h⟩ := bnd_some h
    refine k_S (v := some (.int r5)) C sb_X12_in (c12_in _ hc7) rfl (by decide) wd_1060 rfl dX12_needs_15 ?_
    show J (ωM α) κ _ _ 18 _ [.int r5] s6
    refine j_if_ne (tgt := 24) C dX12_needs_18 (by decide) (fun c8 => ?_) (fun c8 => ?_)
    · replace h := ie c8 h
      refine j_aload_n C 0 dX12_needs_24 rfl ?_
      refine j_getr (o := 0) (j := 1) C inT12 (ci := 11) rfl (by decide) (rfl) rfl rfl wd_1100 dX12_needs_25 (o' := 1) rfl ?_
      refine j_iconst (v := 3) C dX12_needs_28 (by decide) ?_
      refine j_iload_n C 1 dX12_needs_29 rfl ?_
      refine j_imul C dX12_needs_30 ?_
      refine j_iconst (v := 2) C dX12_needs_31 (by decide) ?_
      refine j_iadd C dX12_needs_32 ?_
      obtain ⟨g9, h⟩ := gd_some h
      refine j_iaload (N := 24) C (rfl) (inb_in g9) dX12_needs_33 ?_
      refine j_istore_n (L' := [(3, .int (s6 1 (((3 : Int32) * a1) + (2 : Int32)).toNatClampNeg)), (0, .ref (wad (ωM α) 0)), (1, .int a1), (2, .int a2)]) C dX12_needs_34 rfl rfl rfl ?_
      refine j_iconst (v := -1) C dX12_needs_35 (by decide) ?_
      refine j_istore (L' := [(4, .int (-1 : Int32)), (3, .int (s6 1 (((3 : Int32) * a1) + (2 : Int32)).toNatClampNeg)), (0, .ref (wad (ωM α) 0)), (1, .int a1), (2, .int a2)]) C dX12_needs_36 rfl rfl ?_
      refine j_iconst (v := 0) C dX12_needs_38 (by decide) ?_
      refine j_istore (L' := [(5, .int (0 : Int32)), (4, .int (-1 : Int32)), (3, .int (s6 1 (((3 : Int32) * a1) + (2 : Int32)).toNatClampNeg)), (0, .ref (wad (ωM α) 0)), (1, .int a1), (2, .int a2)]) C dX12_needs_39 rfl rfl ?_
      exact j_sub [3, 4, 5, 2, 1, 0] rfl (b12_needs_41 C e h)
    · replace h := it c8 h
      refine j_bipush (v := -7) C dX12_needs_21 (by decide) ?_
      obtain ⟨hv, hs⟩ := s2_inj h
      subst hv
      subst hs
      exact j_iret C e dX12_needs_23
  · replace h := it c4 h
    refine j_bipush (v := -5) C dX12_needs_8 (by decide) ?_
    obtain ⟨hv, hs⟩ := s2_inj h
    subst hv
    subst hs
    exact j_iret C e dX12_needs_10
set_option maxRecDepth 10000 in
theorem c12_sheetWrong (l : Launch) {α : WA}  {a1 : Int32} {σ σ' : M2} {v : Int32}  (h : F12_sheetWrong a1 σ = some (v, σ')) : Ct l (ωM α) yX12_sheetWrong cX12_sheetWrong 2 (some FieldType.int) 2 [.ref (wad (ωM α) 0), .int a1] σ (some (.int v)) σ' := by
  unfold F12_sheetWrong at h
  refine Ct.of (own := "EveryoneWinsModel") (L := [(0, .ref (wad (ωM α) 0)), (1, .int a1)]) (by decide +kernel) rfl rfl rfl (fun κ hl e C => ?_)
  show J (ωM α) κ 2 2 0 [(0, .ref (wad (ωM α) 0)), (1, .int a1)] [] σ
  refine j_iload_n C 1 dX12_sheetWrong_0 rfl ?_
  refine j_iconst (v := 0) C dX12_sheetWrong_1 (by decide) ?_
  refine j_iconst (v := 3) C dX12_sheetWrong_2 (by decide) ?_
  obtain ⟨r1, s2, hc3, h⟩ := bnd_some h
  refine k_S (v := some (.int r1)) C sb_X12_in (c12_in _ hc3) rfl (by decide) wd_1060 rfl dX12_sheetWrong_3 ?_
  show J (ωM α) κ _ _ 6 _ [.int r1] s2
  refine j_if_ne (tgt := 12) C dX12_sheetWrong_6 (by decide) (fun c4 => ?_) (fun c4 => ?_)
  · replace h := ie c4 h
    refine j_aload_n C 0 dX12_sheetWrong_12 rfl ?_
    refine j_getr (o := 0) (j := 15) C inT12 (ci := 11) rfl (by decide) (rfl) rfl rfl wd_1114 dX12_sheetWrong_13 (o' := 10) rfl ?_
    refine j_iload_n C 1 dX12_sheetWrong_16 rfl ?_
    obtain ⟨g5, h⟩ := gd_some h
    refine j_iaload (N := 4) C (rfl) (inb_in g5) dX12_sheetWrong_17 ?_
    refine j_iconst (v := -1) C dX12_sheetWrong_18 (by decide) ?_
    refine j_icmp_ne (tgt := 25) C dX12_sheetWrong_19 (by decide) (fun c6 => ?_) (fun c6 => ?_)
    · replace h := ie c6 h
      refine j_aload_n C 0 dX12_sheetWrong_25 rfl ?_
      refine j_getr (o := 0) (j := 16) C inT12 (ci := 11) rfl (by decide) (rfl) rfl rfl wd_1115 dX12_sheetWrong_26 (o' := 11) rfl ?_
      refine j_iload_n C 1 dX12_sheetWrong_29 rfl ?_
      refine j_iaload (N := 4) C (rfl) (inb_in g5) dX12_sheetWrong_30 ?_
      refine j_aload_n C 0 dX12_sheetWrong_31 rfl ?_
      refine j_geti (o := 0) (j := 2) C inT12 (ci := 11) rfl (by decide) (rfl) rfl rfl wd_1101 dX12_sheetWrong_32 ?_
      refine j_icmp_ne (tgt := 42) C dX12_sheetWrong_35 (by decide) (fun c7 => ?_) (fun c7 => ?_)
      · replace h := ie c7 h
        refine j_bipush (v := -2) C dX12_sheetWrong_42 (by decide) ?_
        obtain ⟨hv, hs⟩ := s2_inj h
        subst hv
        subst hs
        exact j_iret C e dX12_sheetWrong_44
      · replace h := it c7 h
        refine j_iconst (v := 0) C dX12_sheetWrong_38 (by decide) ?_
        refine j_goto (tgt := 44) C dX12_sheetWrong_39 (by decide) ?_
        obtain ⟨hv, hs⟩ := s2_inj h
        subst hv
        subst hs
        exact j_iret C e dX12_sheetWrong_44
    · replace h := it c6 h
      refine j_bipush (v := -11) C dX12_sheetWrong_22 (by decide) ?_
      obtain ⟨hv, hs⟩ := s2_inj h
      subst hv
      subst hs
      exact j_iret C e dX12_sheetWrong_24
  · replace h := it c4 h
    refine j_bipush (v := -2) C dX12_sheetWrong_9 (by decide) ?_
    obtain ⟨hv, hs⟩ := s2_inj h
    subst hv
    subst hs
    exact j_iret C e dX12_sheetWrong_11
set_option maxRecDepth 10000 in
theorem b12_unlike_6 {α : WA} {κ : KT} {fu : Nat} {v : Int32} {σ' : M2} {x1 : Int32} {x2 : Int32} (C : Cx (ωM α) κ cX12_unlike 3 "EveryoneWinsModel" (some FieldType.int)) (e : κ.2.2.2.2.2.2.2.2.2 = (some (.int v), σ'))  {σ : M2} (h : F12_unlike_6 fu x1 x2 σ = some (v, σ')) : J (ωM α) κ 8 3 6 [(0, .ref (wad (ωM α) 0)), (1, .int x1), (2, .int x2)] [] σ := by
  unfold F12_unlike_6 at h
  refine wl1_ind (fun x2 σ => J (ωM α) κ 8 3 6 [(0, .ref (wad (ωM α) 0)), (1, .int x1), (2, .int x2)] [] σ) ?_ fu x2 σ h
  intro k6 hk6 x2 σ h
  try dsimp only at h
  show J (ωM α) κ 8 3 6 [(0, .ref (wad (ωM α) 0)), (1, .int x1), (2, .int x2)] [] σ
  refine j_iload_n C 2 dX12_unlike_6 rfl ?_
  refine j_aload_n C 0 dX12_unlike_7 rfl ?_
  refine j_geti (o := 0) (j := 2) C inT12 (ci := 11) rfl (by decide) (rfl) rfl rfl wd_1101 dX12_unlike_8 ?_
  refine j_icmp_ge (tgt := 42) C dX12_unlike_11 (by decide) (fun c1 => ?_) (fun c1 => ?_)
  · replace h := it c1 h
    refine j_iconst (v := -1) C dX12_unlike_42 (by decide) ?_
    obtain ⟨hv, hs⟩ := s2_inj h
    subst hv
    subst hs
    exact j_iret C e dX12_unlike_43
  · replace h := ie c1 h
    refine j_aload_n C 0 dX12_unlike_14 rfl ?_
    refine j_getr (o := 0) (j := 17) C inT12 (ci := 11) rfl (by decide) (rfl) rfl rfl wd_1116 dX12_unlike_15 (o' := 12) rfl ?_
    refine j_bipush (v := 40) C dX12_unlike_18 (by decide) ?_
    refine j_iload_n C 1 dX12_unlike_20 rfl ?_
    refine j_imul C dX12_unlike_21 ?_
    refine j_iload_n C 2 dX12_unlike_22 rfl ?_
    refine j_iadd C dX12_unlike_23 ?_
    obtain ⟨g2, h⟩ := gd_some h
    refine j_iaload (N := 160) C (rfl) (inb_in g2) dX12_unlike_24 ?_
    refine j_aload_n C 0 dX12_unlike_25 rfl ?_
    refine j_getr (o := 0) (j := 37) C inT12 (ci := 11) rfl (by decide) (rfl) rfl rfl wd_1136 dX12_unlike_26 (o' := 21) rfl ?_
    refine j_iload_n C 2 dX12_unlike_29 rfl ?_
    obtain ⟨g3, h⟩ := gd_some h
    refine j_iaload (N := 6) C (rfl) (inb_in g3) dX12_unlike_30 ?_
    refine j_icmp_eq (tgt := 36) C dX12_unlike_31 (by decide) (fun c4 => ?_) (fun c4 => ?_)
    · replace h := it c4 h
      refine j_iinc (L' := [(2, .int (x2 + 1)), (0, .ref (wad (ωM α) 0)), (1, .int x1)]) C 2 dX12_unlike_36 rfl rfl rfl rfl ?_
      refine j_goto (tgt := 6) C dX12_unlike_39 (by decide) ?_
      exact j_sub [1, 2, 0] rfl (hk6 _ _ h)
    · replace h := ie c4 h
      refine j_iload_n C 2 dX12_unlike_34 rfl ?_
      obtain ⟨hv, hs⟩ := s2_inj h
      subst hv
      subst hs
      exact j_iret C e dX12_unlike_35
set_option maxRecDepth 10000 in
theorem c12_unlike (l : Launch) {α : WA} {fu : Nat} {a1 : Int32} {σ σ' : M2} {v : Int32}  (h : F12_unlike fu a1 σ = some (v, σ')) : Ct l (ωM α) yX12_unlike cX12_unlike 3 (some FieldType.int) 8 [.ref (wad (ωM α) 0), .int a1] σ (some (.int v)) σ' := by
  unfold F12_unlike at h
  refine Ct.of (own := "EveryoneWinsModel") (L := [(0, .ref (wad (ωM α) 0)), (1, .int a1)]) (by decide +kernel) rfl rfl rfl (fun κ hl e C => ?_)
  show J (ωM α) κ 8 3 0 [(0, .ref (wad (ωM α) 0)), (1, .int a1)] [] σ
  refine j_aload_n C 0 dX12_unlike_0 rfl ?_
  obtain ⟨r1, s2, hc3, h⟩ := bnd_some h
  refine k_V (v := none) C vb_X12_goes (ci := 11) (T := TX12) (N := 45) rfl (by decide) (c12_goes _ hc3) rfl (by decide) wd_1332 (rfl) rfl dX12_unlike_1 ?_
  show J (ωM α) κ _ _ 4 _ [] s2
  refine j_iconst (v := 0) C dX12_unlike_4 (by decide) ?_
  refine j_istore_n (L' := [(2, .int (0 : Int32)), (0, .ref (wad (ωM α) 0)), (1, .int a1)]) C dX12_unlike_5 rfl rfl rfl ?_
  exact j_sub [1, 2, 0] rfl (b12_unlike_6 C e h)
set_option maxRecDepth 10000 in
theorem c12_judge (l : Launch) {α : WA} {fu : Nat} {a1 : Int32} {σ σ' : M2} {v : Int32}  (h : F12_judge fu a1 σ = some (v, σ')) : Ct l (ωM α) yX12_judge cX12_judge 3 (some FieldType.int) 9 [.ref (wad (ωM α) 0), .int a1] σ (some (.int v)) σ' := by
  unfold F12_judge at h
  refine Ct.of (own := "EveryoneWinsModel") (L := [(0, .ref (wad (ωM α) 0)), (1, .int a1)]) (by decide +kernel) rfl rfl rfl (fun κ hl e C => ?_)
  show J (ωM α) κ 9 3 0 [(0, .ref (wad (ωM α) 0)), (1, .int a1)] [] σ
  refine j_aload_n C 0 dX12_judge_0 rfl ?_
  refine j_iload_n C 1 dX12_judge_1 rfl ?_
  obtain ⟨r1, s2, hc3, h⟩ := bnd_some h
  refine k_V (v := some (.int r1)) C vb_X12_sheetWrong (ci := 11) (T := TX12) (N := 45) rfl (by decide) (c12_sheetWrong _ hc3) rfl (by decide) wd_1396 (rfl) rfl dX12_judge_2 ?_
  show J (ωM α) κ _ _ 5 _ [.int r1] s2
  refine j_istore_n (L' := [(2, .int r1), (0, .ref (wad (ωM α) 0)), (1, .int a1)]) C dX12_judge_5 rfl rfl rfl ?_
  refine j_iload_n C 0 dX12_judge_6 rfl ?_
  refine j_if_ne (tgt := 18) C dX12_judge_7 (by decide) (fun c4 => ?_) (fun c4 => ?_)
  · replace h := ie c4 h
    refine j_iload_n C 0 dX12_judge_18 rfl ?_
    obtain ⟨hv, hs⟩ := s2_inj h
    subst hv
    subst hs
    exact j_iret C e dX12_judge_19
  · replace h := it c4 h
    refine j_aload_n C 1 dX12_judge_10 rfl ?_
    refine j_iload_n C 2 dX12_judge_11 rfl ?_
    obtain ⟨r5, s6, hc7, h⟩ := bnd_some h
    refine k_V (v := some (.int r5)) C vb_X12_unlike (ci := 11) (T := TX12) (N := 45) rfl (by decide) (c12_unlike _ hc7) rfl (by decide) wd_1400 (rfl) rfl dX12_judge_12 ?_
    show J (ωM α) κ _ _ 15 _ [.int r5] s6
    refine j_goto (tgt := 19) C dX12_judge_15 (by decide) ?_
    obtain ⟨hv, hs⟩ := s2_inj h
    subst hv
    subst hs
    exact j_iret C e dX12_judge_19
set_option maxRecDepth 10000 in
theorem b12_kinds_173 {α : WA} {κ : KT} {fu : Nat} {v : Int32} {σ' : M2} {x1 : Int32} {x2 : Int32} {x3 : Int32} {x5 : Int32} {x6 : Int32} {x7 : Int32} {x9 : Int32} {y0 : Int32} {y1 : Int32} (C : Cx (ωM α) κ cX12_kinds 10 "EveryoneWinsModel" (some FieldType.int)) (e : κ.2.2.2.2.2.2.2.2.2 = (some (.int v), σ')) {k72 : Int32 → Int32 → M2 → Option (Int32 × M2)} (hk72 : ∀ (x8' : Int32) (x9' : Int32) (σ : M2), k72 x8' x9' σ = some (v, σ') → J (ωM α) κ 9 10 72 [(0, .ref (wad (ωM α) 0)), (1, .int x1), (2, .int x2), (3, .int x3), (5, .int x5), (6, .int x6), (7, .int x7), (8, .int x8'), (9, .int x9')] [] σ) {σ : M2} (h : F12_kinds_173 fu k72 x1 x2 x3 x5 x6 x7 x9 y0 y1 σ = some (v, σ')) : J (ωM α) κ 9 10 173 [(0, .ref (wad (ωM α) 0)), (1, .int x1), (2, .int x2), (3, .int x3), (5, .int x5), (6, .int x6), (7, .int x7), (9, .int x9)] [.int y0, .int y1] σ := by
  unfold F12_kinds_173 at h
  refine j_ior C dX12_kinds_173 ?_
  refine j_istore (L' := [(8, .int (y1 ||| y0)), (0, .ref (wad (ωM α) 0)), (1, .int x1), (2, .int x2), (3, .int x3), (5, .int x5), (6, .int x6), (7, .int x7), (9, .int x9)]) C dX12_kinds_174 rfl rfl ?_
  refine j_iinc (L' := [(9, .int (x9 + 1)), (8, .int (y1 ||| y0)), (0, .ref (wad (ωM α) 0)), (1, .int x1), (2, .int x2), (3, .int x3), (5, .int x5), (6, .int x6), (7, .int x7)]) C 8 dX12_kinds_176 rfl rfl rfl rfl ?_
  refine j_goto (tgt := 72) C dX12_kinds_179 (by decide) ?_
  exact j_sub [2, 3, 4, 5, 6, 7, 8, 1, 0] rfl (hk72 _ _ _ h)
set_option maxRecDepth 10000 in
theorem b12_kinds_153 {α : WA} {κ : KT} {fu : Nat} {v : Int32} {σ' : M2} {x1 : Int32} {x2 : Int32} {x3 : Int32} {x5 : Int32} {x6 : Int32} {x7 : Int32} {x8 : Int32} {x9 : Int32} {y0 : Int32} {y1 : Int32} (C : Cx (ωM α) κ cX12_kinds 10 "EveryoneWinsModel" (some FieldType.int)) (e : κ.2.2.2.2.2.2.2.2.2 = (some (.int v), σ')) {k72 : Int32 → Int32 → M2 → Option (Int32 × M2)} (hk72 : ∀ (x8' : Int32) (x9' : Int32) (σ : M2), k72 x8' x9' σ = some (v, σ') → J (ωM α) κ 9 10 72 [(0, .ref (wad (ωM α) 0)), (1, .int x1), (2, .int x2), (3, .int x3), (5, .int x5), (6, .int x6), (7, .int x7), (8, .int x8'), (9, .int x9')] [] σ) {σ : M2} (h : F12_kinds_153 fu k72 x1 x2 x3 x5 x6 x7 x8 x9 y0 y1 σ = some (v, σ')) : J (ωM α) κ 9 10 153 [(0, .ref (wad (ωM α) 0)), (1, .int x1), (2, .int x2), (3, .int x3), (5, .int x5), (6, .int x6), (7, .int x7), (8, .int x8), (9, .int x9)] [.int y0, .int y1, .ref (wad (ωM α) 4)] σ := by
  unfold F12_kinds_153 at h
  obtain ⟨g1, h⟩ := gd_some h
  refine j_iastore (N := 12) C (rfl) (inb_in g1) dX12_kinds_153 ?_
  refine j_iload C 7 dX12_kinds_154 rfl ?_
  refine j_aload_n C 0 dX12_kinds_156 rfl ?_
  refine j_iload_n C 1 dX12_kinds_157 rfl ?_
  obtain ⟨r2, s3, hc4, h⟩ := bnd_some h
  refine k_V (v := some (.int r2)) C vb_X12_unlike (ci := 11) (T := TX12) (N := 45) rfl (by decide) (c12_unlike _ hc4) rfl (by decide) wd_1400 (rfl) rfl dX12_kinds_158 ?_
  show J (ωM α) κ _ _ 161 _ [.int r2, .int x8] s3
  refine j_iconst (v := -1) C dX12_kinds_161 (by decide) ?_
  refine j_icmp_ne (tgt := 172) C dX12_kinds_162 (by decide) (fun c5 => ?_) (fun c5 => ?_)
  · replace h := ie c5 h
    refine j_iconst (v := 0) C dX12_kinds_172 (by decide) ?_
    exact j_sub [0, 1, 2, 3, 4, 5, 6, 8] rfl (b12_kinds_173 C e hk72 h)
  · replace h := it c5 h
    refine j_iconst (v := 1) C dX12_kinds_165 (by decide) ?_
    refine j_iload C 8 dX12_kinds_166 rfl ?_
    refine j_ishl C dX12_kinds_168 ?_
    refine j_goto (tgt := 173) C dX12_kinds_169 (by decide) ?_
    exact j_sub [0, 1, 2, 3, 4, 5, 6, 8] rfl (b12_kinds_173 C e hk72 h)
set_option maxRecDepth 10000 in
theorem b12_kinds_131 {α : WA} {κ : KT} {fu : Nat} {v : Int32} {σ' : M2} {x1 : Int32} {x2 : Int32} {x3 : Int32} {x5 : Int32} {x6 : Int32} {x7 : Int32} {x8 : Int32} {x9 : Int32} {y0 : Int32} {y1 : Int32} (C : Cx (ωM α) κ cX12_kinds 10 "EveryoneWinsModel" (some FieldType.int)) (e : κ.2.2.2.2.2.2.2.2.2 = (some (.int v), σ')) {k72 : Int32 → Int32 → M2 → Option (Int32 × M2)} (hk72 : ∀ (x8' : Int32) (x9' : Int32) (σ : M2), k72 x8' x9' σ = some (v, σ') → J (ωM α) κ 9 10 72 [(0, .ref (wad (ωM α) 0)), (1, .int x1), (2, .int x2), (3, .int x3), (5, .int x5), (6, .int x6), (7, .int x7), (8, .int x8'), (9, .int x9')] [] σ) {σ : M2} (h : F12_kinds_131 fu k72 x1 x2 x3 x5 x6 x7 x8 x9 y0 y1 σ = some (v, σ')) : J (ωM α) κ 9 10 131 [(0, .ref (wad (ωM α) 0)), (1, .int x1), (2, .int x2), (3, .int x3), (5, .int x5), (6, .int x6), (7, .int x7), (8, .int x8), (9, .int x9)] [.int y0, .int y1, .ref (wad (ωM α) 3)] σ := by
  unfold F12_kinds_131 at h
  obtain ⟨g1, h⟩ := gd_some h
  refine j_iastore (N := 6) C (rfl) (inb_in g1) dX12_kinds_131 ?_
  refine j_aload_n C 0 dX12_kinds_132 rfl ?_
  refine j_getr (o := 0) (j := 5) C inT12 (ci := 11) rfl (by decide) (rfl) rfl rfl wd_1104 dX12_kinds_133 (o' := 4) rfl ?_
  refine j_iconst (v := 2) C dX12_kinds_136 (by decide) ?_
  refine j_iload_n C 2 dX12_kinds_137 rfl ?_
  refine j_imul C dX12_kinds_138 ?_
  refine j_iconst (v := 1) C dX12_kinds_139 (by decide) ?_
  refine j_iadd C dX12_kinds_140 ?_
  refine j_iload_n C 3 dX12_kinds_141 rfl ?_
  refine j_iconst (v := 2) C dX12_kinds_142 (by decide) ?_
  refine j_icmp_ne (tgt := 151) C dX12_kinds_143 (by decide) (fun c2 => ?_) (fun c2 => ?_)
  · replace h := ie c2 h
    refine j_iload C 6 dX12_kinds_151 rfl ?_
    exact (b12_kinds_153 C e hk72 h)
  · replace h := it c2 h
    refine j_iload C 8 dX12_kinds_146 rfl ?_
    refine j_goto (tgt := 153) C dX12_kinds_148 (by decide) ?_
    exact (b12_kinds_153 C e hk72 h)
set_option maxRecDepth 10000 in
theorem b12_kinds_113 {α : WA} {κ : KT} {fu : Nat} {v : Int32} {σ' : M2} {x1 : Int32} {x2 : Int32} {x3 : Int32} {x5 : Int32} {x6 : Int32} {x7 : Int32} {x8 : Int32} {x9 : Int32} {y0 : Int32} {y1 : Int32} (C : Cx (ωM α) κ cX12_kinds 10 "EveryoneWinsModel" (some FieldType.int)) (e : κ.2.2.2.2.2.2.2.2.2 = (some (.int v), σ')) {k72 : Int32 → Int32 → M2 → Option (Int32 × M2)} (hk72 : ∀ (x8' : Int32) (x9' : Int32) (σ : M2), k72 x8' x9' σ = some (v, σ') → J (ωM α) κ 9 10 72 [(0, .ref (wad (ωM α) 0)), (1, .int x1), (2, .int x2), (3, .int x3), (5, .int x5), (6, .int x6), (7, .int x7), (8, .int x8'), (9, .int x9')] [] σ) {σ : M2} (h : F12_kinds_113 fu k72 x1 x2 x3 x5 x6 x7 x8 x9 y0 y1 σ = some (v, σ')) : J (ωM α) κ 9 10 113 [(0, .ref (wad (ωM α) 0)), (1, .int x1), (2, .int x2), (3, .int x3), (5, .int x5), (6, .int x6), (7, .int x7), (8, .int x8), (9, .int x9)] [.int y0, .int y1, .ref (wad (ωM α) 2)] σ := by
  unfold F12_kinds_113 at h
  obtain ⟨g1, h⟩ := gd_some h
  refine j_iastore (N := 6) C (rfl) (inb_in g1) dX12_kinds_113 ?_
  refine j_aload_n C 0 dX12_kinds_114 rfl ?_
  refine j_getr (o := 0) (j := 4) C inT12 (ci := 11) rfl (by decide) (rfl) rfl rfl wd_1103 dX12_kinds_115 (o' := 3) rfl ?_
  refine j_iload_n C 2 dX12_kinds_118 rfl ?_
  refine j_iload_n C 3 dX12_kinds_119 rfl ?_
  refine j_iconst (v := 1) C dX12_kinds_120 (by decide) ?_
  refine j_icmp_ne (tgt := 129) C dX12_kinds_121 (by decide) (fun c2 => ?_) (fun c2 => ?_)
  · replace h := ie c2 h
    refine j_iload C 5 dX12_kinds_129 rfl ?_
    exact (b12_kinds_131 C e hk72 h)
  · replace h := it c2 h
    refine j_iload C 8 dX12_kinds_124 rfl ?_
    refine j_goto (tgt := 131) C dX12_kinds_126 (by decide) ?_
    exact (b12_kinds_131 C e hk72 h)
set_option maxRecDepth 10000 in
theorem b12_kinds_94 {α : WA} {κ : KT} {fu : Nat} {v : Int32} {σ' : M2} {x1 : Int32} {x2 : Int32} {x3 : Int32} {x5 : Int32} {x6 : Int32} {x7 : Int32} {x8 : Int32} {x9 : Int32} {y0 : Int32} {y1 : Int32} (C : Cx (ωM α) κ cX12_kinds 10 "EveryoneWinsModel" (some FieldType.int)) (e : κ.2.2.2.2.2.2.2.2.2 = (some (.int v), σ')) {k72 : Int32 → Int32 → M2 → Option (Int32 × M2)} (hk72 : ∀ (x8' : Int32) (x9' : Int32) (σ : M2), k72 x8' x9' σ = some (v, σ') → J (ωM α) κ 9 10 72 [(0, .ref (wad (ωM α) 0)), (1, .int x1), (2, .int x2), (3, .int x3), (5, .int x5), (6, .int x6), (7, .int x7), (8, .int x8'), (9, .int x9')] [] σ) {σ : M2} (h : F12_kinds_94 fu k72 x1 x2 x3 x5 x6 x7 x8 x9 y0 y1 σ = some (v, σ')) : J (ωM α) κ 9 10 94 [(0, .ref (wad (ωM α) 0)), (1, .int x1), (2, .int x2), (3, .int x3), (5, .int x5), (6, .int x6), (7, .int x7), (8, .int x8), (9, .int x9)] [.int y0, .int y1] σ := by
  unfold F12_kinds_94 at h
  refine j_icmp_ge (tgt := 182) C dX12_kinds_94 (by decide) (fun c1 => ?_) (fun c1 => ?_)
  · replace h := it c1 h
    refine j_aload_n C 0 dX12_kinds_182 rfl ?_
    refine j_getr (o := 0) (j := 3) C inT12 (ci := 11) rfl (by decide) (rfl) rfl rfl wd_1102 dX12_kinds_183 (o' := 2) rfl ?_
    refine j_iload_n C 2 dX12_kinds_186 rfl ?_
    refine j_iload C 4 dX12_kinds_187 rfl ?_
    obtain ⟨g2, h⟩ := gd_some h
    refine j_iastore (N := 6) C (rfl) (inb_in g2) dX12_kinds_189 ?_
    refine j_aload_n C 0 dX12_kinds_190 rfl ?_
    refine j_getr (o := 0) (j := 4) C inT12 (ci := 11) rfl (by decide) (rfl) rfl rfl wd_1103 dX12_kinds_191 (o' := 3) rfl ?_
    refine j_iload_n C 2 dX12_kinds_194 rfl ?_
    refine j_iload C 5 dX12_kinds_195 rfl ?_
    refine j_iastore (N := 6) C (rfl) (inb_in g2) dX12_kinds_197 ?_
    refine j_aload_n C 0 dX12_kinds_198 rfl ?_
    refine j_getr (o := 0) (j := 5) C inT12 (ci := 11) rfl (by decide) (rfl) rfl rfl wd_1104 dX12_kinds_199 (o' := 4) rfl ?_
    refine j_iconst (v := 2) C dX12_kinds_202 (by decide) ?_
    refine j_iload_n C 2 dX12_kinds_203 rfl ?_
    refine j_imul C dX12_kinds_204 ?_
    refine j_iconst (v := 1) C dX12_kinds_205 (by decide) ?_
    refine j_iadd C dX12_kinds_206 ?_
    refine j_iload C 6 dX12_kinds_207 rfl ?_
    obtain ⟨g3, h⟩ := gd_some h
    refine j_iastore (N := 12) C (rfl) (inb_in g3) dX12_kinds_209 ?_
    refine j_iload C 7 dX12_kinds_210 rfl ?_
    obtain ⟨hv, hs⟩ := s2_inj h
    subst hv
    subst hs
    exact j_iret C e dX12_kinds_212
  · replace h := ie c1 h
    refine j_aload_n C 0 dX12_kinds_97 rfl ?_
    refine j_getr (o := 0) (j := 3) C inT12 (ci := 11) rfl (by decide) (rfl) rfl rfl wd_1102 dX12_kinds_98 (o' := 2) rfl ?_
    refine j_iload_n C 2 dX12_kinds_101 rfl ?_
    refine j_iload_n C 3 dX12_kinds_102 rfl ?_
    refine j_if_ne (tgt := 111) C dX12_kinds_103 (by decide) (fun c4 => ?_) (fun c4 => ?_)
    · replace h := ie c4 h
      refine j_iload C 4 dX12_kinds_111 rfl ?_
      exact (b12_kinds_113 C e hk72 h)
    · replace h := it c4 h
      refine j_iload C 8 dX12_kinds_106 rfl ?_
      refine j_goto (tgt := 113) C dX12_kinds_108 (by decide) ?_
      exact (b12_kinds_113 C e hk72 h)
set_option maxRecDepth 10000 in
theorem b12_kinds_72 {α : WA} {κ : KT} {fu : Nat} {v : Int32} {σ' : M2} {x1 : Int32} {x2 : Int32} {x3 : Int32} {x5 : Int32} {x6 : Int32} {x7 : Int32} {x8 : Int32} {x9 : Int32} (C : Cx (ωM α) κ cX12_kinds 10 "EveryoneWinsModel" (some FieldType.int)) (e : κ.2.2.2.2.2.2.2.2.2 = (some (.int v), σ'))  {σ : M2} (h : F12_kinds_72 fu x1 x2 x3 x5 x6 x7 x8 x9 σ = some (v, σ')) : J (ωM α) κ 9 10 72 [(0, .ref (wad (ωM α) 0)), (1, .int x1), (2, .int x2), (3, .int x3), (5, .int x5), (6, .int x6), (7, .int x7), (8, .int x8), (9, .int x9)] [] σ := by
  unfold F12_kinds_72 at h
  refine wl2_ind (fun x8 x9 σ => J (ωM α) κ 9 10 72 [(0, .ref (wad (ωM α) 0)), (1, .int x1), (2, .int x2), (3, .int x3), (5, .int x5), (6, .int x6), (7, .int x7), (8, .int x8), (9, .int x9)] [] σ) ?_ fu x8 x9 σ h
  intro k72 hk72 x8 x9 σ h
  try dsimp only at h
  show J (ωM α) κ 9 10 72 [(0, .ref (wad (ωM α) 0)), (1, .int x1), (2, .int x2), (3, .int x3), (5, .int x5), (6, .int x6), (7, .int x7), (8, .int x8), (9, .int x9)] [] σ
  refine j_iload C 8 dX12_kinds_72 rfl ?_
  refine j_iload_n C 3 dX12_kinds_74 rfl ?_
  refine j_if_ne (tgt := 83) C dX12_kinds_75 (by decide) (fun c1 => ?_) (fun c1 => ?_)
  · replace h := ie c1 h
    refine j_iload_n C 3 dX12_kinds_83 rfl ?_
    refine j_iconst (v := 1) C dX12_kinds_84 (by decide) ?_
    refine j_icmp_ne (tgt := 93) C dX12_kinds_85 (by decide) (fun c2 => ?_) (fun c2 => ?_)
    · replace h := ie c2 h
      refine j_iconst (v := 4) C dX12_kinds_93 (by decide) ?_
      exact (b12_kinds_94 C e hk72 h)
    · replace h := it c2 h
      refine j_bipush (v := 10) C dX12_kinds_88 (by decide) ?_
      refine j_goto (tgt := 94) C dX12_kinds_90 (by decide) ?_
      exact (b12_kinds_94 C e hk72 h)
  · replace h := it c1 h
    refine j_bipush (v := 6) C dX12_kinds_78 (by decide) ?_
    refine j_goto (tgt := 94) C dX12_kinds_80 (by decide) ?_
    exact (b12_kinds_94 C e hk72 h)
set_option maxRecDepth 10000 in
theorem c12_kinds (l : Launch) {α : WA} {fu : Nat} {a1 : Int32} {a2 : Int32} {a3 : Int32} {σ σ' : M2} {v : Int32}  (h : F12_kinds fu a1 a2 a3 σ = some (v, σ')) : Ct l (ωM α) yX12_kinds cX12_kinds 10 (some FieldType.int) 9 [.ref (wad (ωM α) 0), .int a1, .int a2, .int a3] σ (some (.int v)) σ' := by
  unfold F12_kinds at h
  refine Ct.of (own := "EveryoneWinsModel") (L := [(0, .ref (wad (ωM α) 0)), (1, .int a1), (2, .int a2), (3, .int a3)]) (by decide +kernel) rfl rfl rfl (fun κ hl e C => ?_)
  show J (ωM α) κ 9 10 0 [(0, .ref (wad (ωM α) 0)), (1, .int a1), (2, .int a2), (3, .int a3)] [] σ
  refine j_aload_n C 0 dX12_kinds_0 rfl ?_
  refine j_iload_n C 1 dX12_kinds_1 rfl ?_
  obtain ⟨r1, s2, hc3, h⟩ := bnd_some h
  refine k_V (v := some (.int r1)) C vb_X12_sheetWrong (ci := 11) (T := TX12) (N := 45) rfl (by decide) (c12_sheetWrong _ hc3) rfl (by decide) wd_1396 (rfl) rfl dX12_kinds_2 ?_
  show J (ωM α) κ _ _ 5 _ [.int r1] s2
  refine j_istore (L' := [(4, .int r1), (0, .ref (wad (ωM α) 0)), (1, .int a1), (2, .int a2), (3, .int a3)]) C dX12_kinds_5 rfl rfl ?_
  refine j_iload C 0 dX12_kinds_7 rfl ?_
  refine j_if_eq (tgt := 15) C dX12_kinds_9 (by decide) (fun c4 => ?_) (fun c4 => ?_)
  · replace h := it c4 h
    refine j_aload_n C 1 dX12_kinds_15 rfl ?_
    refine j_iload_n C 3 dX12_kinds_16 rfl ?_
    obtain ⟨r5, s6, hc7, h⟩ := bnd_some h
    refine k_V (v := some (.int r5)) C vb_X12_isRace (ci := 11) (T := TX12) (N := 45) rfl (by decide) (c12_isRace _ hc7) rfl (by decide) wd_1271 (rfl) rfl dX12_kinds_17 ?_
    show J (ωM α) κ _ _ 20 _ [.int r5] s6
    refine j_if_ne (tgt := 26) C dX12_kinds_20 (by decide) (fun c8 => ?_) (fun c8 => ?_)
    · replace h := ie c8 h
      refine j_iload_n C 4 dX12_kinds_26 rfl ?_
      refine j_iconst (v := 0) C dX12_kinds_27 (by decide) ?_
      refine j_iconst (v := 2) C dX12_kinds_28 (by decide) ?_
      obtain ⟨r9, s10, hc11, h⟩ := bnd_some h
      refine k_S (v := some (.int r9)) C sb_X12_in (c12_in _ hc11) rfl (by decide) wd_1060 rfl dX12_kinds_29 ?_
      show J (ωM α) κ _ _ 32 _ [.int r9] s10
      refine j_if_ne (tgt := 38) C dX12_kinds_32 (by decide) (fun c12 => ?_) (fun c12 => ?_)
      · replace h := ie c12 h
        refine j_aload_n C 1 dX12_kinds_38 rfl ?_
        refine j_getr (o := 0) (j := 3) C inT12 (ci := 11) rfl (by decide) (rfl) rfl rfl wd_1102 dX12_kinds_39 (o' := 2) rfl ?_
        refine j_iload_n C 3 dX12_kinds_42 rfl ?_
        obtain ⟨g13, h⟩ := gd_some h
        refine j_iaload (N := 6) C (rfl) (inb_in g13) dX12_kinds_43 ?_
        refine j_istore (L' := [(5, .int (s10 2 a2.toNatClampNeg)), (4, .int r1), (0, .ref (wad (ωM α) 0)), (1, .int a1), (2, .int a2), (3, .int a3)]) C dX12_kinds_44 rfl rfl ?_
        refine j_aload_n C 2 dX12_kinds_46 rfl ?_
        refine j_getr (o := 0) (j := 4) C inT12 (ci := 11) rfl (by decide) (rfl) rfl rfl wd_1103 dX12_kinds_47 (o' := 3) rfl ?_
        refine j_iload_n C 4 dX12_kinds_50 rfl ?_
        refine j_iaload (N := 6) C (rfl) (inb_in g13) dX12_kinds_51 ?_
        refine j_istore (L' := [(6, .int (s10 3 a2.toNatClampNeg)), (5, .int (s10 2 a2.toNatClampNeg)), (4, .int r1), (0, .ref (wad (ωM α) 0)), (1, .int a1), (2, .int a2), (3, .int a3)]) C dX12_kinds_52 rfl rfl ?_
        refine j_aload_n C 3 dX12_kinds_54 rfl ?_
        refine j_getr (o := 0) (j := 5) C inT12 (ci := 11) rfl (by decide) (rfl) rfl rfl wd_1104 dX12_kinds_55 (o' := 4) rfl ?_
        refine j_iconst (v := 2) C dX12_kinds_58 (by decide) ?_
        refine j_iload_n C 5 dX12_kinds_59 rfl ?_
        refine j_imul C dX12_kinds_60 ?_
        refine j_iconst (v := 1) C dX12_kinds_61 (by decide) ?_
        refine j_iadd C dX12_kinds_62 ?_
        obtain ⟨g14, h⟩ := gd_some h
        refine j_iaload (N := 12) C (rfl) (inb_in g14) dX12_kinds_63 ?_
        refine j_istore (L' := [(7, .int (s10 4 (((2 : Int32) * a2) + (1 : Int32)).toNatClampNeg)), (6, .int (s10 3 a2.toNatClampNeg)), (5, .int (s10 2 a2.toNatClampNeg)), (4, .int r1), (0, .ref (wad (ωM α) 0)), (1, .int a1), (2, .int a2), (3, .int a3)]) C dX12_kinds_64 rfl rfl ?_
        refine j_iconst (v := 0) C dX12_kinds_66 (by decide) ?_
        refine j_istore (L' := [(8, .int (0 : Int32)), (7, .int (s10 4 (((2 : Int32) * a2) + (1 : Int32)).toNatClampNeg)), (6, .int (s10 3 a2.toNatClampNeg)), (5, .int (s10 2 a2.toNatClampNeg)), (4, .int r1), (0, .ref (wad (ωM α) 0)), (1, .int a1), (2, .int a2), (3, .int a3)]) C dX12_kinds_67 rfl rfl ?_
        refine j_iconst (v := 0) C dX12_kinds_69 (by decide) ?_
        refine j_istore (L' := [(9, .int (0 : Int32)), (8, .int (0 : Int32)), (7, .int (s10 4 (((2 : Int32) * a2) + (1 : Int32)).toNatClampNeg)), (6, .int (s10 3 a2.toNatClampNeg)), (5, .int (s10 2 a2.toNatClampNeg)), (4, .int r1), (0, .ref (wad (ωM α) 0)), (1, .int a1), (2, .int a2), (3, .int a3)]) C dX12_kinds_70 rfl rfl ?_
        exact j_sub [6, 7, 8, 9, 4, 3, 2, 1, 0] rfl (b12_kinds_72 C e h)
      · replace h := it c12 h
        refine j_bipush (v := -7) C dX12_kinds_35 (by decide) ?_
        obtain ⟨hv, hs⟩ := s2_inj h
        subst hv
        subst hs
        exact j_iret C e dX12_kinds_37
    · replace h := it c8 h
      refine j_bipush (v := -6) C dX12_kinds_23 (by decide) ?_
      obtain ⟨hv, hs⟩ := s2_inj h
      subst hv
      subst hs
      exact j_iret C e dX12_kinds_25
  · replace h := ie c4 h
    refine j_iload C 0 dX12_kinds_12 rfl ?_
    obtain ⟨hv, hs⟩ := s2_inj h
    subst hv
    subst hs
    exact j_iret C e dX12_kinds_14
set_option maxRecDepth 10000 in
theorem b12_quick_140 {α : WA} {κ : KT} {fu : Nat} {v : Int32} {σ' : M2} {x1 : Int32} {x3 : Int32} {x5 : Int32} {x6 : Int32} {x7 : Int32} {x9 : Int32} {y0 : Int32} (C : Cx (ωM α) κ cX12_quick 11 "EveryoneWinsModel" (some FieldType.int)) (e : κ.2.2.2.2.2.2.2.2.2 = (some (.int v), σ')) {k75 : Int32 → Int32 → Int32 → M2 → Option (Int32 × M2)} (hk75 : ∀ (x7' : Int32) (x8' : Int32) (x9' : Int32) (σ : M2), k75 x7' x8' x9' σ = some (v, σ') → J (ωM α) κ 9 11 75 [(0, .ref (wad (ωM α) 0)), (1, .int x1), (3, .int x3), (5, .int x5), (6, .int x6), (7, .int x7'), (8, .int x8'), (9, .int x9')] [] σ) {σ : M2} (h : F12_quick_140 fu k75 x1 x3 x5 x6 x7 x9 y0 σ = some (v, σ')) : J (ωM α) κ 9 11 140 [(0, .ref (wad (ωM α) 0)), (1, .int x1), (3, .int x3), (5, .int x5), (6, .int x6), (7, .int x7), (9, .int x9)] [.int y0] σ := by
  unfold F12_quick_140 at h
  refine j_istore (L' := [(8, .int y0), (0, .ref (wad (ωM α) 0)), (1, .int x1), (3, .int x3), (5, .int x5), (6, .int x6), (7, .int x7), (9, .int x9)]) C dX12_quick_140 rfl rfl ?_
  refine j_iinc (L' := [(9, .int (x9 + 1)), (8, .int y0), (0, .ref (wad (ωM α) 0)), (1, .int x1), (3, .int x3), (5, .int x5), (6, .int x6), (7, .int x7)]) C 7 dX12_quick_142 rfl rfl rfl rfl ?_
  refine j_goto (tgt := 75) C dX12_quick_145 (by decide) ?_
  exact j_sub [2, 3, 4, 5, 6, 7, 1, 0] rfl (hk75 _ _ _ _ h)
set_option maxRecDepth 10000 in
theorem b12_quick_138 {α : WA} {κ : KT} {fu : Nat} {v : Int32} {σ' : M2} {x1 : Int32} {x3 : Int32} {x5 : Int32} {x6 : Int32} {x7 : Int32} {x8 : Int32} {x9 : Int32} (C : Cx (ωM α) κ cX12_quick 11 "EveryoneWinsModel" (some FieldType.int)) (e : κ.2.2.2.2.2.2.2.2.2 = (some (.int v), σ')) {k75 : Int32 → Int32 → Int32 → M2 → Option (Int32 × M2)} (hk75 : ∀ (x7' : Int32) (x8' : Int32) (x9' : Int32) (σ : M2), k75 x7' x8' x9' σ = some (v, σ') → J (ωM α) κ 9 11 75 [(0, .ref (wad (ωM α) 0)), (1, .int x1), (3, .int x3), (5, .int x5), (6, .int x6), (7, .int x7'), (8, .int x8'), (9, .int x9')] [] σ) {σ : M2} (h : F12_quick_138 fu k75 x1 x3 x5 x6 x7 x8 x9 σ = some (v, σ')) : J (ωM α) κ 9 11 138 [(0, .ref (wad (ωM α) 0)), (1, .int x1), (3, .int x3), (5, .int x5), (6, .int x6), (7, .int x7), (8, .int x8), (9, .int x9)] [] σ := by
  unfold F12_quick_138 at h
  refine j_iload C 6 dX12_quick_138 rfl ?_
  exact j_sub [0, 1, 2, 3, 4, 5, 7] rfl (b12_quick_140 C e hk75 h)
set_option maxRecDepth 10000 in
theorem b12_quick_119 {α : WA} {κ : KT} {fu : Nat} {v : Int32} {σ' : M2} {x1 : Int32} {x3 : Int32} {x5 : Int32} {x6 : Int32} {x8 : Int32} {x9 : Int32} {x10 : Int32} {y0 : Int32} {y1 : Int32} (C : Cx (ωM α) κ cX12_quick 11 "EveryoneWinsModel" (some FieldType.int)) (e : κ.2.2.2.2.2.2.2.2.2 = (some (.int v), σ')) {k75 : Int32 → Int32 → Int32 → M2 → Option (Int32 × M2)} (hk75 : ∀ (x7' : Int32) (x8' : Int32) (x9' : Int32) (σ : M2), k75 x7' x8' x9' σ = some (v, σ') → J (ωM α) κ 9 11 75 [(0, .ref (wad (ωM α) 0)), (1, .int x1), (3, .int x3), (5, .int x5), (6, .int x6), (7, .int x7'), (8, .int x8'), (9, .int x9')] [] σ) {σ : M2} (h : F12_quick_119 fu k75 x1 x3 x5 x6 x8 x9 x10 y0 y1 σ = some (v, σ')) : J (ωM α) κ 9 11 119 [(0, .ref (wad (ωM α) 0)), (1, .int x1), (3, .int x3), (5, .int x5), (6, .int x6), (8, .int x8), (9, .int x9), (10, .int x10)] [.int y0, .int y1] σ := by
  unfold F12_quick_119 at h
  refine j_iadd C dX12_quick_119 ?_
  refine j_istore (L' := [(7, .int (y1 + y0)), (0, .ref (wad (ωM α) 0)), (1, .int x1), (3, .int x3), (5, .int x5), (6, .int x6), (8, .int x8), (9, .int x9), (10, .int x10)]) C dX12_quick_120 rfl rfl ?_
  refine j_iload C 8 dX12_quick_122 rfl ?_
  refine j_if_eq (tgt := 138) C dX12_quick_124 (by decide) (fun c1 => ?_) (fun c1 => ?_)
  · replace h := it c1 h
    exact j_sub [1, 2, 3, 4, 5, 0, 6, 7] rfl (b12_quick_138 C e hk75 h)
  · replace h := ie c1 h
    refine j_iload C 6 dX12_quick_127 rfl ?_
    refine j_iconst (v := -1) C dX12_quick_129 (by decide) ?_
    refine j_icmp_ne (tgt := 138) C dX12_quick_130 (by decide) (fun c2 => ?_) (fun c2 => ?_)
    · replace h := ie c2 h
      exact j_sub [1, 2, 3, 4, 5, 0, 6, 7] rfl (b12_quick_138 C e hk75 h)
    · replace h := it c2 h
      refine j_iload C 7 dX12_quick_133 rfl ?_
      refine j_goto (tgt := 140) C dX12_quick_135 (by decide) ?_
      exact j_sub [1, 2, 3, 4, 5, 0, 7] rfl (b12_quick_140 C e hk75 h)
set_option maxRecDepth 10000 in
theorem b12_quick_105 {α : WA} {κ : KT} {fu : Nat} {v : Int32} {σ' : M2} {x1 : Int32} {x3 : Int32} {x5 : Int32} {x6 : Int32} {x7 : Int32} {x8 : Int32} {x9 : Int32} {y0 : Int32} (C : Cx (ωM α) κ cX12_quick 11 "EveryoneWinsModel" (some FieldType.int)) (e : κ.2.2.2.2.2.2.2.2.2 = (some (.int v), σ')) {k75 : Int32 → Int32 → Int32 → M2 → Option (Int32 × M2)} (hk75 : ∀ (x7' : Int32) (x8' : Int32) (x9' : Int32) (σ : M2), k75 x7' x8' x9' σ = some (v, σ') → J (ωM α) κ 9 11 75 [(0, .ref (wad (ωM α) 0)), (1, .int x1), (3, .int x3), (5, .int x5), (6, .int x6), (7, .int x7'), (8, .int x8'), (9, .int x9')] [] σ) {σ : M2} (h : F12_quick_105 fu k75 x1 x3 x5 x6 x7 x8 x9 y0 σ = some (v, σ')) : J (ωM α) κ 9 11 105 [(0, .ref (wad (ωM α) 0)), (1, .int x1), (3, .int x3), (5, .int x5), (6, .int x6), (7, .int x7), (8, .int x8), (9, .int x9)] [.int y0] σ := by
  unfold F12_quick_105 at h
  refine j_istore (L' := [(10, .int y0), (0, .ref (wad (ωM α) 0)), (1, .int x1), (3, .int x3), (5, .int x5), (6, .int x6), (7, .int x7), (8, .int x8), (9, .int x9)]) C dX12_quick_105 rfl rfl ?_
  refine j_iload C 6 dX12_quick_107 rfl ?_
  refine j_iload C 0 dX12_quick_109 rfl ?_
  refine j_if_eq (tgt := 118) C dX12_quick_111 (by decide) (fun c1 => ?_) (fun c1 => ?_)
  · replace h := it c1 h
    refine j_iconst (v := 0) C dX12_quick_118 (by decide) ?_
    exact j_sub [1, 2, 3, 4, 5, 7, 8, 0] rfl (b12_quick_119 C e hk75 h)
  · replace h := ie c1 h
    refine j_iconst (v := 1) C dX12_quick_114 (by decide) ?_
    refine j_goto (tgt := 119) C dX12_quick_115 (by decide) ?_
    exact j_sub [1, 2, 3, 4, 5, 7, 8, 0] rfl (b12_quick_119 C e hk75 h)
set_option maxRecDepth 10000 in
theorem b12_quick_75 {α : WA} {κ : KT} {fu : Nat} {v : Int32} {σ' : M2} {x1 : Int32} {x3 : Int32} {x5 : Int32} {x6 : Int32} {x7 : Int32} {x8 : Int32} {x9 : Int32} (C : Cx (ωM α) κ cX12_quick 11 "EveryoneWinsModel" (some FieldType.int)) (e : κ.2.2.2.2.2.2.2.2.2 = (some (.int v), σ'))  {σ : M2} (h : F12_quick_75 fu x1 x3 x5 x6 x7 x8 x9 σ = some (v, σ')) : J (ωM α) κ 9 11 75 [(0, .ref (wad (ωM α) 0)), (1, .int x1), (3, .int x3), (5, .int x5), (6, .int x6), (7, .int x7), (8, .int x8), (9, .int x9)] [] σ := by
  unfold F12_quick_75 at h
  refine wl3_ind (fun x7 x8 x9 σ => J (ωM α) κ 9 11 75 [(0, .ref (wad (ωM α) 0)), (1, .int x1), (3, .int x3), (5, .int x5), (6, .int x6), (7, .int x7), (8, .int x8), (9, .int x9)] [] σ) ?_ fu x7 x8 x9 σ h
  intro k75 hk75 x7 x8 x9 σ h
  try dsimp only at h
  show J (ωM α) κ 9 11 75 [(0, .ref (wad (ωM α) 0)), (1, .int x1), (3, .int x3), (5, .int x5), (6, .int x6), (7, .int x7), (8, .int x8), (9, .int x9)] [] σ
  refine j_iload C 7 dX12_quick_75 rfl ?_
  refine j_bipush (v := 99) C dX12_quick_77 (by decide) ?_
  refine j_icmp_gt (tgt := 148) C dX12_quick_79 (by decide) (fun c1 => ?_) (fun c1 => ?_)
  · replace h := it c1 h
    refine j_aload_n C 0 dX12_quick_148 rfl ?_
    refine j_getr (o := 0) (j := 1) C inT12 (ci := 11) rfl (by decide) (rfl) rfl rfl wd_1100 dX12_quick_149 (o' := 1) rfl ?_
    refine j_iload C 3 dX12_quick_152 rfl ?_
    refine j_iload C 4 dX12_quick_154 rfl ?_
    obtain ⟨g2, h⟩ := gd_some h
    refine j_iastore (N := 24) C (rfl) (inb_in g2) dX12_quick_156 ?_
    refine j_iload_n C 2 dX12_quick_157 rfl ?_
    refine j_bipush (v := 10) C dX12_quick_158 (by decide) ?_
    refine j_irem C dX12_quick_160 (by decide) ?_
    refine j_if_ne (tgt := 169) C dX12_quick_161 (by decide) (fun c3 => ?_) (fun c3 => ?_)
    · replace h := ie c3 h
      refine j_iload C 6 dX12_quick_169 rfl ?_
      obtain ⟨hv, hs⟩ := s2_inj h
      subst hv
      subst hs
      exact j_iret C e dX12_quick_171
    · replace h := it c3 h
      refine j_iload C 5 dX12_quick_164 rfl ?_
      refine j_goto (tgt := 171) C dX12_quick_166 (by decide) ?_
      obtain ⟨hv, hs⟩ := s2_inj h
      subst hv
      subst hs
      exact j_iret C e dX12_quick_171
  · replace h := ie c1 h
    refine j_aload_n C 0 dX12_quick_82 rfl ?_
    refine j_getr (o := 0) (j := 1) C inT12 (ci := 11) rfl (by decide) (rfl) rfl rfl wd_1100 dX12_quick_83 (o' := 1) rfl ?_
    refine j_iload C 3 dX12_quick_86 rfl ?_
    refine j_iload C 7 dX12_quick_88 rfl ?_
    obtain ⟨g4, h⟩ := gd_some h
    refine j_iastore (N := 24) C (rfl) (inb_in g4) dX12_quick_90 ?_
    refine j_aload_n C 0 dX12_quick_91 rfl ?_
    refine j_iload_n C 1 dX12_quick_92 rfl ?_
    obtain ⟨r5, s6, hc7, h⟩ := bnd_some h
    refine k_V (v := some (.int r5)) C vb_X12_unlike (ci := 11) (T := TX12) (N := 45) rfl (by decide) (c12_unlike _ hc7) rfl (by decide) wd_1400 (rfl) rfl dX12_quick_93 ?_
    show J (ωM α) κ _ _ 96 _ [.int r5] s6
    refine j_iconst (v := -1) C dX12_quick_96 (by decide) ?_
    refine j_icmp_ne (tgt := 104) C dX12_quick_97 (by decide) (fun c8 => ?_) (fun c8 => ?_)
    · replace h := ie c8 h
      refine j_iconst (v := 0) C dX12_quick_104 (by decide) ?_
      exact (b12_quick_105 C e hk75 h)
    · replace h := it c8 h
      refine j_iconst (v := 1) C dX12_quick_100 (by decide) ?_
      refine j_goto (tgt := 105) C dX12_quick_101 (by decide) ?_
      exact (b12_quick_105 C e hk75 h)
set_option maxRecDepth 10000 in
theorem c12_quick (l : Launch) {α : WA} {fu : Nat} {a1 : Int32} {a2 : Int32} {a3 : Int32} {σ σ' : M2} {v : Int32}  (h : F12_quick fu a1 a2 a3 σ = some (v, σ')) : Ct l (ωM α) yX12_quick cX12_quick 11 (some FieldType.int) 9 [.ref (wad (ωM α) 0), .int a1, .int a2, .int a3] σ (some (.int v)) σ' := by
  unfold F12_quick at h
  refine Ct.of (own := "EveryoneWinsModel") (L := [(0, .ref (wad (ωM α) 0)), (1, .int a1), (2, .int a2), (3, .int a3)]) (by decide +kernel) rfl rfl rfl (fun κ hl e C => ?_)
  show J (ωM α) κ 9 11 0 [(0, .ref (wad (ωM α) 0)), (1, .int a1), (2, .int a2), (3, .int a3)] [] σ
  refine j_aload_n C 0 dX12_quick_0 rfl ?_
  refine j_iload_n C 1 dX12_quick_1 rfl ?_
  obtain ⟨r1, s2, hc3, h⟩ := bnd_some h
  refine k_V (v := some (.int r1)) C vb_X12_sheetWrong (ci := 11) (T := TX12) (N := 45) rfl (by decide) (c12_sheetWrong _ hc3) rfl (by decide) wd_1396 (rfl) rfl dX12_quick_2 ?_
  show J (ωM α) κ _ _ 5 _ [.int r1] s2
  refine j_istore (L' := [(4, .int r1), (0, .ref (wad (ωM α) 0)), (1, .int a1), (2, .int a2), (3, .int a3)]) C dX12_quick_5 rfl rfl ?_
  refine j_iload C 0 dX12_quick_7 rfl ?_
  refine j_if_eq (tgt := 15) C dX12_quick_9 (by decide) (fun c4 => ?_) (fun c4 => ?_)
  · replace h := it c4 h
    refine j_aload_n C 1 dX12_quick_15 rfl ?_
    refine j_iload_n C 3 dX12_quick_16 rfl ?_
    obtain ⟨r5, s6, hc7, h⟩ := bnd_some h
    refine k_V (v := some (.int r5)) C vb_X12_isChild (ci := 11) (T := TX12) (N := 45) rfl (by decide) (c12_isChild _ hc7) rfl (by decide) wd_1247 (rfl) rfl dX12_quick_17 ?_
    show J (ωM α) κ _ _ 20 _ [.int r5] s6
    refine j_if_ne (tgt := 26) C dX12_quick_20 (by decide) (fun c8 => ?_) (fun c8 => ?_)
    · replace h := ie c8 h
      refine j_iload_n C 4 dX12_quick_26 rfl ?_
      refine j_iconst (v := 0) C dX12_quick_27 (by decide) ?_
      refine j_bipush (v := 21) C dX12_quick_28 (by decide) ?_
      obtain ⟨r9, s10, hc11, h⟩ := bnd_some h
      refine k_S (v := some (.int r9)) C sb_X12_in (c12_in _ hc11) rfl (by decide) wd_1060 rfl dX12_quick_30 ?_
      show J (ωM α) κ _ _ 33 _ [.int r9] s10
      refine j_if_eq (tgt := 44) C dX12_quick_33 (by decide) (fun c12 => ?_) (fun c12 => ?_)
      · replace h := it c12 h
        refine j_bipush (v := -7) C dX12_quick_44 (by decide) ?_
        obtain ⟨hv, hs⟩ := s2_inj h
        subst hv
        subst hs
        exact j_iret C e dX12_quick_46
      · replace h := ie c12 h
        refine j_iload_n C 4 dX12_quick_36 rfl ?_
        refine j_bipush (v := 10) C dX12_quick_37 (by decide) ?_
        refine j_irem C dX12_quick_39 (by decide) ?_
        refine j_iconst (v := 1) C dX12_quick_40 (by decide) ?_
        refine j_icmp_le (tgt := 47) C dX12_quick_41 (by decide) (fun c13 => ?_) (fun c13 => ?_)
        · replace h := it c13 h
          refine j_iconst (v := 3) C dX12_quick_47 (by decide) ?_
          refine j_iload_n C 3 dX12_quick_48 rfl ?_
          refine j_imul C dX12_quick_49 ?_
          refine j_iload_n C 4 dX12_quick_50 rfl ?_
          refine j_bipush (v := 10) C dX12_quick_51 (by decide) ?_
          refine j_idiv C dX12_quick_53 (by decide) ?_
          refine j_iadd C dX12_quick_54 ?_
          refine j_istore (L' := [(5, .int (((3 : Int32) * a2) + (a3 / (10 : Int32)))), (4, .int r1), (0, .ref (wad (ωM α) 0)), (1, .int a1), (2, .int a2), (3, .int a3)]) C dX12_quick_55 rfl rfl ?_
          refine j_aload_n C 2 dX12_quick_57 rfl ?_
          refine j_getr (o := 0) (j := 1) C inT12 (ci := 11) rfl (by decide) (rfl) rfl rfl wd_1100 dX12_quick_58 (o' := 1) rfl ?_
          refine j_iload C 0 dX12_quick_61 rfl ?_
          obtain ⟨g14, h⟩ := gd_some h
          refine j_iaload (N := 24) C (rfl) (inb_in g14) dX12_quick_63 ?_
          refine j_istore (L' := [(6, .int (s10 1 (((3 : Int32) * a2) + (a3 / (10 : Int32))).toNatClampNeg)), (5, .int (((3 : Int32) * a2) + (a3 / (10 : Int32)))), (4, .int r1), (0, .ref (wad (ωM α) 0)), (1, .int a1), (2, .int a2), (3, .int a3)]) C dX12_quick_64 rfl rfl ?_
          refine j_iconst (v := 0) C dX12_quick_66 (by decide) ?_
          refine j_istore (L' := [(7, .int (0 : Int32)), (6, .int (s10 1 (((3 : Int32) * a2) + (a3 / (10 : Int32))).toNatClampNeg)), (5, .int (((3 : Int32) * a2) + (a3 / (10 : Int32)))), (4, .int r1), (0, .ref (wad (ωM α) 0)), (1, .int a1), (2, .int a2), (3, .int a3)]) C dX12_quick_67 rfl rfl ?_
          refine j_iconst (v := -1) C dX12_quick_69 (by decide) ?_
          refine j_istore (L' := [(8, .int (-1 : Int32)), (7, .int (0 : Int32)), (6, .int (s10 1 (((3 : Int32) * a2) + (a3 / (10 : Int32))).toNatClampNeg)), (5, .int (((3 : Int32) * a2) + (a3 / (10 : Int32)))), (4, .int r1), (0, .ref (wad (ωM α) 0)), (1, .int a1), (2, .int a2), (3, .int a3)]) C dX12_quick_70 rfl rfl ?_
          refine j_iconst (v := 0) C dX12_quick_72 (by decide) ?_
          refine j_istore (L' := [(9, .int (0 : Int32)), (8, .int (-1 : Int32)), (7, .int (0 : Int32)), (6, .int (s10 1 (((3 : Int32) * a2) + (a3 / (10 : Int32))).toNatClampNeg)), (5, .int (((3 : Int32) * a2) + (a3 / (10 : Int32)))), (4, .int r1), (0, .ref (wad (ωM α) 0)), (1, .int a1), (2, .int a2), (3, .int a3)]) C dX12_quick_73 rfl rfl ?_
          exact j_sub [6, 7, 9, 4, 3, 2, 1, 0] rfl (b12_quick_75 C e h)
        · replace h := ie c13 h
          refine j_bipush (v := -7) C dX12_quick_44 (by decide) ?_
          obtain ⟨hv, hs⟩ := s2_inj h
          subst hv
          subst hs
          exact j_iret C e dX12_quick_46
    · replace h := it c8 h
      refine j_bipush (v := -5) C dX12_quick_23 (by decide) ?_
      obtain ⟨hv, hs⟩ := s2_inj h
      subst hv
      subst hs
      exact j_iret C e dX12_quick_25
  · replace h := ie c4 h
    refine j_iload C 0 dX12_quick_12 rfl ?_
    obtain ⟨hv, hs⟩ := s2_inj h
    subst hv
    subst hs
    exact j_iret C e dX12_quick_14
set_option maxRecDepth 10000 in
theorem b12_laws_57 {α : WA} {κ : KT} {fu : Nat} {v : Int32} {σ' : M2} {x1 : Int32} {x3 : Int32} {x5 : Int32} {y0 : Int32} {y1 : Int32} (C : Cx (ωM α) κ cX12_laws 6 "EveryoneWinsModel" (some FieldType.int)) (e : κ.2.2.2.2.2.2.2.2.2 = (some (.int v), σ')) {k23 : Int32 → Int32 → M2 → Option (Int32 × M2)} (hk23 : ∀ (x4' : Int32) (x5' : Int32) (σ : M2), k23 x4' x5' σ = some (v, σ') → J (ωM α) κ 9 6 23 [(0, .ref (wad (ωM α) 0)), (1, .int x1), (3, .int x3), (4, .int x4'), (5, .int x5')] [] σ) {σ : M2} (h : F12_laws_57 fu k23 x1 x3 x5 y0 y1 σ = some (v, σ')) : J (ωM α) κ 9 6 57 [(0, .ref (wad (ωM α) 0)), (1, .int x1), (3, .int x3), (5, .int x5)] [.int y0, .int y1] σ := by
  unfold F12_laws_57 at h
  refine j_ior C dX12_laws_57 ?_
  refine j_istore (L' := [(4, .int (y1 ||| y0)), (0, .ref (wad (ωM α) 0)), (1, .int x1), (3, .int x3), (5, .int x5)]) C dX12_laws_58 rfl rfl ?_
  refine j_iinc (L' := [(5, .int (x5 + 1)), (4, .int (y1 ||| y0)), (0, .ref (wad (ωM α) 0)), (1, .int x1), (3, .int x3)]) C 4 dX12_laws_60 rfl rfl rfl rfl ?_
  refine j_goto (tgt := 23) C dX12_laws_63 (by decide) ?_
  exact j_sub [2, 3, 4, 1, 0] rfl (hk23 _ _ _ h)
set_option maxRecDepth 10000 in
theorem b12_laws_23 {α : WA} {κ : KT} {fu : Nat} {v : Int32} {σ' : M2} {x1 : Int32} {x3 : Int32} {x4 : Int32} {x5 : Int32} (C : Cx (ωM α) κ cX12_laws 6 "EveryoneWinsModel" (some FieldType.int)) (e : κ.2.2.2.2.2.2.2.2.2 = (some (.int v), σ'))  {σ : M2} (h : F12_laws_23 fu x1 x3 x4 x5 σ = some (v, σ')) : J (ωM α) κ 9 6 23 [(0, .ref (wad (ωM α) 0)), (1, .int x1), (3, .int x3), (4, .int x4), (5, .int x5)] [] σ := by
  unfold F12_laws_23 at h
  refine wl2_ind (fun x4 x5 σ => J (ωM α) κ 9 6 23 [(0, .ref (wad (ωM α) 0)), (1, .int x1), (3, .int x3), (4, .int x4), (5, .int x5)] [] σ) ?_ fu x4 x5 σ h
  intro k23 hk23 x4 x5 σ h
  try dsimp only at h
  show J (ωM α) κ 9 6 23 [(0, .ref (wad (ωM α) 0)), (1, .int x1), (3, .int x3), (4, .int x4), (5, .int x5)] [] σ
  refine j_iload C 4 dX12_laws_23 rfl ?_
  refine j_aload_n C 0 dX12_laws_25 rfl ?_
  refine j_geti (o := 0) (j := 10) C inT12 (ci := 11) rfl (by decide) (rfl) rfl rfl wd_1109 dX12_laws_26 ?_
  refine j_icmp_ge (tgt := 66) C dX12_laws_29 (by decide) (fun c1 => ?_) (fun c1 => ?_)
  · replace h := it c1 h
    refine j_aload_n C 0 dX12_laws_66 rfl ?_
    refine j_iload_n C 2 dX12_laws_67 rfl ?_
    refine j_puti (o := 0) (j := 11) C inT12 tyX12_ok nmX12 (ci := 11) rfl (by decide) (rfl) rfl rfl rfl (tyX12_ok 11 (by decide)) rfl rfl wd_1110 dX12_laws_68 ?_
    refine j_iload C 3 dX12_laws_71 rfl ?_
    obtain ⟨hv, hs⟩ := s2_inj h
    subst hv
    subst hs
    exact j_iret C e dX12_laws_73
  · replace h := ie c1 h
    refine j_aload_n C 0 dX12_laws_32 rfl ?_
    refine j_iload C 4 dX12_laws_33 rfl ?_
    refine j_puti (o := 0) (j := 11) C inT12 tyX12_ok nmX12 (ci := 11) rfl (by decide) (rfl) rfl rfl rfl (tyX12_ok 11 (by decide)) rfl rfl wd_1110 dX12_laws_35 ?_
    refine j_iload C 3 dX12_laws_38 rfl ?_
    refine j_aload_n C 0 dX12_laws_40 rfl ?_
    refine j_iload_n C 1 dX12_laws_41 rfl ?_
    obtain ⟨r2, s3, hc4, h⟩ := bnd_some h
    refine k_V (v := some (.int r2)) C vb_X12_unlike (ci := 11) (T := TX12) (N := 45) rfl (by decide) (c12_unlike _ hc4) rfl (by decide) wd_1400 (rfl) rfl dX12_laws_42 ?_
    show J (ωM α) κ _ _ 45 _ [.int r2, .int x4] s3
    refine j_iconst (v := -1) C dX12_laws_45 (by decide) ?_
    refine j_icmp_ne (tgt := 56) C dX12_laws_46 (by decide) (fun c5 => ?_) (fun c5 => ?_)
    · replace h := ie c5 h
      refine j_iconst (v := 0) C dX12_laws_56 (by decide) ?_
      exact j_sub [0, 1, 2, 4] rfl (b12_laws_57 C e hk23 h)
    · replace h := it c5 h
      refine j_iconst (v := 1) C dX12_laws_49 (by decide) ?_
      refine j_iload C 4 dX12_laws_50 rfl ?_
      refine j_ishl C dX12_laws_52 ?_
      refine j_goto (tgt := 57) C dX12_laws_53 (by decide) ?_
      exact j_sub [0, 1, 2, 4] rfl (b12_laws_57 C e hk23 h)
set_option maxRecDepth 10000 in
theorem c12_laws (l : Launch) {α : WA} {fu : Nat} {a1 : Int32} {σ σ' : M2} {v : Int32}  (h : F12_laws fu a1 σ = some (v, σ')) : Ct l (ωM α) yX12_laws cX12_laws 6 (some FieldType.int) 9 [.ref (wad (ωM α) 0), .int a1] σ (some (.int v)) σ' := by
  unfold F12_laws at h
  refine Ct.of (own := "EveryoneWinsModel") (L := [(0, .ref (wad (ωM α) 0)), (1, .int a1)]) (by decide +kernel) rfl rfl rfl (fun κ hl e C => ?_)
  show J (ωM α) κ 9 6 0 [(0, .ref (wad (ωM α) 0)), (1, .int a1)] [] σ
  refine j_aload_n C 0 dX12_laws_0 rfl ?_
  refine j_iload_n C 1 dX12_laws_1 rfl ?_
  obtain ⟨r1, s2, hc3, h⟩ := bnd_some h
  refine k_V (v := some (.int r1)) C vb_X12_sheetWrong (ci := 11) (T := TX12) (N := 45) rfl (by decide) (c12_sheetWrong _ hc3) rfl (by decide) wd_1396 (rfl) rfl dX12_laws_2 ?_
  show J (ωM α) κ _ _ 5 _ [.int r1] s2
  refine j_istore_n (L' := [(2, .int r1), (0, .ref (wad (ωM α) 0)), (1, .int a1)]) C dX12_laws_5 rfl rfl rfl ?_
  refine j_iload_n C 0 dX12_laws_6 rfl ?_
  refine j_if_eq (tgt := 12) C dX12_laws_7 (by decide) (fun c4 => ?_) (fun c4 => ?_)
  · replace h := it c4 h
    refine j_aload_n C 1 dX12_laws_12 rfl ?_
    refine j_geti (o := 0) (j := 11) C inT12 (ci := 11) rfl (by decide) (rfl) rfl rfl wd_1110 dX12_laws_13 ?_
    refine j_istore_n (L' := [(3, .int (s2 0 11)), (2, .int r1), (0, .ref (wad (ωM α) 0)), (1, .int a1)]) C dX12_laws_16 rfl rfl rfl ?_
    refine j_iconst (v := 0) C dX12_laws_17 (by decide) ?_
    refine j_istore (L' := [(4, .int (0 : Int32)), (3, .int (s2 0 11)), (2, .int r1), (0, .ref (wad (ωM α) 0)), (1, .int a1)]) C dX12_laws_18 rfl rfl ?_
    refine j_iconst (v := 0) C dX12_laws_20 (by decide) ?_
    refine j_istore (L' := [(5, .int (0 : Int32)), (4, .int (0 : Int32)), (3, .int (s2 0 11)), (2, .int r1), (0, .ref (wad (ωM α) 0)), (1, .int a1)]) C dX12_laws_21 rfl rfl ?_
    exact j_sub [4, 5, 2, 1, 0] rfl (b12_laws_23 C e h)
  · replace h := ie c4 h
    refine j_iload_n C 0 dX12_laws_10 rfl ?_
    obtain ⟨hv, hs⟩ := s2_inj h
    subst hv
    subst hs
    exact j_iret C e dX12_laws_11
set_option maxRecDepth 10000 in
theorem b12_film_74 {α : WA} {κ : KT} {fu : Nat} {v : Int32} {σ' : M2} {x1 : Int32} {x2 : Int32} {y0 : Int32} {y1 : Int32} (C : Cx (ωM α) κ cX12_film 3 "EveryoneWinsModel" (some FieldType.int)) (e : κ.2.2.2.2.2.2.2.2.2 = (some (.int v), σ')) {k35 : Int32 → M2 → Option (Int32 × M2)} (hk35 : ∀ (x2' : Int32) (σ : M2), k35 x2' σ = some (v, σ') → J (ωM α) κ 8 3 35 [(0, .ref (wad (ωM α) 0)), (1, .int x1), (2, .int x2')] [] σ) {σ : M2} (h : F12_film_74 fu k35 x1 x2 y0 y1 σ = some (v, σ')) : J (ωM α) κ 8 3 74 [(0, .ref (wad (ωM α) 0)), (1, .int x1), (2, .int x2)] [.int y0, .int y1, .ref (wad (ωM α) 12)] σ := by
  unfold F12_film_74 at h
  obtain ⟨g1, h⟩ := gd_some h
  refine j_iastore (N := 160) C (rfl) (inb_in g1) dX12_film_74 ?_
  refine j_iinc (L' := [(2, .int (x2 + 1)), (0, .ref (wad (ωM α) 0)), (1, .int x1)]) C 2 dX12_film_75 rfl rfl rfl rfl ?_
  refine j_goto (tgt := 35) C dX12_film_78 (by decide) ?_
  exact j_sub [1, 2, 0] rfl (hk35 _ _ h)
set_option maxRecDepth 10000 in
theorem b12_film_35 {α : WA} {κ : KT} {fu : Nat} {v : Int32} {σ' : M2} {x1 : Int32} {x2 : Int32} (C : Cx (ωM α) κ cX12_film 3 "EveryoneWinsModel" (some FieldType.int)) (e : κ.2.2.2.2.2.2.2.2.2 = (some (.int v), σ'))  {σ : M2} (h : F12_film_35 fu x1 x2 σ = some (v, σ')) : J (ωM α) κ 8 3 35 [(0, .ref (wad (ωM α) 0)), (1, .int x1), (2, .int x2)] [] σ := by
  unfold F12_film_35 at h
  refine wl1_ind (fun x2 σ => J (ωM α) κ 8 3 35 [(0, .ref (wad (ωM α) 0)), (1, .int x1), (2, .int x2)] [] σ) ?_ fu x2 σ h
  intro k35 hk35 x2 σ h
  try dsimp only at h
  show J (ωM α) κ 8 3 35 [(0, .ref (wad (ωM α) 0)), (1, .int x1), (2, .int x2)] [] σ
  refine j_iload_n C 2 dX12_film_35 rfl ?_
  refine j_bipush (v := 40) C dX12_film_36 (by decide) ?_
  refine j_icmp_ge (tgt := 81) C dX12_film_38 (by decide) (fun c1 => ?_) (fun c1 => ?_)
  · replace h := it c1 h
    refine j_aload_n C 0 dX12_film_81 rfl ?_
    refine j_geti (o := 0) (j := 36) C inT12 (ci := 11) rfl (by decide) (rfl) rfl rfl wd_1135 dX12_film_82 ?_
    obtain ⟨hv, hs⟩ := s2_inj h
    subst hv
    subst hs
    exact j_iret C e dX12_film_85
  · replace h := ie c1 h
    refine j_aload_n C 0 dX12_film_41 rfl ?_
    refine j_getr (o := 0) (j := 17) C inT12 (ci := 11) rfl (by decide) (rfl) rfl rfl wd_1116 dX12_film_42 (o' := 12) rfl ?_
    refine j_bipush (v := 40) C dX12_film_45 (by decide) ?_
    refine j_iload_n C 1 dX12_film_47 rfl ?_
    refine j_imul C dX12_film_48 ?_
    refine j_iload_n C 2 dX12_film_49 rfl ?_
    refine j_iadd C dX12_film_50 ?_
    refine j_iload_n C 2 dX12_film_51 rfl ?_
    refine j_aload_n C 0 dX12_film_52 rfl ?_
    refine j_geti (o := 0) (j := 2) C inT12 (ci := 11) rfl (by decide) (rfl) rfl rfl wd_1101 dX12_film_53 ?_
    refine j_icmp_ge (tgt := 73) C dX12_film_56 (by decide) (fun c2 => ?_) (fun c2 => ?_)
    · replace h := it c2 h
      refine j_iconst (v := 0) C dX12_film_73 (by decide) ?_
      exact (b12_film_74 C e hk35 h)
    · replace h := ie c2 h
      refine j_aload_n C 0 dX12_film_59 rfl ?_
      refine j_getr (o := 0) (j := 37) C inT12 (ci := 11) rfl (by decide) (rfl) rfl rfl wd_1136 dX12_film_60 (o' := 21) rfl ?_
      refine j_iload_n C 2 dX12_film_63 rfl ?_
      refine j_iconst (v := 0) C dX12_film_64 (by decide) ?_
      refine j_iconst (v := 5) C dX12_film_65 (by decide) ?_
      obtain ⟨r3, s4, hc5, h⟩ := bnd_some h
      refine k_S (v := some (.int r3)) C sb_X12_within (c12_within _ hc5) rfl (by decide) wd_1279 rfl dX12_film_66 ?_
      show J (ωM α) κ _ _ 69 _ [.int r3, .ref (wad (ωM α) 21), .int (((40 : Int32) * x1) + x2), .ref (wad (ωM α) 12)] s4
      obtain ⟨g6, h⟩ := gd_some h
      refine j_iaload (N := 6) C (rfl) (inb_in g6) dX12_film_69 ?_
      refine j_goto (tgt := 74) C dX12_film_70 (by decide) ?_
      exact (b12_film_74 C e hk35 h)
set_option maxRecDepth 10000 in
theorem c12_film (l : Launch) {α : WA} {fu : Nat} {a1 : Int32} {σ σ' : M2} {v : Int32}  (h : F12_film fu a1 σ = some (v, σ')) : Ct l (ωM α) yX12_film cX12_film 3 (some FieldType.int) 8 [.ref (wad (ωM α) 0), .int a1] σ (some (.int v)) σ' := by
  unfold F12_film at h
  refine Ct.of (own := "EveryoneWinsModel") (L := [(0, .ref (wad (ωM α) 0)), (1, .int a1)]) (by decide +kernel) rfl rfl rfl (fun κ hl e C => ?_)
  show J (ωM α) κ 8 3 0 [(0, .ref (wad (ωM α) 0)), (1, .int a1)] [] σ
  refine j_iload_n C 1 dX12_film_0 rfl ?_
  refine j_iconst (v := 0) C dX12_film_1 (by decide) ?_
  refine j_iconst (v := 3) C dX12_film_2 (by decide) ?_
  obtain ⟨r1, s2, hc3, h⟩ := bnd_some h
  refine k_S (v := some (.int r1)) C sb_X12_in (c12_in _ hc3) rfl (by decide) wd_1060 rfl dX12_film_3 ?_
  show J (ωM α) κ _ _ 6 _ [.int r1] s2
  refine j_if_ne (tgt := 12) C dX12_film_6 (by decide) (fun c4 => ?_) (fun c4 => ?_)
  · replace h := ie c4 h
    refine j_aload_n C 0 dX12_film_12 rfl ?_
    obtain ⟨r5, s6, hc7, h⟩ := bnd_some h
    refine k_V (v := none) C vb_X12_goes (ci := 11) (T := TX12) (N := 45) rfl (by decide) (c12_goes _ hc7) rfl (by decide) wd_1332 (rfl) rfl dX12_film_13 ?_
    show J (ωM α) κ _ _ 16 _ [] s6
    refine j_aload_n C 0 dX12_film_16 rfl ?_
    refine j_getr (o := 0) (j := 15) C inT12 (ci := 11) rfl (by decide) (rfl) rfl rfl wd_1114 dX12_film_17 (o' := 10) rfl ?_
    refine j_iload_n C 1 dX12_film_20 rfl ?_
    refine j_iconst (v := 1) C dX12_film_21 (by decide) ?_
    obtain ⟨g8, h⟩ := gd_some h
    refine j_iastore (N := 4) C (rfl) (inb_in g8) dX12_film_22 ?_
    refine j_aload_n C 0 dX12_film_23 rfl ?_
    refine j_getr (o := 0) (j := 16) C inT12 (ci := 11) rfl (by decide) (rfl) rfl rfl wd_1115 dX12_film_24 (o' := 11) rfl ?_
    refine j_iload_n C 1 dX12_film_27 rfl ?_
    refine j_aload_n C 0 dX12_film_28 rfl ?_
    refine j_geti (o := 0) (j := 2) C inT12 (ci := 11) rfl (by decide) (rfl) rfl rfl wd_1101 dX12_film_29 ?_
    refine j_iastore (N := 4) C (rfl) (inb_in g8) dX12_film_32 ?_
    refine j_iconst (v := 0) C dX12_film_33 (by decide) ?_
    refine j_istore_n (L' := [(2, .int (0 : Int32)), (0, .ref (wad (ωM α) 0)), (1, .int a1)]) C dX12_film_34 rfl rfl rfl ?_
    exact j_sub [1, 2, 0] rfl (b12_film_35 C e h)
  · replace h := it c4 h
    refine j_bipush (v := -2) C dX12_film_9 (by decide) ?_
    obtain ⟨hv, hs⟩ := s2_inj h
    subst hv
    subst hs
    exact j_iret C e dX12_film_11
set_option maxRecDepth 10000 in
theorem b12_dayBy_75 {α : WA} {κ : KT} {fu : Nat} {σ' : M2} {x4 : Int32} (C : Cx (ωM α) κ cX12_dayBy 5 "EveryoneWinsModel" (none)) (e : κ.2.2.2.2.2.2.2.2.2 = (none, σ'))  {σ : M2} (h : F12_dayBy_75 fu x4 σ = some ((), σ')) : J (ωM α) κ 8 5 75 [(0, .ref (wad (ωM α) 0)), (4, .int x4)] [] σ := by
  unfold F12_dayBy_75 at h
  refine wl1_ind (fun x4 σ => J (ωM α) κ 8 5 75 [(0, .ref (wad (ωM α) 0)), (4, .int x4)] [] σ) ?_ fu x4 σ h
  intro k75 hk75 x4 σ h
  try dsimp only at h
  show J (ωM α) κ 8 5 75 [(0, .ref (wad (ωM α) 0)), (4, .int x4)] [] σ
  refine j_iload C 1 dX12_dayBy_75 rfl ?_
  refine j_aload_n C 0 dX12_dayBy_77 rfl ?_
  refine j_geti (o := 0) (j := 0) C inT12 (ci := 11) rfl (by decide) (rfl) rfl rfl wd_1099 dX12_dayBy_78 ?_
  refine j_icmp_ge (tgt := 108) C dX12_dayBy_81 (by decide) (fun c1 => ?_) (fun c1 => ?_)
  · replace h := it c1 h
    obtain ⟨-, hs⟩ := s2_inj h
    subst hs
    exact j_vret C e dX12_dayBy_108
  · replace h := ie c1 h
    refine j_aload_n C 0 dX12_dayBy_84 rfl ?_
    refine j_getr (o := 0) (j := 1) C inT12 (ci := 11) rfl (by decide) (rfl) rfl rfl wd_1100 dX12_dayBy_85 (o' := 1) rfl ?_
    refine j_iconst (v := 3) C dX12_dayBy_88 (by decide) ?_
    refine j_iload C 1 dX12_dayBy_89 rfl ?_
    refine j_imul C dX12_dayBy_91 ?_
    refine j_iconst (v := 1) C dX12_dayBy_92 (by decide) ?_
    refine j_iadd C dX12_dayBy_93 ?_
    refine j_aload_n C 0 dX12_dayBy_94 rfl ?_
    refine j_getr (o := 0) (j := 44) C inT12 (ci := 11) rfl (by decide) (rfl) rfl rfl wd_1143 dX12_dayBy_95 (o' := 23) rfl ?_
    refine j_iload C 1 dX12_dayBy_98 rfl ?_
    obtain ⟨g2, h⟩ := gd_some h
    refine j_iaload (N := 8) C (rfl) (inb_in g2) dX12_dayBy_100 ?_
    obtain ⟨g3, h⟩ := gd_some h
    refine j_iastore (N := 24) C (rfl) (inb_in g3) dX12_dayBy_101 ?_
    refine j_iinc (L' := [(4, .int (x4 + 1)), (0, .ref (wad (ωM α) 0))]) C 1 dX12_dayBy_102 rfl rfl rfl rfl ?_
    refine j_goto (tgt := 75) C dX12_dayBy_105 (by decide) ?_
    exact j_sub [1, 0] rfl (hk75 _ _ h)
set_option maxRecDepth 10000 in
theorem b12_dayBy_8 {α : WA} {κ : KT} {fu : Nat} {σ' : M2} {x2 : Int64} {x4 : Int32} (C : Cx (ωM α) κ cX12_dayBy 5 "EveryoneWinsModel" (none)) (e : κ.2.2.2.2.2.2.2.2.2 = (none, σ'))  {σ : M2} (h : F12_dayBy_8 fu x2 x4 σ = some ((), σ')) : J (ωM α) κ 8 5 8 [(0, .ref (wad (ωM α) 0)), (2, .long x2), (4, .int x4)] [] σ := by
  unfold F12_dayBy_8 at h
  refine wl2_ind (fun x2 x4 σ => J (ωM α) κ 8 5 8 [(0, .ref (wad (ωM α) 0)), (2, .long x2), (4, .int x4)] [] σ) ?_ fu x2 x4 σ h
  intro k8 hk8 x2 x4 σ h
  try dsimp only at h
  show J (ωM α) κ 8 5 8 [(0, .ref (wad (ωM α) 0)), (2, .long x2), (4, .int x4)] [] σ
  refine j_iload C 2 dX12_dayBy_8 rfl ?_
  refine j_aload_n C 0 dX12_dayBy_10 rfl ?_
  refine j_geti (o := 0) (j := 0) C inT12 (ci := 11) rfl (by decide) (rfl) rfl rfl wd_1099 dX12_dayBy_11 ?_
  refine j_icmp_ge (tgt := 68) C dX12_dayBy_14 (by decide) (fun c1 => ?_) (fun c1 => ?_)
  · replace h := it c1 h
    refine j_aload_n C 0 dX12_dayBy_68 rfl ?_
    obtain ⟨r2, s3, hc4, h⟩ := bnd_some h
    refine k_V (v := none) C vb_X12_goes (ci := 11) (T := TX12) (N := 45) rfl (by decide) (c12_goes _ hc4) rfl (by decide) wd_1332 (rfl) rfl dX12_dayBy_69 ?_
    show J (ωM α) κ _ _ 72 _ [] s3
    refine j_iconst (v := 0) C dX12_dayBy_72 (by decide) ?_
    refine j_istore (L' := [(4, .int (0 : Int32)), (0, .ref (wad (ωM α) 0)), (2, .long x2)]) C dX12_dayBy_73 rfl rfl ?_
    exact j_sub [1, 0] rfl (b12_dayBy_75 C e h)
  · replace h := ie c1 h
    refine j_lload_n C 1 dX12_dayBy_17 rfl ?_
    refine j_ldc2_w (v := 48271) C wd_1429 dX12_dayBy_18 ?_
    refine j_lmul C dX12_dayBy_21 ?_
    refine j_ldc2_w (v := 2147483647) C wd_1430 dX12_dayBy_22 ?_
    refine j_lrem C dX12_dayBy_25 (by decide) ?_
    refine j_lstore_n (L' := [(2, .long ((x2 * (48271 : Int64)) - (x2 * (48271 : Int64)) / (2147483647 : Int64) * (2147483647 : Int64))), (0, .ref (wad (ωM α) 0)), (4, .int x4)]) C dX12_dayBy_26 rfl rfl rfl ?_
    refine j_aload_n C 1 dX12_dayBy_27 rfl ?_
    refine j_getr (o := 0) (j := 44) C inT12 (ci := 11) rfl (by decide) (rfl) rfl rfl wd_1143 dX12_dayBy_28 (o' := 23) rfl ?_
    refine j_iload C 2 dX12_dayBy_31 rfl ?_
    refine j_aload_n C 1 dX12_dayBy_33 rfl ?_
    refine j_getr (o := 0) (j := 1) C inT12 (ci := 11) rfl (by decide) (rfl) rfl rfl wd_1100 dX12_dayBy_34 (o' := 1) rfl ?_
    refine j_iconst (v := 3) C dX12_dayBy_37 (by decide) ?_
    refine j_iload C 2 dX12_dayBy_38 rfl ?_
    refine j_imul C dX12_dayBy_40 ?_
    refine j_iconst (v := 1) C dX12_dayBy_41 (by decide) ?_
    refine j_iadd C dX12_dayBy_42 ?_
    obtain ⟨g5, h⟩ := gd_some h
    refine j_iaload (N := 24) C (rfl) (inb_in g5) dX12_dayBy_43 ?_
    obtain ⟨g6, h⟩ := gd_some h
    refine j_iastore (N := 8) C (rfl) (inb_in g6) dX12_dayBy_44 ?_
    refine j_aload_n C 1 dX12_dayBy_45 rfl ?_
    refine j_getr (o := 0) (j := 1) C inT12 (ci := 11) rfl (by decide) (rfl) rfl rfl wd_1100 dX12_dayBy_46 (o' := 1) rfl ?_
    refine j_iconst (v := 3) C dX12_dayBy_49 (by decide) ?_
    refine j_iload C 2 dX12_dayBy_50 rfl ?_
    refine j_imul C dX12_dayBy_52 ?_
    refine j_iconst (v := 1) C dX12_dayBy_53 (by decide) ?_
    refine j_iadd C dX12_dayBy_54 ?_
    refine j_lload_n C 0 dX12_dayBy_55 rfl ?_
    refine j_ldc2_w (v := 100) C wd_1431 dX12_dayBy_56 ?_
    refine j_lrem C dX12_dayBy_59 (by decide) ?_
    refine j_l2i C dX12_dayBy_60 ?_
    refine j_iastore (N := 24) C (rfl) (inb_in g5) dX12_dayBy_61 ?_
    refine j_iinc (L' := [(4, .int (x4 + 1)), (2, .long ((x2 * (48271 : Int64)) - (x2 * (48271 : Int64)) / (2147483647 : Int64) * (2147483647 : Int64))), (0, .ref (wad (ωM α) 0))]) C 2 dX12_dayBy_62 rfl rfl rfl rfl ?_
    refine j_goto (tgt := 8) C dX12_dayBy_65 (by decide) ?_
    exact j_sub [2, 1, 0] rfl (hk8 _ _ _ h)
set_option maxRecDepth 10000 in
theorem c12_dayBy (l : Launch) {α : WA} {fu : Nat} {a1 : Int32} {σ σ' : M2}  (h : F12_dayBy fu a1 σ = some ((), σ')) : Ct l (ωM α) yX12_dayBy cX12_dayBy 5 (none) 8 [.ref (wad (ωM α) 0), .int a1] σ (none) σ' := by
  unfold F12_dayBy at h
  refine Ct.of (own := "EveryoneWinsModel") (L := [(0, .ref (wad (ωM α) 0)), (1, .int a1)]) (by decide +kernel) rfl rfl rfl (fun κ hl e C => ?_)
  show J (ωM α) κ 8 5 0 [(0, .ref (wad (ωM α) 0)), (1, .int a1)] [] σ
  refine j_iload_n C 1 dX12_dayBy_0 rfl ?_
  refine j_i2l C dX12_dayBy_1 ?_
  refine j_lconst (v := 1) C dX12_dayBy_2 (by decide) ?_
  refine j_ladd C dX12_dayBy_3 ?_
  refine j_lstore_n (L' := [(2, .long (a1.toInt64 + (1 : Int64))), (0, .ref (wad (ωM α) 0)), (1, .int a1)]) C dX12_dayBy_4 rfl rfl rfl ?_
  refine j_iconst (v := 0) C dX12_dayBy_5 (by decide) ?_
  refine j_istore (L' := [(4, .int (0 : Int32)), (2, .long (a1.toInt64 + (1 : Int64))), (0, .ref (wad (ωM α) 0)), (1, .int a1)]) C dX12_dayBy_6 rfl rfl ?_
  exact j_sub [2, 1, 0] rfl (b12_dayBy_8 C e h)
set_option maxRecDepth 10000 in
theorem c12_drawn (l : Launch) {α : WA} {fu : Nat} {a1 : Int32} {a2 : Int32} {σ σ' : M2} {v : Int32}  (h : F12_drawn fu a1 a2 σ = some (v, σ')) : Ct l (ωM α) yX12_drawn cX12_drawn 3 (some FieldType.int) 9 [.ref (wad (ωM α) 0), .int a1, .int a2] σ (some (.int v)) σ' := by
  unfold F12_drawn at h
  refine Ct.of (own := "EveryoneWinsModel") (L := [(0, .ref (wad (ωM α) 0)), (1, .int a1), (2, .int a2)]) (by decide +kernel) rfl rfl rfl (fun κ hl e C => ?_)
  show J (ωM α) κ 9 3 0 [(0, .ref (wad (ωM α) 0)), (1, .int a1), (2, .int a2)] [] σ
  refine j_iload_n C 1 dX12_drawn_0 rfl ?_
  refine j_iconst (v := 0) C dX12_drawn_1 (by decide) ?_
  refine j_ldc_w (v := 99999) C wd_1424 dX12_drawn_2 ?_
  obtain ⟨r1, s2, hc3, h⟩ := bnd_some h
  refine k_S (v := some (.int r1)) C sb_X12_in (c12_in _ hc3) rfl (by decide) wd_1060 rfl dX12_drawn_5 ?_
  show J (ωM α) κ _ _ 8 _ [.int r1] s2
  refine j_if_eq (tgt := 20) C dX12_drawn_8 (by decide) (fun c4 => ?_) (fun c4 => ?_)
  · replace h := it c4 h
    refine j_sipush (v := -1000) C dX12_drawn_20 (by decide) ?_
    obtain ⟨hv, hs⟩ := s2_inj h
    subst hv
    subst hs
    exact j_iret C e dX12_drawn_23
  · replace h := ie c4 h
    refine j_iload_n C 2 dX12_drawn_11 rfl ?_
    refine j_iconst (v := 0) C dX12_drawn_12 (by decide) ?_
    refine j_iconst (v := 1) C dX12_drawn_13 (by decide) ?_
    obtain ⟨r5, s6, hc7, h⟩ := bnd_some h
    refine k_S (v := some (.int r5)) C sb_X12_in (c12_in _ hc7) rfl (by decide) wd_1060 rfl dX12_drawn_14 ?_
    show J (ωM α) κ _ _ 17 _ [.int r5] s6
    refine j_if_ne (tgt := 24) C dX12_drawn_17 (by decide) (fun c8 => ?_) (fun c8 => ?_)
    · replace h := ie c8 h
      refine j_aload_n C 0 dX12_drawn_24 rfl ?_
      refine j_iload_n C 1 dX12_drawn_25 rfl ?_
      obtain ⟨r9, s10, hc11, h⟩ := bnd_some h
      refine k_V (v := none) C vb_X12_dayBy (ci := 11) (T := TX12) (N := 45) rfl (by decide) (c12_dayBy _ hc11) rfl (by decide) wd_1425 (rfl) rfl dX12_drawn_26 ?_
      show J (ωM α) κ _ _ 29 _ [] s10
      refine j_iload_n C 2 dX12_drawn_29 rfl ?_
      refine j_if_ne (tgt := 40) C dX12_drawn_30 (by decide) (fun c12 => ?_) (fun c12 => ?_)
      · replace h := ie c12 h
        refine j_aload_n C 0 dX12_drawn_40 rfl ?_
        refine j_geti (o := 0) (j := 34) C inT12 (ci := 11) rfl (by decide) (rfl) rfl rfl wd_1133 dX12_drawn_41 ?_
        obtain ⟨hv, hs⟩ := s2_inj h
        subst hv
        subst hs
        exact j_iret C e dX12_drawn_44
      · replace h := it c12 h
        refine j_aload_n C 0 dX12_drawn_33 rfl ?_
        refine j_geti (o := 0) (j := 35) C inT12 (ci := 11) rfl (by decide) (rfl) rfl rfl wd_1134 dX12_drawn_34 ?_
        refine j_goto (tgt := 44) C dX12_drawn_37 (by decide) ?_
        obtain ⟨hv, hs⟩ := s2_inj h
        subst hv
        subst hs
        exact j_iret C e dX12_drawn_44
    · replace h := it c8 h
      refine j_sipush (v := -1000) C dX12_drawn_20 (by decide) ?_
      obtain ⟨hv, hs⟩ := s2_inj h
      subst hv
      subst hs
      exact j_iret C e dX12_drawn_23
set_option maxRecDepth 10000 in
theorem b12_lowest_51 {α : WA} {κ : KT} {fu : Nat} {v : Int64} {σ' : M2} {x5 : Int64} {y0 : Int64} (C : Cx (ωM α) κ cX12_lowest 11 "EveryoneWinsModel" (some FieldType.long)) (e : κ.2.2.2.2.2.2.2.2.2 = (some (.long v), σ'))  {σ : M2} (h : F12_lowest_51 fu x5 y0 σ = some (v, σ')) : J (ωM α) κ 1 11 51 [(5, .long x5)] [.long y0] σ := by
  unfold F12_lowest_51 at h
  refine j_lload C 0 dX12_lowest_51 rfl ?_
  obtain ⟨g1, h⟩ := gd_some h
  refine j_ldiv C dX12_lowest_53 (of_decide_eq_true g1) ?_
  obtain ⟨hv, hs⟩ := s2_inj h
  subst hv
  subst hs
  exact j_lret C e dX12_lowest_54
set_option maxRecDepth 10000 in
theorem b12_lowest_16 {α : WA} {κ : KT} {fu : Nat} {v : Int64} {σ' : M2} {x0 : Int64} {x2 : Int64} {x4 : Int32} {x5 : Int64} {x7 : Int64} (C : Cx (ωM α) κ cX12_lowest 11 "EveryoneWinsModel" (some FieldType.long)) (e : κ.2.2.2.2.2.2.2.2.2 = (some (.long v), σ'))  {σ : M2} (h : F12_lowest_16 fu x0 x2 x4 x5 x7 σ = some (v, σ')) : J (ωM α) κ 1 11 16 [(0, .long x0), (2, .long x2), (4, .int x4), (5, .long x5), (7, .long x7)] [] σ := by
  unfold F12_lowest_16 at h
  refine wl2_ind (fun x5 x7 σ => J (ωM α) κ 1 11 16 [(0, .long x0), (2, .long x2), (4, .int x4), (5, .long x5), (7, .long x7)] [] σ) ?_ fu x5 x7 σ h
  intro k16 hk16 x5 x7 σ h
  try dsimp only at h
  show J (ωM α) κ 1 11 16 [(0, .long x0), (2, .long x2), (4, .int x4), (5, .long x5), (7, .long x7)] [] σ
  refine j_lload C 4 dX12_lowest_16 rfl ?_
  refine j_lconst (v := 0) C dX12_lowest_18 (by decide) ?_
  refine j_lcmp C dX12_lowest_19 ?_
  refine j_if_eq (tgt := 41) C dX12_lowest_20 (by decide) (fun c1 => ?_) (fun c1 => ?_)
  · replace h := it c1 h
    refine j_iload C 2 dX12_lowest_41 rfl ?_
    refine j_if_ne (tgt := 50) C dX12_lowest_43 (by decide) (fun c2 => ?_) (fun c2 => ?_)
    · replace h := ie c2 h
      refine j_lload_n C 1 dX12_lowest_50 rfl ?_
      exact j_sub [3] rfl (b12_lowest_51 C e h)
    · replace h := it c2 h
      refine j_lload_n C 0 dX12_lowest_46 rfl ?_
      refine j_goto (tgt := 51) C dX12_lowest_47 (by decide) ?_
      exact j_sub [3] rfl (b12_lowest_51 C e h)
  · replace h := ie c1 h
    refine j_lload C 3 dX12_lowest_23 rfl ?_
    refine j_lload C 4 dX12_lowest_25 rfl ?_
    obtain ⟨g3, h⟩ := gd_some h
    refine j_lrem C dX12_lowest_27 (of_decide_eq_true g3) ?_
    refine j_lstore (L' := [(9, .long (x5 - x5 / x7 * x7)), (0, .long x0), (2, .long x2), (4, .int x4), (5, .long x5), (7, .long x7)]) C dX12_lowest_28 rfl rfl ?_
    refine j_lload C 5 dX12_lowest_30 rfl ?_
    refine j_lstore (L' := [(5, .long x7), (9, .long (x5 - x5 / x7 * x7)), (0, .long x0), (2, .long x2), (4, .int x4), (7, .long x7)]) C dX12_lowest_32 rfl rfl ?_
    refine j_lload C 1 dX12_lowest_34 rfl ?_
    refine j_lstore (L' := [(7, .long (x5 - x5 / x7 * x7)), (5, .long x7), (9, .long (x5 - x5 / x7 * x7)), (0, .long x0), (2, .long x2), (4, .int x4)]) C dX12_lowest_36 rfl rfl ?_
    refine j_goto (tgt := 16) C dX12_lowest_38 (by decide) ?_
    exact j_sub [3, 4, 5, 1, 0] rfl (hk16 _ _ _ h)
set_option maxRecDepth 10000 in
theorem c12_lowest (l : Launch) {α : WA} {fu : Nat} {a1 : Int64} {a2 : Int64} {a3 : Int32} {σ σ' : M2} {v : Int64}  (h : F12_lowest fu a1 a2 a3 σ = some (v, σ')) : Ct l (ωM α) yX12_lowest cX12_lowest 11 (some FieldType.long) 1 [.long a1, .long a2, .int a3] σ (some (.long v)) σ' := by
  unfold F12_lowest at h
  refine Ct.of (own := "EveryoneWinsModel") (L := [(0, .long a1), (2, .long a2), (4, .int a3)]) (by decide +kernel) rfl rfl rfl (fun κ hl e C => ?_)
  show J (ωM α) κ 1 11 0 [(0, .long a1), (2, .long a2), (4, .int a3)] [] σ
  refine j_lload_n C 0 dX12_lowest_0 rfl ?_
  refine j_lconst (v := 0) C dX12_lowest_1 (by decide) ?_
  refine j_lcmp C dX12_lowest_2 ?_
  refine j_if_ne (tgt := 10) C dX12_lowest_3 (by decide) (fun c1 => ?_) (fun c1 => ?_)
  · replace h := ie c1 h
    refine j_lload_n C 0 dX12_lowest_10 rfl ?_
    refine j_lstore (L' := [(5, .long a1), (0, .long a1), (2, .long a2), (4, .int a3)]) C dX12_lowest_11 rfl rfl ?_
    refine j_lload_n C 2 dX12_lowest_13 rfl ?_
    refine j_lstore (L' := [(7, .long a2), (5, .long a1), (0, .long a1), (2, .long a2), (4, .int a3)]) C dX12_lowest_14 rfl rfl ?_
    exact j_sub [2, 3, 4, 1, 0] rfl (b12_lowest_16 C e h)
  · replace h := it c1 h
    refine j_iload C 2 dX12_lowest_6 rfl ?_
    refine j_i2l C dX12_lowest_8 ?_
    obtain ⟨hv, hs⟩ := s2_inj h
    subst hv
    subst hs
    exact j_lret C e dX12_lowest_9
set_option maxRecDepth 10000 in
theorem b12_odds_80 {α : WA} {κ : KT} {fu : Nat} {v : Int64} {σ' : M2} {x1 : Int32} {x2 : Int32} {x3 : Int32} {x4 : Int32} {x7 : Int32} {y0 : Int64} {y1 : Int64} (C : Cx (ωM α) κ cX12_odds 8 "EveryoneWinsModel" (some FieldType.long)) (e : κ.2.2.2.2.2.2.2.2.2 = (some (.long v), σ')) {k51 : Int64 → Int32 → M2 → Option (Int64 × M2)} (hk51 : ∀ (x5' : Int64) (x7' : Int32) (σ : M2), k51 x5' x7' σ = some (v, σ') → J (ωM α) κ 9 8 51 [(0, .ref (wad (ωM α) 0)), (1, .int x1), (2, .int x2), (3, .int x3), (4, .int x4), (5, .long x5'), (7, .int x7')] [] σ) {σ : M2} (h : F12_odds_80 fu k51 x1 x2 x3 x4 x7 y0 y1 σ = some (v, σ')) : J (ωM α) κ 9 8 80 [(0, .ref (wad (ωM α) 0)), (1, .int x1), (2, .int x2), (3, .int x3), (4, .int x4), (7, .int x7)] [.long y0, .long y1] σ := by
  unfold F12_odds_80 at h
  refine j_ladd C dX12_odds_80 ?_
  refine j_lstore (L' := [(5, .long (y1 + y0)), (0, .ref (wad (ωM α) 0)), (1, .int x1), (2, .int x2), (3, .int x3), (4, .int x4), (7, .int x7)]) C dX12_odds_81 rfl rfl ?_
  refine j_iinc (L' := [(7, .int (x7 + 1)), (5, .long (y1 + y0)), (0, .ref (wad (ωM α) 0)), (1, .int x1), (2, .int x2), (3, .int x3), (4, .int x4)]) C 6 dX12_odds_83 rfl rfl rfl rfl ?_
  refine j_goto (tgt := 51) C dX12_odds_86 (by decide) ?_
  exact j_sub [2, 3, 4, 5, 6, 1, 0] rfl (hk51 _ _ _ h)
set_option maxRecDepth 10000 in
theorem b12_odds_51 {α : WA} {κ : KT} {fu : Nat} {v : Int64} {σ' : M2} {x1 : Int32} {x2 : Int32} {x3 : Int32} {x4 : Int32} {x5 : Int64} {x7 : Int32} (C : Cx (ωM α) κ cX12_odds 8 "EveryoneWinsModel" (some FieldType.long)) (e : κ.2.2.2.2.2.2.2.2.2 = (some (.long v), σ'))  {σ : M2} (h : F12_odds_51 fu x1 x2 x3 x4 x5 x7 σ = some (v, σ')) : J (ωM α) κ 9 8 51 [(0, .ref (wad (ωM α) 0)), (1, .int x1), (2, .int x2), (3, .int x3), (4, .int x4), (5, .long x5), (7, .int x7)] [] σ := by
  unfold F12_odds_51 at h
  refine wl2_ind (fun x5 x7 σ => J (ωM α) κ 9 8 51 [(0, .ref (wad (ωM α) 0)), (1, .int x1), (2, .int x2), (3, .int x3), (4, .int x4), (5, .long x5), (7, .int x7)] [] σ) ?_ fu x5 x7 σ h
  intro k51 hk51 x5 x7 σ h
  try dsimp only at h
  show J (ωM α) κ 9 8 51 [(0, .ref (wad (ωM α) 0)), (1, .int x1), (2, .int x2), (3, .int x3), (4, .int x4), (5, .long x5), (7, .int x7)] [] σ
  refine j_iload C 6 dX12_odds_51 rfl ?_
  refine j_iload_n C 2 dX12_odds_53 rfl ?_
  refine j_icmp_ge (tgt := 89) C dX12_odds_54 (by decide) (fun c1 => ?_) (fun c1 => ?_)
  · replace h := it c1 h
    refine j_lload C 5 dX12_odds_89 rfl ?_
    refine j_iload_n C 2 dX12_odds_91 rfl ?_
    refine j_i2l C dX12_odds_92 ?_
    refine j_iload C 4 dX12_odds_93 rfl ?_
    obtain ⟨r2, s3, hc4, h⟩ := bnd_some h
    refine k_S (v := some (.long r2)) C sb_X12_lowest (c12_lowest _ hc4) rfl (by decide) wd_1437 rfl dX12_odds_95 ?_
    show J (ωM α) κ _ _ 98 _ [.long r2] s3
    obtain ⟨hv, hs⟩ := s2_inj h
    subst hv
    subst hs
    exact j_lret C e dX12_odds_98
  · replace h := ie c1 h
    refine j_aload_n C 0 dX12_odds_57 rfl ?_
    refine j_iload_n C 1 dX12_odds_58 rfl ?_
    refine j_iload C 6 dX12_odds_59 rfl ?_
    refine j_iadd C dX12_odds_61 ?_
    obtain ⟨r5, s6, hc7, h⟩ := bnd_some h
    refine k_V (v := none) C vb_X12_dayBy (ci := 11) (T := TX12) (N := 45) rfl (by decide) (c12_dayBy _ hc7) rfl (by decide) wd_1425 (rfl) rfl dX12_odds_62 ?_
    show J (ωM α) κ _ _ 65 _ [] s6
    refine j_lload C 5 dX12_odds_65 rfl ?_
    refine j_aload_n C 0 dX12_odds_67 rfl ?_
    refine j_geti (o := 0) (j := 35) C inT12 (ci := 11) rfl (by decide) (rfl) rfl rfl wd_1134 dX12_odds_68 ?_
    refine j_iload_n C 3 dX12_odds_71 rfl ?_
    refine j_icmp_gt (tgt := 79) C dX12_odds_72 (by decide) (fun c8 => ?_) (fun c8 => ?_)
    · replace h := it c8 h
      refine j_lconst (v := 0) C dX12_odds_79 (by decide) ?_
      exact j_sub [0, 1, 2, 3, 4, 6] rfl (b12_odds_80 C e hk51 h)
    · replace h := ie c8 h
      refine j_lconst (v := 1) C dX12_odds_75 (by decide) ?_
      refine j_goto (tgt := 80) C dX12_odds_76 (by decide) ?_
      exact j_sub [0, 1, 2, 3, 4, 6] rfl (b12_odds_80 C e hk51 h)
set_option maxRecDepth 10000 in
theorem c12_odds (l : Launch) {α : WA} {fu : Nat} {a1 : Int32} {a2 : Int32} {a3 : Int32} {a4 : Int32} {σ σ' : M2} {v : Int64}  (h : F12_odds fu a1 a2 a3 a4 σ = some (v, σ')) : Ct l (ωM α) yX12_odds cX12_odds 8 (some FieldType.long) 9 [.ref (wad (ωM α) 0), .int a1, .int a2, .int a3, .int a4] σ (some (.long v)) σ' := by
  unfold F12_odds at h
  refine Ct.of (own := "EveryoneWinsModel") (L := [(0, .ref (wad (ωM α) 0)), (1, .int a1), (2, .int a2), (3, .int a3), (4, .int a4)]) (by decide +kernel) rfl rfl rfl (fun κ hl e C => ?_)
  show J (ωM α) κ 9 8 0 [(0, .ref (wad (ωM α) 0)), (1, .int a1), (2, .int a2), (3, .int a3), (4, .int a4)] [] σ
  refine j_iload_n C 1 dX12_odds_0 rfl ?_
  refine j_iconst (v := 0) C dX12_odds_1 (by decide) ?_
  refine j_ldc_w (v := 99999) C wd_1424 dX12_odds_2 ?_
  obtain ⟨r1, s2, hc3, h⟩ := bnd_some h
  refine k_S (v := some (.int r1)) C sb_X12_in (c12_in _ hc3) rfl (by decide) wd_1060 rfl dX12_odds_5 ?_
  show J (ωM α) κ _ _ 8 _ [.int r1] s2
  refine j_if_eq (tgt := 41) C dX12_odds_8 (by decide) (fun c4 => ?_) (fun c4 => ?_)
  · replace h := it c4 h
    refine j_ldc2_w (v := -4611686018427387904) C wd_1436 dX12_odds_41 ?_
    obtain ⟨hv, hs⟩ := s2_inj h
    subst hv
    subst hs
    exact j_lret C e dX12_odds_44
  · replace h := ie c4 h
    refine j_iload_n C 2 dX12_odds_11 rfl ?_
    refine j_iconst (v := 1) C dX12_odds_12 (by decide) ?_
    refine j_bipush (v := 60) C dX12_odds_13 (by decide) ?_
    obtain ⟨r5, s6, hc7, h⟩ := bnd_some h
    refine k_S (v := some (.int r5)) C sb_X12_in (c12_in _ hc7) rfl (by decide) wd_1060 rfl dX12_odds_15 ?_
    show J (ωM α) κ _ _ 18 _ [.int r5] s6
    refine j_if_eq (tgt := 41) C dX12_odds_18 (by decide) (fun c8 => ?_) (fun c8 => ?_)
    · replace h := it c8 h
      refine j_ldc2_w (v := -4611686018427387904) C wd_1436 dX12_odds_41 ?_
      obtain ⟨hv, hs⟩ := s2_inj h
      subst hv
      subst hs
      exact j_lret C e dX12_odds_44
    · replace h := ie c8 h
      refine j_iload_n C 3 dX12_odds_21 rfl ?_
      refine j_iconst (v := 0) C dX12_odds_22 (by decide) ?_
      refine j_bipush (v := 8) C dX12_odds_23 (by decide) ?_
      obtain ⟨r9, s10, hc11, h⟩ := bnd_some h
      refine k_S (v := some (.int r9)) C sb_X12_in (c12_in _ hc11) rfl (by decide) wd_1060 rfl dX12_odds_25 ?_
      show J (ωM α) κ _ _ 28 _ [.int r9] s10
      refine j_if_eq (tgt := 41) C dX12_odds_28 (by decide) (fun c12 => ?_) (fun c12 => ?_)
      · replace h := it c12 h
        refine j_ldc2_w (v := -4611686018427387904) C wd_1436 dX12_odds_41 ?_
        obtain ⟨hv, hs⟩ := s2_inj h
        subst hv
        subst hs
        exact j_lret C e dX12_odds_44
      · replace h := ie c12 h
        refine j_iload C 4 dX12_odds_31 rfl ?_
        refine j_iconst (v := 0) C dX12_odds_33 (by decide) ?_
        refine j_iconst (v := 1) C dX12_odds_34 (by decide) ?_
        obtain ⟨r13, s14, hc15, h⟩ := bnd_some h
        refine k_S (v := some (.int r13)) C sb_X12_in (c12_in _ hc15) rfl (by decide) wd_1060 rfl dX12_odds_35 ?_
        show J (ωM α) κ _ _ 38 _ [.int r13] s14
        refine j_if_ne (tgt := 45) C dX12_odds_38 (by decide) (fun c16 => ?_) (fun c16 => ?_)
        · replace h := ie c16 h
          refine j_lconst (v := 0) C dX12_odds_45 (by decide) ?_
          refine j_lstore (L' := [(5, .long (0 : Int64)), (0, .ref (wad (ωM α) 0)), (1, .int a1), (2, .int a2), (3, .int a3), (4, .int a4)]) C dX12_odds_46 rfl rfl ?_
          refine j_iconst (v := 0) C dX12_odds_48 (by decide) ?_
          refine j_istore (L' := [(7, .int (0 : Int32)), (5, .long (0 : Int64)), (0, .ref (wad (ωM α) 0)), (1, .int a1), (2, .int a2), (3, .int a3), (4, .int a4)]) C dX12_odds_49 rfl rfl ?_
          exact j_sub [2, 3, 4, 5, 6, 1, 0] rfl (b12_odds_51 C e h)
        · replace h := it c16 h
          refine j_ldc2_w (v := -4611686018427387904) C wd_1436 dX12_odds_41 ?_
          obtain ⟨hv, hs⟩ := s2_inj h
          subst hv
          subst hs
          exact j_lret C e dX12_odds_44
set_option maxRecDepth 10000 in
theorem b12_image_33 {α : WA} {κ : KT} {fu : Nat} {v : Int32} {σ' : M2} {x1 : Int32} (C : Cx (ωM α) κ cX12_image 2 "EveryoneWinsModel" (some FieldType.int)) (e : κ.2.2.2.2.2.2.2.2.2 = (some (.int v), σ'))  {σ : M2} (h : F12_image_33 fu x1 σ = some (v, σ')) : J (ωM α) κ 1 2 33 [(0, .ref (wad (ωM α) 0)), (1, .int x1)] [] σ := by
  unfold F12_image_33 at h
  refine wl1_ind (fun x1 σ => J (ωM α) κ 1 2 33 [(0, .ref (wad (ωM α) 0)), (1, .int x1)] [] σ) ?_ fu x1 σ h
  intro k33 hk33 x1 σ h
  try dsimp only at h
  show J (ωM α) κ 1 2 33 [(0, .ref (wad (ωM α) 0)), (1, .int x1)] [] σ
  refine j_iload_n C 1 dX12_image_33 rfl ?_
  refine j_bipush (v := 12) C dX12_image_34 (by decide) ?_
  refine j_icmp_ge (tgt := 60) C dX12_image_36 (by decide) (fun c1 => ?_) (fun c1 => ?_)
  · replace h := it c1 h
    refine j_aload_n C 0 dX12_image_60 rfl ?_
    refine j_getr (o := 0) (j := 14) C inT12 (ci := 11) rfl (by decide) (rfl) rfl rfl wd_1113 dX12_image_61 (o' := 9) rfl ?_
    refine j_iconst (v := 0) C dX12_image_64 (by decide) ?_
    refine j_aload_n C 0 dX12_image_65 rfl ?_
    refine j_geti (o := 0) (j := 2) C inT12 (ci := 11) rfl (by decide) (rfl) rfl rfl wd_1101 dX12_image_66 ?_
    refine j_iastore (N := 3) C (rfl) ((inb_in (by decide))) dX12_image_69 ?_
    refine j_aload_n C 0 dX12_image_70 rfl ?_
    refine j_getr (o := 0) (j := 14) C inT12 (ci := 11) rfl (by decide) (rfl) rfl rfl wd_1113 dX12_image_71 (o' := 9) rfl ?_
    refine j_iconst (v := 1) C dX12_image_74 (by decide) ?_
    refine j_aload_n C 0 dX12_image_75 rfl ?_
    refine j_geti (o := 0) (j := 0) C inT12 (ci := 11) rfl (by decide) (rfl) rfl rfl wd_1099 dX12_image_76 ?_
    refine j_iastore (N := 3) C (rfl) ((inb_in (by decide))) dX12_image_79 ?_
    refine j_aload_n C 0 dX12_image_80 rfl ?_
    refine j_getr (o := 0) (j := 14) C inT12 (ci := 11) rfl (by decide) (rfl) rfl rfl wd_1113 dX12_image_81 (o' := 9) rfl ?_
    refine j_iconst (v := 2) C dX12_image_84 (by decide) ?_
    refine j_aload_n C 0 dX12_image_85 rfl ?_
    refine j_geti (o := 0) (j := 11) C inT12 (ci := 11) rfl (by decide) (rfl) rfl rfl wd_1110 dX12_image_86 ?_
    refine j_iastore (N := 3) C (rfl) ((inb_in (by decide))) dX12_image_89 ?_
    refine j_aload_n C 0 dX12_image_90 rfl ?_
    refine j_geti (o := 0) (j := 2) C inT12 (ci := 11) rfl (by decide) (rfl) rfl rfl wd_1101 dX12_image_91 ?_
    obtain ⟨hv, hs⟩ := s2_inj h
    subst hv
    subst hs
    exact j_iret C e dX12_image_94
  · replace h := ie c1 h
    refine j_aload_n C 0 dX12_image_39 rfl ?_
    refine j_getr (o := 0) (j := 13) C inT12 (ci := 11) rfl (by decide) (rfl) rfl rfl wd_1112 dX12_image_40 (o' := 8) rfl ?_
    refine j_bipush (v := 24) C dX12_image_43 (by decide) ?_
    refine j_iload_n C 1 dX12_image_45 rfl ?_
    refine j_iadd C dX12_image_46 ?_
    refine j_aload_n C 0 dX12_image_47 rfl ?_
    refine j_getr (o := 0) (j := 5) C inT12 (ci := 11) rfl (by decide) (rfl) rfl rfl wd_1104 dX12_image_48 (o' := 4) rfl ?_
    refine j_iload_n C 1 dX12_image_51 rfl ?_
    obtain ⟨g2, h⟩ := gd_some h
    refine j_iaload (N := 12) C (rfl) (inb_in g2) dX12_image_52 ?_
    obtain ⟨g3, h⟩ := gd_some h
    refine j_iastore (N := 36) C (rfl) (inb_in g3) dX12_image_53 ?_
    refine j_iinc (L' := [(1, .int (x1 + 1)), (0, .ref (wad (ωM α) 0))]) C 1 dX12_image_54 rfl rfl rfl rfl ?_
    refine j_goto (tgt := 33) C dX12_image_57 (by decide) ?_
    exact j_sub [1, 0] rfl (hk33 _ _ h)
set_option maxRecDepth 10000 in
theorem b12_image_7 {α : WA} {κ : KT} {fu : Nat} {v : Int32} {σ' : M2} {x1 : Int32} (C : Cx (ωM α) κ cX12_image 2 "EveryoneWinsModel" (some FieldType.int)) (e : κ.2.2.2.2.2.2.2.2.2 = (some (.int v), σ'))  {σ : M2} (h : F12_image_7 fu x1 σ = some (v, σ')) : J (ωM α) κ 1 2 7 [(0, .ref (wad (ωM α) 0)), (1, .int x1)] [] σ := by
  unfold F12_image_7 at h
  refine wl1_ind (fun x1 σ => J (ωM α) κ 1 2 7 [(0, .ref (wad (ωM α) 0)), (1, .int x1)] [] σ) ?_ fu x1 σ h
  intro k7 hk7 x1 σ h
  try dsimp only at h
  show J (ωM α) κ 1 2 7 [(0, .ref (wad (ωM α) 0)), (1, .int x1)] [] σ
  refine j_iload_n C 1 dX12_image_7 rfl ?_
  refine j_bipush (v := 24) C dX12_image_8 (by decide) ?_
  refine j_icmp_ge (tgt := 31) C dX12_image_10 (by decide) (fun c1 => ?_) (fun c1 => ?_)
  · replace h := it c1 h
    refine j_iconst (v := 0) C dX12_image_31 (by decide) ?_
    refine j_istore_n (L' := [(1, .int (0 : Int32)), (0, .ref (wad (ωM α) 0))]) C dX12_image_32 rfl rfl rfl ?_
    exact j_sub [1, 0] rfl (b12_image_33 C e h)
  · replace h := ie c1 h
    refine j_aload_n C 0 dX12_image_13 rfl ?_
    refine j_getr (o := 0) (j := 13) C inT12 (ci := 11) rfl (by decide) (rfl) rfl rfl wd_1112 dX12_image_14 (o' := 8) rfl ?_
    refine j_iload_n C 1 dX12_image_17 rfl ?_
    refine j_aload_n C 0 dX12_image_18 rfl ?_
    refine j_getr (o := 0) (j := 1) C inT12 (ci := 11) rfl (by decide) (rfl) rfl rfl wd_1100 dX12_image_19 (o' := 1) rfl ?_
    refine j_iload_n C 1 dX12_image_22 rfl ?_
    obtain ⟨g2, h⟩ := gd_some h
    refine j_iaload (N := 24) C (rfl) (inb_in g2) dX12_image_23 ?_
    obtain ⟨g3, h⟩ := gd_some h
    refine j_iastore (N := 36) C (rfl) (inb_in g3) dX12_image_24 ?_
    refine j_iinc (L' := [(1, .int (x1 + 1)), (0, .ref (wad (ωM α) 0))]) C 1 dX12_image_25 rfl rfl rfl rfl ?_
    refine j_goto (tgt := 7) C dX12_image_28 (by decide) ?_
    exact j_sub [1, 0] rfl (hk7 _ _ h)
set_option maxRecDepth 10000 in
theorem c12_image (l : Launch) {α : WA} {fu : Nat}  {σ σ' : M2} {v : Int32}  (h : F12_image fu σ = some (v, σ')) : Ct l (ωM α) yX12_image cX12_image 2 (some FieldType.int) 1 [.ref (wad (ωM α) 0)] σ (some (.int v)) σ' := by
  unfold F12_image at h
  refine Ct.of (own := "EveryoneWinsModel") (L := [(0, .ref (wad (ωM α) 0))]) (by decide +kernel) rfl rfl rfl (fun κ hl e C => ?_)
  show J (ωM α) κ 1 2 0 [(0, .ref (wad (ωM α) 0))] [] σ
  refine j_aload_n C 0 dX12_image_0 rfl ?_
  refine j_iconst (v := 1) C dX12_image_1 (by decide) ?_
  refine j_puti (o := 0) (j := 12) C inT12 tyX12_ok nmX12 (ci := 11) rfl (by decide) (rfl) rfl rfl rfl (tyX12_ok 12 (by decide)) rfl rfl wd_1111 dX12_image_2 ?_
  refine j_iconst (v := 0) C dX12_image_5 (by decide) ?_
  refine j_istore_n (L' := [(1, .int (0 : Int32)), (0, .ref (wad (ωM α) 0))]) C dX12_image_6 rfl rfl rfl ?_
  exact j_sub [1, 0] rfl (b12_image_7 C e h)
set_option maxRecDepth 10000 in
theorem b12_back_38 {α : WA} {κ : KT} {fu : Nat} {v : Int32} {σ' : M2} {x1 : Int32} (C : Cx (ωM α) κ cX12_back 2 "EveryoneWinsModel" (some FieldType.int)) (e : κ.2.2.2.2.2.2.2.2.2 = (some (.int v), σ'))  {σ : M2} (h : F12_back_38 fu x1 σ = some (v, σ')) : J (ωM α) κ 1 2 38 [(0, .ref (wad (ωM α) 0)), (1, .int x1)] [] σ := by
  unfold F12_back_38 at h
  refine wl1_ind (fun x1 σ => J (ωM α) κ 1 2 38 [(0, .ref (wad (ωM α) 0)), (1, .int x1)] [] σ) ?_ fu x1 σ h
  intro k38 hk38 x1 σ h
  try dsimp only at h
  show J (ωM α) κ 1 2 38 [(0, .ref (wad (ωM α) 0)), (1, .int x1)] [] σ
  refine j_iload_n C 1 dX12_back_38 rfl ?_
  refine j_bipush (v := 12) C dX12_back_39 (by decide) ?_
  refine j_icmp_ge (tgt := 65) C dX12_back_41 (by decide) (fun c1 => ?_) (fun c1 => ?_)
  · replace h := it c1 h
    refine j_aload_n C 0 dX12_back_65 rfl ?_
    refine j_aload_n C 0 dX12_back_66 rfl ?_
    refine j_getr (o := 0) (j := 14) C inT12 (ci := 11) rfl (by decide) (rfl) rfl rfl wd_1113 dX12_back_67 (o' := 9) rfl ?_
    refine j_iconst (v := 0) C dX12_back_70 (by decide) ?_
    refine j_iaload (N := 3) C (rfl) ((inb_in (by decide))) dX12_back_71 ?_
    refine j_puti (o := 0) (j := 2) C inT12 tyX12_ok nmX12 (ci := 11) rfl (by decide) (rfl) rfl rfl rfl (tyX12_ok 2 (by decide)) rfl rfl wd_1101 dX12_back_72 ?_
    refine j_aload_n C 0 dX12_back_75 rfl ?_
    refine j_aload_n C 0 dX12_back_76 rfl ?_
    refine j_getr (o := 0) (j := 14) C inT12 (ci := 11) rfl (by decide) (rfl) rfl rfl wd_1113 dX12_back_77 (o' := 9) rfl ?_
    refine j_iconst (v := 1) C dX12_back_80 (by decide) ?_
    refine j_iaload (N := 3) C (rfl) ((inb_in (by decide))) dX12_back_81 ?_
    refine j_puti (o := 0) (j := 0) C inT12 tyX12_ok nmX12 (ci := 11) rfl (by decide) (rfl) rfl rfl rfl (tyX12_ok 0 (by decide)) rfl rfl wd_1099 dX12_back_82 ?_
    refine j_aload_n C 0 dX12_back_85 rfl ?_
    refine j_aload_n C 0 dX12_back_86 rfl ?_
    refine j_getr (o := 0) (j := 14) C inT12 (ci := 11) rfl (by decide) (rfl) rfl rfl wd_1113 dX12_back_87 (o' := 9) rfl ?_
    refine j_iconst (v := 2) C dX12_back_90 (by decide) ?_
    refine j_iaload (N := 3) C (rfl) ((inb_in (by decide))) dX12_back_91 ?_
    refine j_puti (o := 0) (j := 11) C inT12 tyX12_ok nmX12 (ci := 11) rfl (by decide) (rfl) rfl rfl rfl (tyX12_ok 11 (by decide)) rfl rfl wd_1110 dX12_back_92 ?_
    refine j_aload_n C 0 dX12_back_95 rfl ?_
    refine j_geti (o := 0) (j := 2) C inT12 (ci := 11) rfl (by decide) (rfl) rfl rfl wd_1101 dX12_back_96 ?_
    obtain ⟨hv, hs⟩ := s2_inj h
    subst hv
    subst hs
    exact j_iret C e dX12_back_99
  · replace h := ie c1 h
    refine j_aload_n C 0 dX12_back_44 rfl ?_
    refine j_getr (o := 0) (j := 5) C inT12 (ci := 11) rfl (by decide) (rfl) rfl rfl wd_1104 dX12_back_45 (o' := 4) rfl ?_
    refine j_iload_n C 1 dX12_back_48 rfl ?_
    refine j_aload_n C 0 dX12_back_49 rfl ?_
    refine j_getr (o := 0) (j := 13) C inT12 (ci := 11) rfl (by decide) (rfl) rfl rfl wd_1112 dX12_back_50 (o' := 8) rfl ?_
    refine j_bipush (v := 24) C dX12_back_53 (by decide) ?_
    refine j_iload_n C 1 dX12_back_55 rfl ?_
    refine j_iadd C dX12_back_56 ?_
    obtain ⟨g2, h⟩ := gd_some h
    refine j_iaload (N := 36) C (rfl) (inb_in g2) dX12_back_57 ?_
    obtain ⟨g3, h⟩ := gd_some h
    refine j_iastore (N := 12) C (rfl) (inb_in g3) dX12_back_58 ?_
    refine j_iinc (L' := [(1, .int (x1 + 1)), (0, .ref (wad (ωM α) 0))]) C 1 dX12_back_59 rfl rfl rfl rfl ?_
    refine j_goto (tgt := 38) C dX12_back_62 (by decide) ?_
    exact j_sub [1, 0] rfl (hk38 _ _ h)
set_option maxRecDepth 10000 in
theorem b12_back_12 {α : WA} {κ : KT} {fu : Nat} {v : Int32} {σ' : M2} {x1 : Int32} (C : Cx (ωM α) κ cX12_back 2 "EveryoneWinsModel" (some FieldType.int)) (e : κ.2.2.2.2.2.2.2.2.2 = (some (.int v), σ'))  {σ : M2} (h : F12_back_12 fu x1 σ = some (v, σ')) : J (ωM α) κ 1 2 12 [(0, .ref (wad (ωM α) 0)), (1, .int x1)] [] σ := by
  unfold F12_back_12 at h
  refine wl1_ind (fun x1 σ => J (ωM α) κ 1 2 12 [(0, .ref (wad (ωM α) 0)), (1, .int x1)] [] σ) ?_ fu x1 σ h
  intro k12 hk12 x1 σ h
  try dsimp only at h
  show J (ωM α) κ 1 2 12 [(0, .ref (wad (ωM α) 0)), (1, .int x1)] [] σ
  refine j_iload_n C 1 dX12_back_12 rfl ?_
  refine j_bipush (v := 24) C dX12_back_13 (by decide) ?_
  refine j_icmp_ge (tgt := 36) C dX12_back_15 (by decide) (fun c1 => ?_) (fun c1 => ?_)
  · replace h := it c1 h
    refine j_iconst (v := 0) C dX12_back_36 (by decide) ?_
    refine j_istore_n (L' := [(1, .int (0 : Int32)), (0, .ref (wad (ωM α) 0))]) C dX12_back_37 rfl rfl rfl ?_
    exact j_sub [1, 0] rfl (b12_back_38 C e h)
  · replace h := ie c1 h
    refine j_aload_n C 0 dX12_back_18 rfl ?_
    refine j_getr (o := 0) (j := 1) C inT12 (ci := 11) rfl (by decide) (rfl) rfl rfl wd_1100 dX12_back_19 (o' := 1) rfl ?_
    refine j_iload_n C 1 dX12_back_22 rfl ?_
    refine j_aload_n C 0 dX12_back_23 rfl ?_
    refine j_getr (o := 0) (j := 13) C inT12 (ci := 11) rfl (by decide) (rfl) rfl rfl wd_1112 dX12_back_24 (o' := 8) rfl ?_
    refine j_iload_n C 1 dX12_back_27 rfl ?_
    obtain ⟨g2, h⟩ := gd_some h
    refine j_iaload (N := 36) C (rfl) (inb_in g2) dX12_back_28 ?_
    obtain ⟨g3, h⟩ := gd_some h
    refine j_iastore (N := 24) C (rfl) (inb_in g3) dX12_back_29 ?_
    refine j_iinc (L' := [(1, .int (x1 + 1)), (0, .ref (wad (ωM α) 0))]) C 1 dX12_back_30 rfl rfl rfl rfl ?_
    refine j_goto (tgt := 12) C dX12_back_33 (by decide) ?_
    exact j_sub [1, 0] rfl (hk12 _ _ h)
set_option maxRecDepth 10000 in
theorem c12_back (l : Launch) {α : WA} {fu : Nat}  {σ σ' : M2} {v : Int32}  (h : F12_back fu σ = some (v, σ')) : Ct l (ωM α) yX12_back cX12_back 2 (some FieldType.int) 1 [.ref (wad (ωM α) 0)] σ (some (.int v)) σ' := by
  unfold F12_back at h
  refine Ct.of (own := "EveryoneWinsModel") (L := [(0, .ref (wad (ωM α) 0))]) (by decide +kernel) rfl rfl rfl (fun κ hl e C => ?_)
  show J (ωM α) κ 1 2 0 [(0, .ref (wad (ωM α) 0))] [] σ
  refine j_aload_n C 0 dX12_back_0 rfl ?_
  refine j_geti (o := 0) (j := 12) C inT12 (ci := 11) rfl (by decide) (rfl) rfl rfl wd_1111 dX12_back_1 ?_
  refine j_if_ne (tgt := 10) C dX12_back_4 (by decide) (fun c1 => ?_) (fun c1 => ?_)
  · replace h := ie c1 h
    refine j_iconst (v := 0) C dX12_back_10 (by decide) ?_
    refine j_istore_n (L' := [(1, .int (0 : Int32)), (0, .ref (wad (ωM α) 0))]) C dX12_back_11 rfl rfl rfl ?_
    exact j_sub [1, 0] rfl (b12_back_12 C e h)
  · replace h := it c1 h
    refine j_bipush (v := -3) C dX12_back_7 (by decide) ?_
    obtain ⟨hv, hs⟩ := s2_inj h
    subst hv
    subst hs
    exact j_iret C e dX12_back_9
set_option maxRecDepth 10000 in
theorem b12_sheet_70 {α : WA} {κ : KT} {fu : Nat} {v : Int32} {σ' : M2} {x1 : Int32} {x4 : Int32} (C : Cx (ωM α) κ cX12_sheet 5 "EveryoneWinsModel" (some FieldType.int)) (e : κ.2.2.2.2.2.2.2.2.2 = (some (.int v), σ'))  {σ : M2} (h : F12_sheet_70 fu x1 x4 σ = some (v, σ')) : J (ωM α) κ 2 5 70 [(0, .ref (wad (ωM α) 0)), (1, .int x1), (4, .int x4)] [] σ := by
  unfold F12_sheet_70 at h
  refine wl1_ind (fun x4 σ => J (ωM α) κ 2 5 70 [(0, .ref (wad (ωM α) 0)), (1, .int x1), (4, .int x4)] [] σ) ?_ fu x4 σ h
  intro k70 hk70 x4 σ h
  try dsimp only at h
  show J (ωM α) κ 2 5 70 [(0, .ref (wad (ωM α) 0)), (1, .int x1), (4, .int x4)] [] σ
  refine j_iload C 2 dX12_sheet_70 rfl ?_
  refine j_bipush (v := 40) C dX12_sheet_72 (by decide) ?_
  refine j_icmp_ge (tgt := 96) C dX12_sheet_74 (by decide) (fun c1 => ?_) (fun c1 => ?_)
  · replace h := it c1 h
    refine j_iconst (v := 1) C dX12_sheet_96 (by decide) ?_
    obtain ⟨hv, hs⟩ := s2_inj h
    subst hv
    subst hs
    exact j_iret C e dX12_sheet_97
  · replace h := ie c1 h
    refine j_aload_n C 0 dX12_sheet_77 rfl ?_
    refine j_getr (o := 0) (j := 17) C inT12 (ci := 11) rfl (by decide) (rfl) rfl rfl wd_1116 dX12_sheet_78 (o' := 12) rfl ?_
    refine j_bipush (v := 40) C dX12_sheet_81 (by decide) ?_
    refine j_iload_n C 1 dX12_sheet_83 rfl ?_
    refine j_imul C dX12_sheet_84 ?_
    refine j_iload C 2 dX12_sheet_85 rfl ?_
    refine j_iadd C dX12_sheet_87 ?_
    refine j_iconst (v := 0) C dX12_sheet_88 (by decide) ?_
    obtain ⟨g2, h⟩ := gd_some h
    refine j_iastore (N := 160) C (rfl) (inb_in g2) dX12_sheet_89 ?_
    refine j_iinc (L' := [(4, .int (x4 + 1)), (0, .ref (wad (ωM α) 0)), (1, .int x1)]) C 2 dX12_sheet_90 rfl rfl rfl rfl ?_
    refine j_goto (tgt := 70) C dX12_sheet_93 (by decide) ?_
    exact j_sub [1, 2, 0] rfl (hk70 _ _ h)
set_option maxRecDepth 10000 in
theorem b12_sheet_66 {α : WA} {κ : KT} {fu : Nat} {v : Int32} {σ' : M2} {x1 : Int32} {y0 : Int32} {y1 : Int32} (C : Cx (ωM α) κ cX12_sheet 5 "EveryoneWinsModel" (some FieldType.int)) (e : κ.2.2.2.2.2.2.2.2.2 = (some (.int v), σ'))  {σ : M2} (h : F12_sheet_66 fu x1 y0 y1 σ = some (v, σ')) : J (ωM α) κ 2 5 66 [(0, .ref (wad (ωM α) 0)), (1, .int x1)] [.int y0, .int y1, .ref (wad (ωM α) 11)] σ := by
  unfold F12_sheet_66 at h
  obtain ⟨g1, h⟩ := gd_some h
  refine j_iastore (N := 4) C (rfl) (inb_in g1) dX12_sheet_66 ?_
  refine j_iconst (v := 0) C dX12_sheet_67 (by decide) ?_
  refine j_istore (L' := [(4, .int (0 : Int32)), (0, .ref (wad (ωM α) 0)), (1, .int x1)]) C dX12_sheet_68 rfl rfl ?_
  exact j_sub [1, 2, 0] rfl (b12_sheet_70 C e h)
set_option maxRecDepth 10000 in
theorem b12_sheet_44 {α : WA} {κ : KT} {fu : Nat} {v : Int32} {σ' : M2} {x1 : Int32} {x2 : Int32} {x3 : Int32} (C : Cx (ωM α) κ cX12_sheet 5 "EveryoneWinsModel" (some FieldType.int)) (e : κ.2.2.2.2.2.2.2.2.2 = (some (.int v), σ'))  {σ : M2} (h : F12_sheet_44 fu x1 x2 x3 σ = some (v, σ')) : J (ωM α) κ 2 5 44 [(0, .ref (wad (ωM α) 0)), (1, .int x1), (2, .int x2), (3, .int x3)] [] σ := by
  unfold F12_sheet_44 at h
  refine j_aload_n C 0 dX12_sheet_44 rfl ?_
  refine j_getr (o := 0) (j := 15) C inT12 (ci := 11) rfl (by decide) (rfl) rfl rfl wd_1114 dX12_sheet_45 (o' := 10) rfl ?_
  refine j_iload_n C 1 dX12_sheet_48 rfl ?_
  refine j_iload_n C 2 dX12_sheet_49 rfl ?_
  obtain ⟨g1, h⟩ := gd_some h
  refine j_iastore (N := 4) C (rfl) (inb_in g1) dX12_sheet_50 ?_
  refine j_aload_n C 0 dX12_sheet_51 rfl ?_
  refine j_getr (o := 0) (j := 16) C inT12 (ci := 11) rfl (by decide) (rfl) rfl rfl wd_1115 dX12_sheet_52 (o' := 11) rfl ?_
  refine j_iload_n C 1 dX12_sheet_55 rfl ?_
  refine j_iload_n C 2 dX12_sheet_56 rfl ?_
  refine j_iconst (v := -1) C dX12_sheet_57 (by decide) ?_
  refine j_icmp_ne (tgt := 65) C dX12_sheet_58 (by decide) (fun c2 => ?_) (fun c2 => ?_)
  · replace h := ie c2 h
    refine j_iload_n C 3 dX12_sheet_65 rfl ?_
    exact j_sub [0, 1] rfl (b12_sheet_66 C e h)
  · replace h := it c2 h
    refine j_iconst (v := 0) C dX12_sheet_61 (by decide) ?_
    refine j_goto (tgt := 66) C dX12_sheet_62 (by decide) ?_
    exact j_sub [0, 1] rfl (b12_sheet_66 C e h)
set_option maxRecDepth 10000 in
theorem b12_sheet_32 {α : WA} {κ : KT} {fu : Nat} {v : Int32} {σ' : M2} {x1 : Int32} {x2 : Int32} {x3 : Int32} (C : Cx (ωM α) κ cX12_sheet 5 "EveryoneWinsModel" (some FieldType.int)) (e : κ.2.2.2.2.2.2.2.2.2 = (some (.int v), σ'))  {σ : M2} (h : F12_sheet_32 fu x1 x2 x3 σ = some (v, σ')) : J (ωM α) κ 2 5 32 [(0, .ref (wad (ωM α) 0)), (1, .int x1), (2, .int x2), (3, .int x3)] [] σ := by
  unfold F12_sheet_32 at h
  refine j_iload_n C 2 dX12_sheet_32 rfl ?_
  refine j_iconst (v := -1) C dX12_sheet_33 (by decide) ?_
  refine j_icmp_eq (tgt := 44) C dX12_sheet_34 (by decide) (fun c1 => ?_) (fun c1 => ?_)
  · replace h := it c1 h
    exact (b12_sheet_44 C e h)
  · replace h := ie c1 h
    refine j_iload_n C 3 dX12_sheet_37 rfl ?_
    refine j_if_ge (tgt := 44) C dX12_sheet_38 (by decide) (fun c2 => ?_) (fun c2 => ?_)
    · replace h := it c2 h
      exact (b12_sheet_44 C e h)
    · replace h := ie c2 h
      refine j_bipush (v := -14) C dX12_sheet_41 (by decide) ?_
      obtain ⟨hv, hs⟩ := s2_inj h
      subst hv
      subst hs
      exact j_iret C e dX12_sheet_43
set_option maxRecDepth 10000 in
theorem c12_sheet (l : Launch) {α : WA} {fu : Nat} {a1 : Int32} {a2 : Int32} {a3 : Int32} {σ σ' : M2} {v : Int32}  (h : F12_sheet fu a1 a2 a3 σ = some (v, σ')) : Ct l (ωM α) yX12_sheet cX12_sheet 5 (some FieldType.int) 2 [.ref (wad (ωM α) 0), .int a1, .int a2, .int a3] σ (some (.int v)) σ' := by
  unfold F12_sheet at h
  refine Ct.of (own := "EveryoneWinsModel") (L := [(0, .ref (wad (ωM α) 0)), (1, .int a1), (2, .int a2), (3, .int a3)]) (by decide +kernel) rfl rfl rfl (fun κ hl e C => ?_)
  show J (ωM α) κ 2 5 0 [(0, .ref (wad (ωM α) 0)), (1, .int a1), (2, .int a2), (3, .int a3)] [] σ
  refine j_iload_n C 1 dX12_sheet_0 rfl ?_
  refine j_iconst (v := 0) C dX12_sheet_1 (by decide) ?_
  refine j_iconst (v := 3) C dX12_sheet_2 (by decide) ?_
  obtain ⟨r1, s2, hc3, h⟩ := bnd_some h
  refine k_S (v := some (.int r1)) C sb_X12_in (c12_in _ hc3) rfl (by decide) wd_1060 rfl dX12_sheet_3 ?_
  show J (ωM α) κ _ _ 6 _ [.int r1] s2
  refine j_if_eq (tgt := 29) C dX12_sheet_6 (by decide) (fun c4 => ?_) (fun c4 => ?_)
  · replace h := it c4 h
    refine j_bipush (v := -2) C dX12_sheet_29 (by decide) ?_
    obtain ⟨hv, hs⟩ := s2_inj h
    subst hv
    subst hs
    exact j_iret C e dX12_sheet_31
  · replace h := ie c4 h
    refine j_iload_n C 2 dX12_sheet_9 rfl ?_
    refine j_iconst (v := -1) C dX12_sheet_10 (by decide) ?_
    refine j_iconst (v := 2) C dX12_sheet_11 (by decide) ?_
    obtain ⟨r5, s6, hc7, h⟩ := bnd_some h
    refine k_S (v := some (.int r5)) C sb_X12_in (c12_in _ hc7) rfl (by decide) wd_1060 rfl dX12_sheet_12 ?_
    show J (ωM α) κ _ _ 15 _ [.int r5] s6
    refine j_if_eq (tgt := 29) C dX12_sheet_15 (by decide) (fun c8 => ?_) (fun c8 => ?_)
    · replace h := it c8 h
      refine j_bipush (v := -2) C dX12_sheet_29 (by decide) ?_
      obtain ⟨hv, hs⟩ := s2_inj h
      subst hv
      subst hs
      exact j_iret C e dX12_sheet_31
    · replace h := ie c8 h
      refine j_iload_n C 2 dX12_sheet_18 rfl ?_
      refine j_iconst (v := -1) C dX12_sheet_19 (by decide) ?_
      refine j_icmp_eq (tgt := 32) C dX12_sheet_20 (by decide) (fun c9 => ?_) (fun c9 => ?_)
      · replace h := it c9 h
        exact (b12_sheet_32 C e h)
      · replace h := ie c9 h
        refine j_iload_n C 3 dX12_sheet_23 rfl ?_
        refine j_bipush (v := 40) C dX12_sheet_24 (by decide) ?_
        refine j_icmp_le (tgt := 32) C dX12_sheet_26 (by decide) (fun c10 => ?_) (fun c10 => ?_)
        · replace h := it c10 h
          exact (b12_sheet_32 C e h)
        · replace h := ie c10 h
          refine j_bipush (v := -2) C dX12_sheet_29 (by decide) ?_
          obtain ⟨hv, hs⟩ := s2_inj h
          subst hv
          subst hs
          exact j_iret C e dX12_sheet_31
set_option maxRecDepth 10000 in
theorem b12_cell_84 {α : WA} {κ : KT}  {v : Int32} {σ' : M2} {y0 : Int32} {y1 : Int32} (C : Cx (ωM α) κ cX12_cell 4 "EveryoneWinsModel" (some FieldType.int)) (e : κ.2.2.2.2.2.2.2.2.2 = (some (.int v), σ'))  {σ : M2} (h : F12_cell_84 y0 y1 σ = some (v, σ')) : J (ωM α) κ 2 4 84 [] [.int y0, .int y1, .ref (wad (ωM α) 12)] σ := by
  unfold F12_cell_84 at h
  obtain ⟨g1, h⟩ := gd_some h
  refine j_iastore (N := 160) C (rfl) (inb_in g1) dX12_cell_84 ?_
  refine j_iconst (v := 1) C dX12_cell_85 (by decide) ?_
  obtain ⟨hv, hs⟩ := s2_inj h
  subst hv
  subst hs
  exact j_iret C e dX12_cell_86
set_option maxRecDepth 10000 in
theorem c12_cell (l : Launch) {α : WA}  {a1 : Int32} {a2 : Int32} {a3 : Int32} {σ σ' : M2} {v : Int32}  (h : F12_cell a1 a2 a3 σ = some (v, σ')) : Ct l (ωM α) yX12_cell cX12_cell 4 (some FieldType.int) 2 [.ref (wad (ωM α) 0), .int a1, .int a2, .int a3] σ (some (.int v)) σ' := by
  unfold F12_cell at h
  refine Ct.of (own := "EveryoneWinsModel") (L := [(0, .ref (wad (ωM α) 0)), (1, .int a1), (2, .int a2), (3, .int a3)]) (by decide +kernel) rfl rfl rfl (fun κ hl e C => ?_)
  show J (ωM α) κ 2 4 0 [(0, .ref (wad (ωM α) 0)), (1, .int a1), (2, .int a2), (3, .int a3)] [] σ
  refine j_iload_n C 1 dX12_cell_0 rfl ?_
  refine j_iconst (v := 0) C dX12_cell_1 (by decide) ?_
  refine j_iconst (v := 3) C dX12_cell_2 (by decide) ?_
  obtain ⟨r1, s2, hc3, h⟩ := bnd_some h
  refine k_S (v := some (.int r1)) C sb_X12_in (c12_in _ hc3) rfl (by decide) wd_1060 rfl dX12_cell_3 ?_
  show J (ωM α) κ _ _ 6 _ [.int r1] s2
  refine j_if_ne (tgt := 12) C dX12_cell_6 (by decide) (fun c4 => ?_) (fun c4 => ?_)
  · replace h := ie c4 h
    refine j_aload_n C 0 dX12_cell_12 rfl ?_
    refine j_getr (o := 0) (j := 15) C inT12 (ci := 11) rfl (by decide) (rfl) rfl rfl wd_1114 dX12_cell_13 (o' := 10) rfl ?_
    refine j_iload_n C 1 dX12_cell_16 rfl ?_
    obtain ⟨g5, h⟩ := gd_some h
    refine j_iaload (N := 4) C (rfl) (inb_in g5) dX12_cell_17 ?_
    refine j_iconst (v := -1) C dX12_cell_18 (by decide) ?_
    refine j_icmp_ne (tgt := 25) C dX12_cell_19 (by decide) (fun c6 => ?_) (fun c6 => ?_)
    · replace h := ie c6 h
      refine j_iload_n C 2 dX12_cell_25 rfl ?_
      refine j_iconst (v := 0) C dX12_cell_26 (by decide) ?_
      refine j_aload_n C 0 dX12_cell_27 rfl ?_
      refine j_getr (o := 0) (j := 16) C inT12 (ci := 11) rfl (by decide) (rfl) rfl rfl wd_1115 dX12_cell_28 (o' := 11) rfl ?_
      refine j_iload_n C 1 dX12_cell_31 rfl ?_
      refine j_iaload (N := 4) C (rfl) (inb_in g5) dX12_cell_32 ?_
      refine j_iconst (v := 1) C dX12_cell_33 (by decide) ?_
      refine j_isub C dX12_cell_34 ?_
      obtain ⟨r7, s8, hc9, h⟩ := bnd_some h
      refine k_S (v := some (.int r7)) C sb_X12_in (c12_in _ hc9) rfl (by decide) wd_1060 rfl dX12_cell_35 ?_
      show J (ωM α) κ _ _ 38 _ [.int r7] s8
      refine j_if_ne (tgt := 44) C dX12_cell_38 (by decide) (fun c10 => ?_) (fun c10 => ?_)
      · replace h := ie c10 h
        refine j_aload_n C 0 dX12_cell_44 rfl ?_
        refine j_getr (o := 0) (j := 17) C inT12 (ci := 11) rfl (by decide) (rfl) rfl rfl wd_1116 dX12_cell_45 (o' := 12) rfl ?_
        refine j_bipush (v := 40) C dX12_cell_48 (by decide) ?_
        refine j_iload_n C 1 dX12_cell_50 rfl ?_
        refine j_imul C dX12_cell_51 ?_
        refine j_iload_n C 2 dX12_cell_52 rfl ?_
        refine j_iadd C dX12_cell_53 ?_
        refine j_aload_n C 0 dX12_cell_54 rfl ?_
        refine j_getr (o := 0) (j := 15) C inT12 (ci := 11) rfl (by decide) (rfl) rfl rfl wd_1114 dX12_cell_55 (o' := 10) rfl ?_
        refine j_iload_n C 1 dX12_cell_58 rfl ?_
        refine j_iaload (N := 4) C (rfl) (inb_in g5) dX12_cell_59 ?_
        refine j_if_ne (tgt := 68) C dX12_cell_60 (by decide) (fun c11 => ?_) (fun c11 => ?_)
        · replace h := ie c11 h
          refine j_aload_n C 0 dX12_cell_68 rfl ?_
          refine j_getr (o := 0) (j := 15) C inT12 (ci := 11) rfl (by decide) (rfl) rfl rfl wd_1114 dX12_cell_69 (o' := 10) rfl ?_
          refine j_iload_n C 1 dX12_cell_72 rfl ?_
          refine j_iaload (N := 4) C (rfl) (inb_in g5) dX12_cell_73 ?_
          refine j_iconst (v := 1) C dX12_cell_74 (by decide) ?_
          refine j_icmp_ne (tgt := 83) C dX12_cell_75 (by decide) (fun c12 => ?_) (fun c12 => ?_)
          · replace h := ie c12 h
            refine j_iload_n C 3 dX12_cell_83 rfl ?_
            exact j_sub [] rfl (b12_cell_84 C e h)
          · replace h := it c12 h
            refine j_iload_n C 3 dX12_cell_78 rfl ?_
            refine j_i2s C dX12_cell_79 ?_
            refine j_goto (tgt := 84) C dX12_cell_80 (by decide) ?_
            exact j_sub [] rfl (b12_cell_84 C e h)
        · replace h := it c11 h
          refine j_iload_n C 3 dX12_cell_63 rfl ?_
          refine j_i2b C dX12_cell_64 ?_
          refine j_goto (tgt := 84) C dX12_cell_65 (by decide) ?_
          exact j_sub [] rfl (b12_cell_84 C e h)
      · replace h := it c10 h
        refine j_bipush (v := -12) C dX12_cell_41 (by decide) ?_
        obtain ⟨hv, hs⟩ := s2_inj h
        subst hv
        subst hs
        exact j_iret C e dX12_cell_43
    · replace h := it c6 h
      refine j_bipush (v := -11) C dX12_cell_22 (by decide) ?_
      obtain ⟨hv, hs⟩ := s2_inj h
      subst hv
      subst hs
      exact j_iret C e dX12_cell_24
  · replace h := it c4 h
    refine j_bipush (v := -2) C dX12_cell_9 (by decide) ?_
    obtain ⟨hv, hs⟩ := s2_inj h
    subst hv
    subst hs
    exact j_iret C e dX12_cell_11
set_option maxRecDepth 10000 in
theorem b12_copy_173 {α : WA} {κ : KT} {fu : Nat} {v : Int32} {σ' : M2} {x5 : Int32} {x6 : Int32} {x7 : Int32} {x8 : Int32} {y0 : Int32} (C : Cx (ωM α) κ cX12_copy 10 "EveryoneWinsModel" (some FieldType.int)) (e : κ.2.2.2.2.2.2.2.2.2 = (some (.int v), σ')) {k147 : Int32 → M2 → Option (Int32 × M2)} (hk147 : ∀ (x8' : Int32) (σ : M2), k147 x8' σ = some (v, σ') → J (ωM α) κ 2 10 147 [(0, .ref (wad (ωM α) 0)), (5, .int x5), (6, .int x6), (7, .int x7), (8, .int x8')] [] σ) {σ : M2} (h : F12_copy_173 fu k147 x5 x6 x7 x8 y0 σ = some (v, σ')) : J (ωM α) κ 2 10 173 [(0, .ref (wad (ωM α) 0)), (5, .int x5), (6, .int x6), (7, .int x7), (8, .int x8)] [.int y0] σ := by
  unfold F12_copy_173 at h
  refine j_istore (L' := [(9, .int y0), (0, .ref (wad (ωM α) 0)), (5, .int x5), (6, .int x6), (7, .int x7), (8, .int x8)]) C dX12_copy_173 rfl rfl ?_
  refine j_aload_n C 1 dX12_copy_175 rfl ?_
  refine j_getr (o := 0) (j := 17) C inT12 (ci := 11) rfl (by decide) (rfl) rfl rfl wd_1116 dX12_copy_176 (o' := 12) rfl ?_
  refine j_iload C 4 dX12_copy_179 rfl ?_
  refine j_iload C 0 dX12_copy_181 rfl ?_
  refine j_iadd C dX12_copy_183 ?_
  refine j_aload_n C 1 dX12_copy_184 rfl ?_
  refine j_getr (o := 0) (j := 17) C inT12 (ci := 11) rfl (by decide) (rfl) rfl rfl wd_1116 dX12_copy_185 (o' := 12) rfl ?_
  refine j_iload C 3 dX12_copy_188 rfl ?_
  refine j_iload C 0 dX12_copy_190 rfl ?_
  refine j_iadd C dX12_copy_192 ?_
  obtain ⟨g1, h⟩ := gd_some h
  refine j_iaload (N := 160) C (rfl) (inb_in g1) dX12_copy_193 ?_
  obtain ⟨g2, h⟩ := gd_some h
  refine j_iastore (N := 160) C (rfl) (inb_in g2) dX12_copy_194 ?_
  refine j_iinc (L' := [(8, .int (x8 + 1)), (9, .int y0), (0, .ref (wad (ωM α) 0)), (5, .int x5), (6, .int x6), (7, .int x7)]) C 5 dX12_copy_195 rfl rfl rfl rfl ?_
  refine j_goto (tgt := 147) C dX12_copy_198 (by decide) ?_
  exact j_sub [2, 3, 4, 5, 0] rfl (hk147 _ _ h)
set_option maxRecDepth 10000 in
theorem b12_copy_147 {α : WA} {κ : KT} {fu : Nat} {v : Int32} {σ' : M2} {x5 : Int32} {x6 : Int32} {x7 : Int32} {x8 : Int32} (C : Cx (ωM α) κ cX12_copy 10 "EveryoneWinsModel" (some FieldType.int)) (e : κ.2.2.2.2.2.2.2.2.2 = (some (.int v), σ'))  {σ : M2} (h : F12_copy_147 fu x5 x6 x7 x8 σ = some (v, σ')) : J (ωM α) κ 2 10 147 [(0, .ref (wad (ωM α) 0)), (5, .int x5), (6, .int x6), (7, .int x7), (8, .int x8)] [] σ := by
  unfold F12_copy_147 at h
  refine wl1_ind (fun x8 σ => J (ωM α) κ 2 10 147 [(0, .ref (wad (ωM α) 0)), (5, .int x5), (6, .int x6), (7, .int x7), (8, .int x8)] [] σ) ?_ fu x8 σ h
  intro k147 hk147 x8 σ h
  try dsimp only at h
  show J (ωM α) κ 2 10 147 [(0, .ref (wad (ωM α) 0)), (5, .int x5), (6, .int x6), (7, .int x7), (8, .int x8)] [] σ
  refine j_iload C 4 dX12_copy_147 rfl ?_
  refine j_iload C 1 dX12_copy_149 rfl ?_
  refine j_icmp_ge (tgt := 201) C dX12_copy_151 (by decide) (fun c1 => ?_) (fun c1 => ?_)
  · replace h := it c1 h
    refine j_iload C 1 dX12_copy_201 rfl ?_
    obtain ⟨hv, hs⟩ := s2_inj h
    subst hv
    subst hs
    exact j_iret C e dX12_copy_203
  · replace h := ie c1 h
    refine j_iload C 2 dX12_copy_154 rfl ?_
    refine j_iload C 3 dX12_copy_156 rfl ?_
    refine j_icmp_ge (tgt := 171) C dX12_copy_158 (by decide) (fun c2 => ?_) (fun c2 => ?_)
    · replace h := it c2 h
      refine j_iload C 4 dX12_copy_171 rfl ?_
      exact (b12_copy_173 C e hk147 h)
    · replace h := ie c2 h
      refine j_iload C 1 dX12_copy_161 rfl ?_
      refine j_iconst (v := 1) C dX12_copy_163 (by decide) ?_
      refine j_isub C dX12_copy_164 ?_
      refine j_iload C 4 dX12_copy_165 rfl ?_
      refine j_isub C dX12_copy_167 ?_
      refine j_goto (tgt := 173) C dX12_copy_168 (by decide) ?_
      exact (b12_copy_173 C e hk147 h)
set_option maxRecDepth 10000 in
theorem c12_copy (l : Launch) {α : WA} {fu : Nat} {a1 : Int32} {a2 : Int32} {a3 : Int32} {a4 : Int32} {a5 : Int32} {σ σ' : M2} {v : Int32}  (h : F12_copy fu a1 a2 a3 a4 a5 σ = some (v, σ')) : Ct l (ωM α) yX12_copy cX12_copy 10 (some FieldType.int) 2 [.ref (wad (ωM α) 0), .int a1, .int a2, .int a3, .int a4, .int a5] σ (some (.int v)) σ' := by
  unfold F12_copy at h
  refine Ct.of (own := "EveryoneWinsModel") (L := [(0, .ref (wad (ωM α) 0)), (1, .int a1), (2, .int a2), (3, .int a3), (4, .int a4), (5, .int a5)]) (by decide +kernel) rfl rfl rfl (fun κ hl e C => ?_)
  show J (ωM α) κ 2 10 0 [(0, .ref (wad (ωM α) 0)), (1, .int a1), (2, .int a2), (3, .int a3), (4, .int a4), (5, .int a5)] [] σ
  refine j_iload_n C 1 dX12_copy_0 rfl ?_
  refine j_iconst (v := 0) C dX12_copy_1 (by decide) ?_
  refine j_iconst (v := 3) C dX12_copy_2 (by decide) ?_
  obtain ⟨r1, s2, hc3, h⟩ := bnd_some h
  refine k_S (v := some (.int r1)) C sb_X12_in (c12_in _ hc3) rfl (by decide) wd_1060 rfl dX12_copy_3 ?_
  show J (ωM α) κ _ _ 6 _ [.int r1] s2
  refine j_if_eq (tgt := 18) C dX12_copy_6 (by decide) (fun c4 => ?_) (fun c4 => ?_)
  · replace h := it c4 h
    refine j_bipush (v := -2) C dX12_copy_18 (by decide) ?_
    obtain ⟨hv, hs⟩ := s2_inj h
    subst hv
    subst hs
    exact j_iret C e dX12_copy_20
  · replace h := ie c4 h
    refine j_iload_n C 3 dX12_copy_9 rfl ?_
    refine j_iconst (v := 0) C dX12_copy_10 (by decide) ?_
    refine j_iconst (v := 3) C dX12_copy_11 (by decide) ?_
    obtain ⟨r5, s6, hc7, h⟩ := bnd_some h
    refine k_S (v := some (.int r5)) C sb_X12_in (c12_in _ hc7) rfl (by decide) wd_1060 rfl dX12_copy_12 ?_
    show J (ωM α) κ _ _ 15 _ [.int r5] s6
    refine j_if_ne (tgt := 21) C dX12_copy_15 (by decide) (fun c8 => ?_) (fun c8 => ?_)
    · replace h := ie c8 h
      refine j_aload_n C 0 dX12_copy_21 rfl ?_
      refine j_getr (o := 0) (j := 15) C inT12 (ci := 11) rfl (by decide) (rfl) rfl rfl wd_1114 dX12_copy_22 (o' := 10) rfl ?_
      refine j_iload_n C 1 dX12_copy_25 rfl ?_
      obtain ⟨g9, h⟩ := gd_some h
      refine j_iaload (N := 4) C (rfl) (inb_in g9) dX12_copy_26 ?_
      refine j_iconst (v := -1) C dX12_copy_27 (by decide) ?_
      refine j_icmp_eq (tgt := 41) C dX12_copy_28 (by decide) (fun c10 => ?_) (fun c10 => ?_)
      · replace h := it c10 h
        refine j_bipush (v := -11) C dX12_copy_41 (by decide) ?_
        obtain ⟨hv, hs⟩ := s2_inj h
        subst hv
        subst hs
        exact j_iret C e dX12_copy_43
      · replace h := ie c10 h
        refine j_aload_n C 0 dX12_copy_31 rfl ?_
        refine j_getr (o := 0) (j := 15) C inT12 (ci := 11) rfl (by decide) (rfl) rfl rfl wd_1114 dX12_copy_32 (o' := 10) rfl ?_
        refine j_iload_n C 3 dX12_copy_35 rfl ?_
        obtain ⟨g11, h⟩ := gd_some h
        refine j_iaload (N := 4) C (rfl) (inb_in g11) dX12_copy_36 ?_
        refine j_iconst (v := -1) C dX12_copy_37 (by decide) ?_
        refine j_icmp_ne (tgt := 44) C dX12_copy_38 (by decide) (fun c12 => ?_) (fun c12 => ?_)
        · replace h := ie c12 h
          refine j_aload_n C 0 dX12_copy_44 rfl ?_
          refine j_getr (o := 0) (j := 15) C inT12 (ci := 11) rfl (by decide) (rfl) rfl rfl wd_1114 dX12_copy_45 (o' := 10) rfl ?_
          refine j_iload_n C 1 dX12_copy_48 rfl ?_
          refine j_iaload (N := 4) C (rfl) (inb_in g9) dX12_copy_49 ?_
          refine j_aload_n C 0 dX12_copy_50 rfl ?_
          refine j_getr (o := 0) (j := 15) C inT12 (ci := 11) rfl (by decide) (rfl) rfl rfl wd_1114 dX12_copy_51 (o' := 10) rfl ?_
          refine j_iload_n C 3 dX12_copy_54 rfl ?_
          refine j_iaload (N := 4) C (rfl) (inb_in g11) dX12_copy_55 ?_
          refine j_icmp_eq (tgt := 62) C dX12_copy_56 (by decide) (fun c13 => ?_) (fun c13 => ?_)
          · replace h := it c13 h
            refine j_iload C 5 dX12_copy_62 rfl ?_
            refine j_if_lt (tgt := 124) C dX12_copy_64 (by decide) (fun c14 => ?_) (fun c14 => ?_)
            · replace h := it c14 h
              refine j_bipush (v := -12) C dX12_copy_124 (by decide) ?_
              obtain ⟨hv, hs⟩ := s2_inj h
              subst hv
              subst hs
              exact j_iret C e dX12_copy_126
            · replace h := ie c14 h
              refine j_iload_n C 2 dX12_copy_67 rfl ?_
              refine j_if_lt (tgt := 124) C dX12_copy_68 (by decide) (fun c15 => ?_) (fun c15 => ?_)
              · replace h := it c15 h
                refine j_bipush (v := -12) C dX12_copy_124 (by decide) ?_
                obtain ⟨hv, hs⟩ := s2_inj h
                subst hv
                subst hs
                exact j_iret C e dX12_copy_126
              · replace h := ie c15 h
                refine j_iload C 4 dX12_copy_71 rfl ?_
                refine j_if_lt (tgt := 124) C dX12_copy_73 (by decide) (fun c16 => ?_) (fun c16 => ?_)
                · replace h := it c16 h
                  refine j_bipush (v := -12) C dX12_copy_124 (by decide) ?_
                  obtain ⟨hv, hs⟩ := s2_inj h
                  subst hv
                  subst hs
                  exact j_iret C e dX12_copy_126
                · replace h := ie c16 h
                  refine j_iload_n C 2 dX12_copy_76 rfl ?_
                  refine j_aload_n C 0 dX12_copy_77 rfl ?_
                  refine j_getr (o := 0) (j := 16) C inT12 (ci := 11) rfl (by decide) (rfl) rfl rfl wd_1115 dX12_copy_78 (o' := 11) rfl ?_
                  refine j_iload_n C 1 dX12_copy_81 rfl ?_
                  refine j_iaload (N := 4) C (rfl) (inb_in g9) dX12_copy_82 ?_
                  refine j_icmp_gt (tgt := 124) C dX12_copy_83 (by decide) (fun c17 => ?_) (fun c17 => ?_)
                  · replace h := it c17 h
                    refine j_bipush (v := -12) C dX12_copy_124 (by decide) ?_
                    obtain ⟨hv, hs⟩ := s2_inj h
                    subst hv
                    subst hs
                    exact j_iret C e dX12_copy_126
                  · replace h := ie c17 h
                    refine j_iload C 4 dX12_copy_86 rfl ?_
                    refine j_aload_n C 0 dX12_copy_88 rfl ?_
                    refine j_getr (o := 0) (j := 16) C inT12 (ci := 11) rfl (by decide) (rfl) rfl rfl wd_1115 dX12_copy_89 (o' := 11) rfl ?_
                    refine j_iload_n C 3 dX12_copy_92 rfl ?_
                    refine j_iaload (N := 4) C (rfl) (inb_in g11) dX12_copy_93 ?_
                    refine j_icmp_gt (tgt := 124) C dX12_copy_94 (by decide) (fun c18 => ?_) (fun c18 => ?_)
                    · replace h := it c18 h
                      refine j_bipush (v := -12) C dX12_copy_124 (by decide) ?_
                      obtain ⟨hv, hs⟩ := s2_inj h
                      subst hv
                      subst hs
                      exact j_iret C e dX12_copy_126
                    · replace h := ie c18 h
                      refine j_iload C 5 dX12_copy_97 rfl ?_
                      refine j_aload_n C 0 dX12_copy_99 rfl ?_
                      refine j_getr (o := 0) (j := 16) C inT12 (ci := 11) rfl (by decide) (rfl) rfl rfl wd_1115 dX12_copy_100 (o' := 11) rfl ?_
                      refine j_iload_n C 1 dX12_copy_103 rfl ?_
                      refine j_iaload (N := 4) C (rfl) (inb_in g9) dX12_copy_104 ?_
                      refine j_iload_n C 2 dX12_copy_105 rfl ?_
                      refine j_isub C dX12_copy_106 ?_
                      refine j_icmp_gt (tgt := 124) C dX12_copy_107 (by decide) (fun c19 => ?_) (fun c19 => ?_)
                      · replace h := it c19 h
                        refine j_bipush (v := -12) C dX12_copy_124 (by decide) ?_
                        obtain ⟨hv, hs⟩ := s2_inj h
                        subst hv
                        subst hs
                        exact j_iret C e dX12_copy_126
                      · replace h := ie c19 h
                        refine j_iload C 5 dX12_copy_110 rfl ?_
                        refine j_aload_n C 0 dX12_copy_112 rfl ?_
                        refine j_getr (o := 0) (j := 16) C inT12 (ci := 11) rfl (by decide) (rfl) rfl rfl wd_1115 dX12_copy_113 (o' := 11) rfl ?_
                        refine j_iload_n C 3 dX12_copy_116 rfl ?_
                        refine j_iaload (N := 4) C (rfl) (inb_in g11) dX12_copy_117 ?_
                        refine j_iload C 4 dX12_copy_118 rfl ?_
                        refine j_isub C dX12_copy_120 ?_
                        refine j_icmp_le (tgt := 127) C dX12_copy_121 (by decide) (fun c20 => ?_) (fun c20 => ?_)
                        · replace h := it c20 h
                          refine j_bipush (v := 40) C dX12_copy_127 (by decide) ?_
                          refine j_iload_n C 1 dX12_copy_129 rfl ?_
                          refine j_imul C dX12_copy_130 ?_
                          refine j_iload_n C 2 dX12_copy_131 rfl ?_
                          refine j_iadd C dX12_copy_132 ?_
                          refine j_istore (L' := [(6, .int (((40 : Int32) * a1) + a2)), (0, .ref (wad (ωM α) 0)), (1, .int a1), (2, .int a2), (3, .int a3), (4, .int a4), (5, .int a5)]) C dX12_copy_133 rfl rfl ?_
                          refine j_bipush (v := 40) C dX12_copy_135 (by decide) ?_
                          refine j_iload_n C 4 dX12_copy_137 rfl ?_
                          refine j_imul C dX12_copy_138 ?_
                          refine j_iload C 5 dX12_copy_139 rfl ?_
                          refine j_iadd C dX12_copy_141 ?_
                          refine j_istore (L' := [(7, .int (((40 : Int32) * a3) + a4)), (6, .int (((40 : Int32) * a1) + a2)), (0, .ref (wad (ωM α) 0)), (1, .int a1), (2, .int a2), (3, .int a3), (4, .int a4), (5, .int a5)]) C dX12_copy_142 rfl rfl ?_
                          refine j_iconst (v := 0) C dX12_copy_144 (by decide) ?_
                          refine j_istore (L' := [(8, .int (0 : Int32)), (7, .int (((40 : Int32) * a3) + a4)), (6, .int (((40 : Int32) * a1) + a2)), (0, .ref (wad (ωM α) 0)), (1, .int a1), (2, .int a2), (3, .int a3), (4, .int a4), (5, .int a5)]) C dX12_copy_145 rfl rfl ?_
                          exact j_sub [3, 8, 2, 1, 0] rfl (b12_copy_147 C e h)
                        · replace h := ie c20 h
                          refine j_bipush (v := -12) C dX12_copy_124 (by decide) ?_
                          obtain ⟨hv, hs⟩ := s2_inj h
                          subst hv
                          subst hs
                          exact j_iret C e dX12_copy_126
          · replace h := ie c13 h
            refine j_bipush (v := -13) C dX12_copy_59 (by decide) ?_
            obtain ⟨hv, hs⟩ := s2_inj h
            subst hv
            subst hs
            exact j_iret C e dX12_copy_61
        · replace h := it c12 h
          refine j_bipush (v := -11) C dX12_copy_41 (by decide) ?_
          obtain ⟨hv, hs⟩ := s2_inj h
          subst hv
          subst hs
          exact j_iret C e dX12_copy_43
    · replace h := it c8 h
      refine j_bipush (v := -2) C dX12_copy_18 (by decide) ?_
      obtain ⟨hv, hs⟩ := s2_inj h
      subst hv
      subst hs
      exact j_iret C e dX12_copy_20
set_option maxRecDepth 10000 in
theorem b12_childrenBy_135 {α : WA} {κ : KT} {fu : Nat} {v : Int32} {σ' : M2} {x1 : Int32} {x3 : Int32} {x4 : Int32} {x6 : Int32} {y0 : Int32} {y1 : Int32} (C : Cx (ωM α) κ cX12_childrenBy 9 "EveryoneWinsModel" (some FieldType.int)) (e : κ.2.2.2.2.2.2.2.2.2 = (some (.int v), σ')) {k64 : Int32 → Int32 → M2 → Option (Int32 × M2)} (hk64 : ∀ (x5' : Int32) (x6' : Int32) (σ : M2), k64 x5' x6' σ = some (v, σ') → J (ωM α) κ 3 9 64 [(0, .ref (wad (ωM α) 0)), (1, .int x1), (3, .int x3), (4, .int x4), (5, .int x5'), (6, .int x6')] [] σ) {σ : M2} (h : F12_childrenBy_135 fu k64 x1 x3 x4 x6 y0 y1 σ = some (v, σ')) : J (ωM α) κ 3 9 135 [(0, .ref (wad (ωM α) 0)), (1, .int x1), (3, .int x3), (4, .int x4), (6, .int x6)] [.int y0, .int y1] σ := by
  unfold F12_childrenBy_135 at h
  refine j_iadd C dX12_childrenBy_135 ?_
  refine j_istore (L' := [(5, .int (y1 + y0)), (0, .ref (wad (ωM α) 0)), (1, .int x1), (3, .int x3), (4, .int x4), (6, .int x6)]) C dX12_childrenBy_136 rfl rfl ?_
  refine j_iinc (L' := [(6, .int (x6 + 1)), (5, .int (y1 + y0)), (0, .ref (wad (ωM α) 0)), (1, .int x1), (3, .int x3), (4, .int x4)]) C 5 dX12_childrenBy_138 rfl rfl rfl rfl ?_
  refine j_goto (tgt := 64) C dX12_childrenBy_141 (by decide) ?_
  exact j_sub [2, 3, 4, 5, 1, 0] rfl (hk64 _ _ _ h)
set_option maxRecDepth 10000 in
theorem b12_childrenBy_64 {α : WA} {κ : KT} {fu : Nat} {v : Int32} {σ' : M2} {x1 : Int32} {x3 : Int32} {x4 : Int32} {x5 : Int32} {x6 : Int32} (C : Cx (ωM α) κ cX12_childrenBy 9 "EveryoneWinsModel" (some FieldType.int)) (e : κ.2.2.2.2.2.2.2.2.2 = (some (.int v), σ'))  {σ : M2} (h : F12_childrenBy_64 fu x1 x3 x4 x5 x6 σ = some (v, σ')) : J (ωM α) κ 3 9 64 [(0, .ref (wad (ωM α) 0)), (1, .int x1), (3, .int x3), (4, .int x4), (5, .int x5), (6, .int x6)] [] σ := by
  unfold F12_childrenBy_64 at h
  refine wl2_ind (fun x5 x6 σ => J (ωM α) κ 3 9 64 [(0, .ref (wad (ωM α) 0)), (1, .int x1), (3, .int x3), (4, .int x4), (5, .int x5), (6, .int x6)] [] σ) ?_ fu x5 x6 σ h
  intro k64 hk64 x5 x6 σ h
  try dsimp only at h
  show J (ωM α) κ 3 9 64 [(0, .ref (wad (ωM α) 0)), (1, .int x1), (3, .int x3), (4, .int x4), (5, .int x5), (6, .int x6)] [] σ
  refine j_iload C 5 dX12_childrenBy_64 rfl ?_
  refine j_iload C 3 dX12_childrenBy_66 rfl ?_
  refine j_icmp_ge (tgt := 144) C dX12_childrenBy_68 (by decide) (fun c1 => ?_) (fun c1 => ?_)
  · replace h := it c1 h
    refine j_iload C 4 dX12_childrenBy_144 rfl ?_
    obtain ⟨hv, hs⟩ := s2_inj h
    subst hv
    subst hs
    exact j_iret C e dX12_childrenBy_146
  · replace h := ie c1 h
    refine j_iload_n C 2 dX12_childrenBy_71 rfl ?_
    refine j_iconst (v := 1) C dX12_childrenBy_72 (by decide) ?_
    refine j_iload C 5 dX12_childrenBy_73 rfl ?_
    refine j_imul C dX12_childrenBy_75 ?_
    refine j_iadd C dX12_childrenBy_76 ?_
    refine j_istore (L' := [(7, .int (x3 + ((1 : Int32) * x6))), (0, .ref (wad (ωM α) 0)), (1, .int x1), (3, .int x3), (4, .int x4), (5, .int x5), (6, .int x6)]) C dX12_childrenBy_77 rfl rfl ?_
    refine j_iload_n C 3 dX12_childrenBy_79 rfl ?_
    refine j_if_lt (tgt := 102) C dX12_childrenBy_80 (by decide) (fun c2 => ?_) (fun c2 => ?_)
    · replace h := it c2 h
      refine j_bipush (v := -12) C dX12_childrenBy_102 (by decide) ?_
      obtain ⟨hv, hs⟩ := s2_inj h
      subst hv
      subst hs
      exact j_iret C e dX12_childrenBy_104
    · replace h := ie c2 h
      refine j_iload C 0 dX12_childrenBy_83 rfl ?_
      refine j_iload_n C 3 dX12_childrenBy_85 rfl ?_
      refine j_icmp_lt (tgt := 102) C dX12_childrenBy_86 (by decide) (fun c3 => ?_) (fun c3 => ?_)
      · replace h := it c3 h
        refine j_bipush (v := -12) C dX12_childrenBy_102 (by decide) ?_
        obtain ⟨hv, hs⟩ := s2_inj h
        subst hv
        subst hs
        exact j_iret C e dX12_childrenBy_104
      · replace h := ie c3 h
        refine j_iload C 0 dX12_childrenBy_89 rfl ?_
        refine j_aload_n C 1 dX12_childrenBy_91 rfl ?_
        refine j_getr (o := 0) (j := 16) C inT12 (ci := 11) rfl (by decide) (rfl) rfl rfl wd_1115 dX12_childrenBy_92 (o' := 11) rfl ?_
        refine j_iload_n C 2 dX12_childrenBy_95 rfl ?_
        obtain ⟨g4, h⟩ := gd_some h
        refine j_iaload (N := 4) C (rfl) (inb_in g4) dX12_childrenBy_96 ?_
        refine j_iconst (v := 1) C dX12_childrenBy_97 (by decide) ?_
        refine j_isub C dX12_childrenBy_98 ?_
        refine j_icmp_le (tgt := 105) C dX12_childrenBy_99 (by decide) (fun c5 => ?_) (fun c5 => ?_)
        · replace h := it c5 h
          refine j_bipush (v := 40) C dX12_childrenBy_105 (by decide) ?_
          refine j_iload_n C 2 dX12_childrenBy_107 rfl ?_
          refine j_imul C dX12_childrenBy_108 ?_
          refine j_iload C 0 dX12_childrenBy_109 rfl ?_
          refine j_iadd C dX12_childrenBy_111 ?_
          refine j_istore (L' := [(8, .int (((40 : Int32) * x1) + (x3 + ((1 : Int32) * x6)))), (7, .int (x3 + ((1 : Int32) * x6))), (0, .ref (wad (ωM α) 0)), (1, .int x1), (3, .int x3), (4, .int x4), (5, .int x5), (6, .int x6)]) C dX12_childrenBy_112 rfl rfl ?_
          refine j_iload C 6 dX12_childrenBy_114 rfl ?_
          refine j_aload_n C 2 dX12_childrenBy_116 rfl ?_
          refine j_aload_n C 2 dX12_childrenBy_117 rfl ?_
          refine j_getr (o := 0) (j := 17) C inT12 (ci := 11) rfl (by decide) (rfl) rfl rfl wd_1116 dX12_childrenBy_118 (o' := 12) rfl ?_
          refine j_iload C 0 dX12_childrenBy_121 rfl ?_
          obtain ⟨g6, h⟩ := gd_some h
          refine j_iaload (N := 160) C (rfl) (inb_in g6) dX12_childrenBy_123 ?_
          obtain ⟨r7, s8, hc9, h⟩ := bnd_some h
          refine k_V (v := some (.int r7)) C vb_X12_child (ci := 11) (T := TX12) (N := 45) rfl (by decide) (c12_child _ hc9) rfl (by decide) wd_1464 (rfl) rfl dX12_childrenBy_124 ?_
          show J (ωM α) κ _ _ 127 _ [.int r7, .int x5] s8
          refine j_if_lt (tgt := 134) C dX12_childrenBy_127 (by decide) (fun c10 => ?_) (fun c10 => ?_)
          · replace h := it c10 h
            refine j_iconst (v := 0) C dX12_childrenBy_134 (by decide) ?_
            exact j_sub [2, 3, 4, 5, 7] rfl (b12_childrenBy_135 C e hk64 h)
          · replace h := ie c10 h
            refine j_iconst (v := 1) C dX12_childrenBy_130 (by decide) ?_
            refine j_goto (tgt := 135) C dX12_childrenBy_131 (by decide) ?_
            exact j_sub [2, 3, 4, 5, 7] rfl (b12_childrenBy_135 C e hk64 h)
        · replace h := ie c5 h
          refine j_bipush (v := -12) C dX12_childrenBy_102 (by decide) ?_
          obtain ⟨hv, hs⟩ := s2_inj h
          subst hv
          subst hs
          exact j_iret C e dX12_childrenBy_104
set_option maxRecDepth 10000 in
theorem c12_childrenBy (l : Launch) {α : WA} {fu : Nat} {a1 : Int32} {a2 : Int32} {a3 : Int32} {a4 : Int32} {σ σ' : M2} {v : Int32}  (h : F12_childrenBy fu a1 a2 a3 a4 σ = some (v, σ')) : Ct l (ωM α) yX12_childrenBy cX12_childrenBy 9 (some FieldType.int) 3 [.ref (wad (ωM α) 0), .int a1, .int a2, .int a3, .int a4] σ (some (.int v)) σ' := by
  unfold F12_childrenBy at h
  refine Ct.of (own := "EveryoneWinsModel") (L := [(0, .ref (wad (ωM α) 0)), (1, .int a1), (2, .int a2), (3, .int a3), (4, .int a4)]) (by decide +kernel) rfl rfl rfl (fun κ hl e C => ?_)
  show J (ωM α) κ 3 9 0 [(0, .ref (wad (ωM α) 0)), (1, .int a1), (2, .int a2), (3, .int a3), (4, .int a4)] [] σ
  refine j_iload_n C 1 dX12_childrenBy_0 rfl ?_
  refine j_iconst (v := 0) C dX12_childrenBy_1 (by decide) ?_
  refine j_iconst (v := 3) C dX12_childrenBy_2 (by decide) ?_
  obtain ⟨r1, s2, hc3, h⟩ := bnd_some h
  refine k_S (v := some (.int r1)) C sb_X12_in (c12_in _ hc3) rfl (by decide) wd_1060 rfl dX12_childrenBy_3 ?_
  show J (ωM α) κ _ _ 6 _ [.int r1] s2
  refine j_if_eq (tgt := 29) C dX12_childrenBy_6 (by decide) (fun c4 => ?_) (fun c4 => ?_)
  · replace h := it c4 h
    refine j_bipush (v := -2) C dX12_childrenBy_29 (by decide) ?_
    obtain ⟨hv, hs⟩ := s2_inj h
    subst hv
    subst hs
    exact j_iret C e dX12_childrenBy_31
  · replace h := ie c4 h
    refine j_iload_n C 2 dX12_childrenBy_9 rfl ?_
    refine j_iconst (v := 0) C dX12_childrenBy_10 (by decide) ?_
    refine j_iconst (v := 2) C dX12_childrenBy_11 (by decide) ?_
    obtain ⟨r5, s6, hc7, h⟩ := bnd_some h
    refine k_S (v := some (.int r5)) C sb_X12_in (c12_in _ hc7) rfl (by decide) wd_1060 rfl dX12_childrenBy_12 ?_
    show J (ωM α) κ _ _ 15 _ [.int r5] s6
    refine j_if_eq (tgt := 29) C dX12_childrenBy_15 (by decide) (fun c8 => ?_) (fun c8 => ?_)
    · replace h := it c8 h
      refine j_bipush (v := -2) C dX12_childrenBy_29 (by decide) ?_
      obtain ⟨hv, hs⟩ := s2_inj h
      subst hv
      subst hs
      exact j_iret C e dX12_childrenBy_31
    · replace h := ie c8 h
      refine j_iload C 4 dX12_childrenBy_18 rfl ?_
      refine j_iconst (v := 0) C dX12_childrenBy_20 (by decide) ?_
      refine j_bipush (v := 8) C dX12_childrenBy_21 (by decide) ?_
      obtain ⟨r9, s10, hc11, h⟩ := bnd_some h
      refine k_S (v := some (.int r9)) C sb_X12_in (c12_in _ hc11) rfl (by decide) wd_1060 rfl dX12_childrenBy_23 ?_
      show J (ωM α) κ _ _ 26 _ [.int r9] s10
      refine j_if_ne (tgt := 32) C dX12_childrenBy_26 (by decide) (fun c12 => ?_) (fun c12 => ?_)
      · replace h := ie c12 h
        refine j_aload_n C 0 dX12_childrenBy_32 rfl ?_
        refine j_getr (o := 0) (j := 15) C inT12 (ci := 11) rfl (by decide) (rfl) rfl rfl wd_1114 dX12_childrenBy_33 (o' := 10) rfl ?_
        refine j_iload_n C 1 dX12_childrenBy_36 rfl ?_
        obtain ⟨g13, h⟩ := gd_some h
        refine j_iaload (N := 4) C (rfl) (inb_in g13) dX12_childrenBy_37 ?_
        refine j_iconst (v := -1) C dX12_childrenBy_38 (by decide) ?_
        refine j_icmp_ne (tgt := 45) C dX12_childrenBy_39 (by decide) (fun c14 => ?_) (fun c14 => ?_)
        · replace h := ie c14 h
          refine j_aload_n C 0 dX12_childrenBy_45 rfl ?_
          refine j_getr (o := 0) (j := 15) C inT12 (ci := 11) rfl (by decide) (rfl) rfl rfl wd_1114 dX12_childrenBy_46 (o' := 10) rfl ?_
          refine j_iload_n C 1 dX12_childrenBy_49 rfl ?_
          refine j_iaload (N := 4) C (rfl) (inb_in g13) dX12_childrenBy_50 ?_
          refine j_iload_n C 2 dX12_childrenBy_51 rfl ?_
          refine j_icmp_eq (tgt := 58) C dX12_childrenBy_52 (by decide) (fun c15 => ?_) (fun c15 => ?_)
          · replace h := it c15 h
            refine j_iconst (v := 0) C dX12_childrenBy_58 (by decide) ?_
            refine j_istore (L' := [(5, .int (0 : Int32)), (0, .ref (wad (ωM α) 0)), (1, .int a1), (2, .int a2), (3, .int a3), (4, .int a4)]) C dX12_childrenBy_59 rfl rfl ?_
            refine j_iconst (v := 0) C dX12_childrenBy_61 (by decide) ?_
            refine j_istore (L' := [(6, .int (0 : Int32)), (5, .int (0 : Int32)), (0, .ref (wad (ωM α) 0)), (1, .int a1), (2, .int a2), (3, .int a3), (4, .int a4)]) C dX12_childrenBy_62 rfl rfl ?_
            exact j_sub [2, 3, 5, 6, 1, 0] rfl (b12_childrenBy_64 C e h)
          · replace h := ie c15 h
            refine j_bipush (v := -13) C dX12_childrenBy_55 (by decide) ?_
            obtain ⟨hv, hs⟩ := s2_inj h
            subst hv
            subst hs
            exact j_iret C e dX12_childrenBy_57
        · replace h := it c14 h
          refine j_bipush (v := -11) C dX12_childrenBy_42 (by decide) ?_
          obtain ⟨hv, hs⟩ := s2_inj h
          subst hv
          subst hs
          exact j_iret C e dX12_childrenBy_44
      · replace h := it c12 h
        refine j_bipush (v := -2) C dX12_childrenBy_29 (by decide) ?_
        obtain ⟨hv, hs⟩ := s2_inj h
        subst hv
        subst hs
        exact j_iret C e dX12_childrenBy_31
set_option maxRecDepth 10000 in
theorem b12_isUnder_19 {α : WA} {κ : KT}  {v : Int32} {σ' : M2} {x0 : Int32} {x1 : Int32} (C : Cx (ωM α) κ cX12_isUnder 2 "EveryoneWinsModel" (some FieldType.boolean)) (e : κ.2.2.2.2.2.2.2.2.2 = (some (.int v), σ'))  {σ : M2} (h : F12_isUnder_19 x0 x1 σ = some (v, σ')) : J (ωM α) κ 1 2 19 [(0, .int x0), (1, .int x1)] [] σ := by
  unfold F12_isUnder_19 at h
  refine j_iload_n C 1 dX12_isUnder_19 rfl ?_
  refine j_iconst (v := 2) C dX12_isUnder_20 (by decide) ?_
  refine j_icmp_ne (tgt := 33) C dX12_isUnder_21 (by decide) (fun c1 => ?_) (fun c1 => ?_)
  · replace h := ie c1 h
    refine j_iconst (v := 0) C dX12_isUnder_33 (by decide) ?_
    obtain ⟨hv, hs⟩ := s2_inj h
    subst hv
    subst hs
    exact j_zret C e rfl dX12_isUnder_34
  · replace h := it c1 h
    refine j_iload_n C 0 dX12_isUnder_24 rfl ?_
    refine j_iconst (v := 4) C dX12_isUnder_25 (by decide) ?_
    refine j_icmp_ne (tgt := 33) C dX12_isUnder_26 (by decide) (fun c2 => ?_) (fun c2 => ?_)
    · replace h := ie c2 h
      refine j_iconst (v := 0) C dX12_isUnder_33 (by decide) ?_
      obtain ⟨hv, hs⟩ := s2_inj h
      subst hv
      subst hs
      exact j_zret C e rfl dX12_isUnder_34
    · replace h := it c2 h
      refine j_iconst (v := 1) C dX12_isUnder_29 (by decide) ?_
      refine j_goto (tgt := 34) C dX12_isUnder_30 (by decide) ?_
      obtain ⟨hv, hs⟩ := s2_inj h
      subst hv
      subst hs
      exact j_zret C e rfl dX12_isUnder_34
set_option maxRecDepth 10000 in
theorem c12_isUnder (l : Launch) {α : WA}  {a1 : Int32} {a2 : Int32} {σ σ' : M2} {v : Int32}  (h : F12_isUnder a1 a2 σ = some (v, σ')) : Ct l (ωM α) yX12_isUnder cX12_isUnder 2 (some FieldType.boolean) 1 [.int a1, .int a2] σ (some (.int v)) σ' := by
  unfold F12_isUnder at h
  refine Ct.of (own := "EveryoneWinsModel") (L := [(0, .int a1), (1, .int a2)]) (by decide +kernel) rfl rfl rfl (fun κ hl e C => ?_)
  show J (ωM α) κ 1 2 0 [(0, .int a1), (1, .int a2)] [] σ
  refine j_iload_n C 1 dX12_isUnder_0 rfl ?_
  refine j_if_eq (tgt := 29) C dX12_isUnder_1 (by decide) (fun c1 => ?_) (fun c1 => ?_)
  · replace h := it c1 h
    refine j_iconst (v := 1) C dX12_isUnder_29 (by decide) ?_
    refine j_goto (tgt := 34) C dX12_isUnder_30 (by decide) ?_
    obtain ⟨hv, hs⟩ := s2_inj h
    subst hv
    subst hs
    exact j_zret C e rfl dX12_isUnder_34
  · replace h := ie c1 h
    refine j_iload_n C 0 dX12_isUnder_4 rfl ?_
    refine j_iload_n C 1 dX12_isUnder_5 rfl ?_
    refine j_icmp_eq (tgt := 29) C dX12_isUnder_6 (by decide) (fun c2 => ?_) (fun c2 => ?_)
    · replace h := it c2 h
      refine j_iconst (v := 1) C dX12_isUnder_29 (by decide) ?_
      refine j_goto (tgt := 34) C dX12_isUnder_30 (by decide) ?_
      obtain ⟨hv, hs⟩ := s2_inj h
      subst hv
      subst hs
      exact j_zret C e rfl dX12_isUnder_34
    · replace h := ie c2 h
      refine j_iload_n C 1 dX12_isUnder_9 rfl ?_
      refine j_iconst (v := 1) C dX12_isUnder_10 (by decide) ?_
      refine j_icmp_ne (tgt := 19) C dX12_isUnder_11 (by decide) (fun c3 => ?_) (fun c3 => ?_)
      · replace h := ie c3 h
        exact (b12_isUnder_19 C e h)
      · replace h := it c3 h
        refine j_iload_n C 0 dX12_isUnder_14 rfl ?_
        refine j_iconst (v := 3) C dX12_isUnder_15 (by decide) ?_
        refine j_icmp_eq (tgt := 29) C dX12_isUnder_16 (by decide) (fun c4 => ?_) (fun c4 => ?_)
        · replace h := it c4 h
          refine j_iconst (v := 1) C dX12_isUnder_29 (by decide) ?_
          refine j_goto (tgt := 34) C dX12_isUnder_30 (by decide) ?_
          obtain ⟨hv, hs⟩ := s2_inj h
          subst hv
          subst hs
          exact j_zret C e rfl dX12_isUnder_34
        · replace h := ie c4 h
          exact (b12_isUnder_19 C e h)
set_option maxRecDepth 10000 in
theorem c12_taken (l : Launch) {α : WA}  {a1 : Int32} {a2 : Int32} {σ σ' : M2} {v : Int32}  (h : F12_taken a1 a2 σ = some (v, σ')) : Ct l (ωM α) yX12_taken cX12_taken 3 (some FieldType.int) 2 [.ref (wad (ωM α) 0), .int a1, .int a2] σ (some (.int v)) σ' := by
  unfold F12_taken at h
  refine Ct.of (own := "EveryoneWinsModel") (L := [(0, .ref (wad (ωM α) 0)), (1, .int a1), (2, .int a2)]) (by decide +kernel) rfl rfl rfl (fun κ hl e C => ?_)
  show J (ωM α) κ 2 3 0 [(0, .ref (wad (ωM α) 0)), (1, .int a1), (2, .int a2)] [] σ
  refine j_iload_n C 2 dX12_taken_0 rfl ?_
  refine j_iconst (v := 0) C dX12_taken_1 (by decide) ?_
  refine j_bipush (v := 6) C dX12_taken_2 (by decide) ?_
  obtain ⟨r1, s2, hc3, h⟩ := bnd_some h
  refine k_S (v := some (.int r1)) C sb_X12_in (c12_in _ hc3) rfl (by decide) wd_1060 rfl dX12_taken_4 ?_
  show J (ωM α) κ _ _ 7 _ [.int r1] s2
  refine j_if_ne (tgt := 13) C dX12_taken_7 (by decide) (fun c4 => ?_) (fun c4 => ?_)
  · replace h := ie c4 h
    refine j_iload_n C 1 dX12_taken_13 rfl ?_
    refine j_iconst (v := 0) C dX12_taken_14 (by decide) ?_
    refine j_bipush (v := 13) C dX12_taken_15 (by decide) ?_
    obtain ⟨r5, s6, hc7, h⟩ := bnd_some h
    refine k_S (v := some (.int r5)) C sb_X12_in (c12_in _ hc7) rfl (by decide) wd_1060 rfl dX12_taken_17 ?_
    show J (ωM α) κ _ _ 20 _ [.int r5] s6
    refine j_if_ne (tgt := 26) C dX12_taken_20 (by decide) (fun c8 => ?_) (fun c8 => ?_)
    · replace h := ie c8 h
      refine j_iload_n C 1 dX12_taken_26 rfl ?_
      refine j_bipush (v := 6) C dX12_taken_27 (by decide) ?_
      refine j_icmp_lt (tgt := 71) C dX12_taken_29 (by decide) (fun c9 => ?_) (fun c9 => ?_)
      · replace h := it c9 h
        refine j_iload_n C 1 dX12_taken_71 rfl ?_
        refine j_aload_n C 0 dX12_taken_72 rfl ?_
        refine j_geti (o := 0) (j := 2) C inT12 (ci := 11) rfl (by decide) (rfl) rfl rfl wd_1101 dX12_taken_73 ?_
        refine j_icmp_lt (tgt := 84) C dX12_taken_76 (by decide) (fun c10 => ?_) (fun c10 => ?_)
        · replace h := it c10 h
          refine j_iload_n C 2 dX12_taken_84 rfl ?_
          refine j_bipush (v := 6) C dX12_taken_85 (by decide) ?_
          refine j_icmp_ge (tgt := 107) C dX12_taken_87 (by decide) (fun c11 => ?_) (fun c11 => ?_)
          · replace h := it c11 h
            refine j_bipush (v := -13) C dX12_taken_107 (by decide) ?_
            obtain ⟨hv, hs⟩ := s2_inj h
            subst hv
            subst hs
            exact j_iret C e dX12_taken_109
          · replace h := ie c11 h
            refine j_aload_n C 0 dX12_taken_90 rfl ?_
            refine j_getr (o := 0) (j := 3) C inT12 (ci := 11) rfl (by decide) (rfl) rfl rfl wd_1102 dX12_taken_91 (o' := 2) rfl ?_
            refine j_iload_n C 1 dX12_taken_94 rfl ?_
            obtain ⟨g12, h⟩ := gd_some h
            refine j_iaload (N := 6) C (rfl) (inb_in g12) dX12_taken_95 ?_
            refine j_iload_n C 2 dX12_taken_96 rfl ?_
            obtain ⟨r13, s14, hc15, h⟩ := bnd_some h
            refine k_S (v := some (.int r13)) C sb_X12_isUnder (c12_isUnder _ hc15) rfl (by decide) wd_1469 rfl dX12_taken_97 ?_
            show J (ωM α) κ _ _ 100 _ [.int r13] s14
            refine j_if_eq (tgt := 107) C dX12_taken_100 (by decide) (fun c16 => ?_) (fun c16 => ?_)
            · replace h := it c16 h
              refine j_bipush (v := -13) C dX12_taken_107 (by decide) ?_
              obtain ⟨hv, hs⟩ := s2_inj h
              subst hv
              subst hs
              exact j_iret C e dX12_taken_109
            · replace h := ie c16 h
              refine j_iload_n C 1 dX12_taken_103 rfl ?_
              refine j_goto (tgt := 109) C dX12_taken_104 (by decide) ?_
              obtain ⟨hv, hs⟩ := s2_inj h
              subst hv
              subst hs
              exact j_iret C e dX12_taken_109
        · replace h := ie c10 h
          refine j_bipush (v := -11) C dX12_taken_79 (by decide) ?_
          refine j_goto (tgt := 109) C dX12_taken_81 (by decide) ?_
          obtain ⟨hv, hs⟩ := s2_inj h
          subst hv
          subst hs
          exact j_iret C e dX12_taken_109
      · replace h := ie c9 h
        refine j_iload_n C 1 dX12_taken_32 rfl ?_
        refine j_bipush (v := 6) C dX12_taken_33 (by decide) ?_
        refine j_isub C dX12_taken_35 ?_
        refine j_aload_n C 0 dX12_taken_36 rfl ?_
        refine j_geti (o := 0) (j := 0) C inT12 (ci := 11) rfl (by decide) (rfl) rfl rfl wd_1099 dX12_taken_37 ?_
        refine j_icmp_lt (tgt := 48) C dX12_taken_40 (by decide) (fun c17 => ?_) (fun c17 => ?_)
        · replace h := it c17 h
          refine j_iload_n C 2 dX12_taken_48 rfl ?_
          refine j_bipush (v := 6) C dX12_taken_49 (by decide) ?_
          refine j_icmp_ne (tgt := 68) C dX12_taken_51 (by decide) (fun c18 => ?_) (fun c18 => ?_)
          · replace h := ie c18 h
            refine j_bipush (v := -13) C dX12_taken_68 (by decide) ?_
            obtain ⟨hv, hs⟩ := s2_inj h
            subst hv
            subst hs
            exact j_iret C e dX12_taken_70
          · replace h := it c18 h
            refine j_aload_n C 0 dX12_taken_54 rfl ?_
            refine j_getr (o := 0) (j := 1) C inT12 (ci := 11) rfl (by decide) (rfl) rfl rfl wd_1100 dX12_taken_55 (o' := 1) rfl ?_
            refine j_iconst (v := 3) C dX12_taken_58 (by decide) ?_
            refine j_iload_n C 1 dX12_taken_59 rfl ?_
            refine j_bipush (v := 6) C dX12_taken_60 (by decide) ?_
            refine j_isub C dX12_taken_62 ?_
            refine j_imul C dX12_taken_63 ?_
            obtain ⟨g19, h⟩ := gd_some h
            refine j_iaload (N := 24) C (rfl) (inb_in g19) dX12_taken_64 ?_
            refine j_goto (tgt := 70) C dX12_taken_65 (by decide) ?_
            obtain ⟨hv, hs⟩ := s2_inj h
            subst hv
            subst hs
            exact j_iret C e dX12_taken_70
        · replace h := ie c17 h
          refine j_bipush (v := -11) C dX12_taken_43 (by decide) ?_
          refine j_goto (tgt := 70) C dX12_taken_45 (by decide) ?_
          obtain ⟨hv, hs⟩ := s2_inj h
          subst hv
          subst hs
          exact j_iret C e dX12_taken_70
    · replace h := it c8 h
      refine j_bipush (v := -12) C dX12_taken_23 (by decide) ?_
      obtain ⟨hv, hs⟩ := s2_inj h
      subst hv
      subst hs
      exact j_iret C e dX12_taken_25
  · replace h := it c4 h
    refine j_bipush (v := -2) C dX12_taken_10 (by decide) ?_
    obtain ⟨hv, hs⟩ := s2_inj h
    subst hv
    subst hs
    exact j_iret C e dX12_taken_12
