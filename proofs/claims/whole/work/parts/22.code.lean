set_option maxRecDepth 10000 in
theorem c12_let (l : Launch) {α : WA} {fu : Nat} {a1 : Int32} {σ σ' : M2} {v : Int32}  (h : F12_let fu a1 σ = some (v, σ')) : Ct l (ωM α) yX12_let cX12_let 2 (some FieldType.int) 10 [.ref (wad (ωM α) 0), .int a1] σ (some (.int v)) σ' := by
  unfold F12_let at h
  refine Ct.of (own := "EveryoneWinsModel") (L := [(0, .ref (wad (ωM α) 0)), (1, .int a1)]) (by decide +kernel) rfl rfl rfl (fun κ hl e C => ?_)
  show J (ωM α) κ 10 2 0 [(0, .ref (wad (ωM α) 0)), (1, .int a1)] [] σ
  refine j_iload_n C 1 dX12_let_0 rfl ?_
  refine j_iconst (v := 0) C dX12_let_1 (by decide) ?_
  refine j_iconst (v := 2) C dX12_let_2 (by decide) ?_
  obtain ⟨r1, s2, hc3, h⟩ := bnd_some h
  refine k_S (v := some (.int r1)) C sb_X12_in (c12_in _ hc3) rfl (by decide) wd_1060 rfl dX12_let_3 ?_
  show J (ωM α) κ _ _ 6 _ [.int r1] s2
  refine j_if_ne (tgt := 13) C dX12_let_6 (by decide) (fun c4 => ?_) (fun c4 => ?_)
  · replace h := ie c4 h
    refine j_aload_n C 0 dX12_let_13 rfl ?_
    refine j_iconst (v := 1) C dX12_let_14 (by decide) ?_
    obtain ⟨r5, s6, hc7, h⟩ := bnd_some h
    refine k_V (v := none) C vb_X12_changed (ci := 11) (T := TX12) (N := 45) rfl (by decide) (c12_changed _ hc7) rfl (by decide) wd_1352 (rfl) rfl dX12_let_15 ?_
    show J (ωM α) κ _ _ 18 _ [] s6
    refine j_aload_n C 0 dX12_let_18 rfl ?_
    refine j_iload_n C 1 dX12_let_19 rfl ?_
    obtain ⟨r8, s9, hc10, h⟩ := bnd_some h
    refine k_V (v := some (.int r8)) C vb_X12_toldBest (ci := 11) (T := TX12) (N := 45) rfl (by decide) (c12_toldBest _ hc10) rfl (by decide) wd_1364 (rfl) rfl dX12_let_20 ?_
    show J (ωM α) κ _ _ 23 _ [.int r8] s9
    obtain ⟨hv, hs⟩ := s2_inj h
    subst hv
    subst hs
    exact j_iret C e dX12_let_23
  · replace h := it c4 h
    refine j_sipush (v := -1000) C dX12_let_9 (by decide) ?_
    obtain ⟨hv, hs⟩ := s2_inj h
    subst hv
    subst hs
    exact j_iret C e dX12_let_12
set_option maxRecDepth 10000 in
theorem c12_spare (l : Launch) {α : WA} {fu : Nat} {a1 : Int32} {σ σ' : M2} {v : Int32}  (h : F12_spare fu a1 σ = some (v, σ')) : Ct l (ωM α) yX12_spare cX12_spare 2 (some FieldType.int) 10 [.ref (wad (ωM α) 0), .int a1] σ (some (.int v)) σ' := by
  unfold F12_spare at h
  refine Ct.of (own := "EveryoneWinsModel") (L := [(0, .ref (wad (ωM α) 0)), (1, .int a1)]) (by decide +kernel) rfl rfl rfl (fun κ hl e C => ?_)
  show J (ωM α) κ 10 2 0 [(0, .ref (wad (ωM α) 0)), (1, .int a1)] [] σ
  refine j_iload_n C 1 dX12_spare_0 rfl ?_
  refine j_iconst (v := 0) C dX12_spare_1 (by decide) ?_
  refine j_iconst (v := 2) C dX12_spare_2 (by decide) ?_
  obtain ⟨r1, s2, hc3, h⟩ := bnd_some h
  refine k_S (v := some (.int r1)) C sb_X12_in (c12_in _ hc3) rfl (by decide) wd_1060 rfl dX12_spare_3 ?_
  show J (ωM α) κ _ _ 6 _ [.int r1] s2
  refine j_if_ne (tgt := 13) C dX12_spare_6 (by decide) (fun c4 => ?_) (fun c4 => ?_)
  · replace h := ie c4 h
    refine j_aload_n C 0 dX12_spare_13 rfl ?_
    refine j_iconst (v := 0) C dX12_spare_14 (by decide) ?_
    obtain ⟨r5, s6, hc7, h⟩ := bnd_some h
    refine k_V (v := none) C vb_X12_changed (ci := 11) (T := TX12) (N := 45) rfl (by decide) (c12_changed _ hc7) rfl (by decide) wd_1352 (rfl) rfl dX12_spare_15 ?_
    show J (ωM α) κ _ _ 18 _ [] s6
    refine j_aload_n C 0 dX12_spare_18 rfl ?_
    refine j_iload_n C 1 dX12_spare_19 rfl ?_
    obtain ⟨r8, s9, hc10, h⟩ := bnd_some h
    refine k_V (v := some (.int r8)) C vb_X12_toldBest (ci := 11) (T := TX12) (N := 45) rfl (by decide) (c12_toldBest _ hc10) rfl (by decide) wd_1364 (rfl) rfl dX12_spare_20 ?_
    show J (ωM α) κ _ _ 23 _ [.int r8] s9
    obtain ⟨hv, hs⟩ := s2_inj h
    subst hv
    subst hs
    exact j_iret C e dX12_spare_23
  · replace h := it c4 h
    refine j_sipush (v := -1000) C dX12_spare_9 (by decide) ?_
    obtain ⟨hv, hs⟩ := s2_inj h
    subst hv
    subst hs
    exact j_iret C e dX12_spare_12
set_option maxRecDepth 10000 in
theorem b12_drop_19 {α : WA} {κ : KT} {fu : Nat} {v : Int32} {σ' : M2} {x1 : Int32} {x2 : Int32} (C : Cx (ωM α) κ cX12_drop 3 "EveryoneWinsModel" (some FieldType.int)) (e : κ.2.2.2.2.2.2.2.2.2 = (some (.int v), σ'))  {σ : M2} (h : F12_drop_19 fu x1 x2 σ = some (v, σ')) : J (ωM α) κ 9 3 19 [(0, .ref (wad (ωM α) 0)), (1, .int x1), (2, .int x2)] [] σ := by
  unfold F12_drop_19 at h
  refine wl1_ind (fun x2 σ => J (ωM α) κ 9 3 19 [(0, .ref (wad (ωM α) 0)), (1, .int x1), (2, .int x2)] [] σ) ?_ fu x2 σ h
  intro k19 hk19 x2 σ h
  try dsimp only at h
  show J (ωM α) κ 9 3 19 [(0, .ref (wad (ωM α) 0)), (1, .int x1), (2, .int x2)] [] σ
  refine j_iload_n C 2 dX12_drop_19 rfl ?_
  refine j_aload_n C 0 dX12_drop_20 rfl ?_
  refine j_geti (o := 0) (j := 2) C inT12 (ci := 11) rfl (by decide) (rfl) rfl rfl wd_1101 dX12_drop_21 ?_
  refine j_icmp_ge (tgt := 43) C dX12_drop_24 (by decide) (fun c1 => ?_) (fun c1 => ?_)
  · replace h := it c1 h
    refine j_aload_n C 0 dX12_drop_43 rfl ?_
    refine j_iconst (v := -1) C dX12_drop_44 (by decide) ?_
    refine j_puti (o := 0) (j := 39) C inT12 tyX12_ok nmX12 (ci := 11) rfl (by decide) (rfl) rfl rfl rfl (tyX12_ok 39 (by decide)) rfl rfl wd_1138 dX12_drop_45 ?_
    refine j_aload_n C 0 dX12_drop_48 rfl ?_
    refine j_iload_n C 1 dX12_drop_49 rfl ?_
    obtain ⟨r2, s3, hc4, h⟩ := bnd_some h
    refine k_V (v := some (.int r2)) C vb_X12_toldBest (ci := 11) (T := TX12) (N := 45) rfl (by decide) (c12_toldBest _ hc4) rfl (by decide) wd_1364 (rfl) rfl dX12_drop_50 ?_
    show J (ωM α) κ _ _ 53 _ [.int r2] s3
    obtain ⟨hv, hs⟩ := s2_inj h
    subst hv
    subst hs
    exact j_iret C e dX12_drop_53
  · replace h := ie c1 h
    refine j_aload_n C 0 dX12_drop_27 rfl ?_
    refine j_iload_n C 2 dX12_drop_28 rfl ?_
    refine j_puti (o := 0) (j := 39) C inT12 tyX12_ok nmX12 (ci := 11) rfl (by decide) (rfl) rfl rfl rfl (tyX12_ok 39 (by decide)) rfl rfl wd_1138 dX12_drop_29 ?_
    refine j_aload_n C 0 dX12_drop_32 rfl ?_
    refine j_iload_n C 2 dX12_drop_33 rfl ?_
    obtain ⟨r5, s6, hc7, h⟩ := bnd_some h
    refine k_V (v := none) C vb_X12_tried (ci := 11) (T := TX12) (N := 45) rfl (by decide) (c12_tried _ hc7) rfl (by decide) wd_1360 (rfl) rfl dX12_drop_34 ?_
    show J (ωM α) κ _ _ 37 _ [] s6
    refine j_iinc (L' := [(2, .int (x2 + 1)), (0, .ref (wad (ωM α) 0)), (1, .int x1)]) C 2 dX12_drop_37 rfl rfl rfl rfl ?_
    refine j_goto (tgt := 19) C dX12_drop_40 (by decide) ?_
    exact j_sub [1, 2, 0] rfl (hk19 _ _ h)
set_option maxRecDepth 10000 in
theorem c12_drop (l : Launch) {α : WA} {fu : Nat} {a1 : Int32} {σ σ' : M2} {v : Int32}  (h : F12_drop fu a1 σ = some (v, σ')) : Ct l (ωM α) yX12_drop cX12_drop 3 (some FieldType.int) 9 [.ref (wad (ωM α) 0), .int a1] σ (some (.int v)) σ' := by
  unfold F12_drop at h
  refine Ct.of (own := "EveryoneWinsModel") (L := [(0, .ref (wad (ωM α) 0)), (1, .int a1)]) (by decide +kernel) rfl rfl rfl (fun κ hl e C => ?_)
  show J (ωM α) κ 9 3 0 [(0, .ref (wad (ωM α) 0)), (1, .int a1)] [] σ
  refine j_iload_n C 1 dX12_drop_0 rfl ?_
  refine j_iconst (v := 0) C dX12_drop_1 (by decide) ?_
  refine j_iconst (v := 2) C dX12_drop_2 (by decide) ?_
  obtain ⟨r1, s2, hc3, h⟩ := bnd_some h
  refine k_S (v := some (.int r1)) C sb_X12_in (c12_in _ hc3) rfl (by decide) wd_1060 rfl dX12_drop_3 ?_
  show J (ωM α) κ _ _ 6 _ [.int r1] s2
  refine j_if_ne (tgt := 13) C dX12_drop_6 (by decide) (fun c4 => ?_) (fun c4 => ?_)
  · replace h := ie c4 h
    refine j_aload_n C 0 dX12_drop_13 rfl ?_
    obtain ⟨r5, s6, hc7, h⟩ := bnd_some h
    refine k_V (v := none) C vb_X12_asItIs (ci := 11) (T := TX12) (N := 45) rfl (by decide) (c12_asItIs _ hc7) rfl (by decide) wd_1356 (rfl) rfl dX12_drop_14 ?_
    show J (ωM α) κ _ _ 17 _ [] s6
    refine j_iconst (v := 0) C dX12_drop_17 (by decide) ?_
    refine j_istore_n (L' := [(2, .int (0 : Int32)), (0, .ref (wad (ωM α) 0)), (1, .int a1)]) C dX12_drop_18 rfl rfl rfl ?_
    exact j_sub [1, 2, 0] rfl (b12_drop_19 C e h)
  · replace h := it c4 h
    refine j_sipush (v := -1000) C dX12_drop_9 (by decide) ?_
    obtain ⟨hv, hs⟩ := s2_inj h
    subst hv
    subst hs
    exact j_iret C e dX12_drop_12
set_option maxRecDepth 10000 in
theorem b12_tells_20 {α : WA} {κ : KT} {fu : Nat} {v : Int32} {σ' : M2} {x2 : Int32} {x3 : Int32} {x4 : Int32} {x5 : Int32} (C : Cx (ωM α) κ cX12_tells 6 "EveryoneWinsModel" (some FieldType.boolean)) (e : κ.2.2.2.2.2.2.2.2.2 = (some (.int v), σ'))  {σ : M2} (h : F12_tells_20 fu x2 x3 x4 x5 σ = some (v, σ')) : J (ωM α) κ 1 6 20 [(0, .ref (wad (ωM α) 0)), (2, .int x2), (3, .int x3), (4, .int x4), (5, .int x5)] [] σ := by
  unfold F12_tells_20 at h
  refine wl4_ind (fun x2 x3 x4 x5 σ => J (ωM α) κ 1 6 20 [(0, .ref (wad (ωM α) 0)), (2, .int x2), (3, .int x3), (4, .int x4), (5, .int x5)] [] σ) ?_ fu x2 x3 x4 x5 σ h
  intro k20 hk20 x2 x3 x4 x5 σ h
  try dsimp only at h
  show J (ωM α) κ 1 6 20 [(0, .ref (wad (ωM α) 0)), (2, .int x2), (3, .int x3), (4, .int x4), (5, .int x5)] [] σ
  refine j_iload C 4 dX12_tells_20 rfl ?_
  refine j_if_lt (tgt := 91) C dX12_tells_22 (by decide) (fun c1 => ?_) (fun c1 => ?_)
  · replace h := it c1 h
    refine j_iload_n C 2 dX12_tells_91 rfl ?_
    refine j_iconst (v := 1) C dX12_tells_92 (by decide) ?_
    refine j_aload_n C 0 dX12_tells_93 rfl ?_
    refine j_geti (o := 0) (j := 2) C inT12 (ci := 11) rfl (by decide) (rfl) rfl rfl wd_1101 dX12_tells_94 ?_
    refine j_ishl C dX12_tells_97 ?_
    refine j_iconst (v := 1) C dX12_tells_98 (by decide) ?_
    refine j_isub C dX12_tells_99 ?_
    refine j_icmp_ne (tgt := 107) C dX12_tells_100 (by decide) (fun c2 => ?_) (fun c2 => ?_)
    · replace h := ie c2 h
      refine j_iconst (v := 0) C dX12_tells_107 (by decide) ?_
      obtain ⟨hv, hs⟩ := s2_inj h
      subst hv
      subst hs
      exact j_zret C e rfl dX12_tells_108
    · replace h := it c2 h
      refine j_iconst (v := 1) C dX12_tells_103 (by decide) ?_
      refine j_goto (tgt := 108) C dX12_tells_104 (by decide) ?_
      obtain ⟨hv, hs⟩ := s2_inj h
      subst hv
      subst hs
      exact j_zret C e rfl dX12_tells_108
  · replace h := ie c1 h
    refine j_aload_n C 0 dX12_tells_25 rfl ?_
    refine j_getr (o := 0) (j := 38) C inT12 (ci := 11) rfl (by decide) (rfl) rfl rfl wd_1137 dX12_tells_26 (o' := 22) rfl ?_
    refine j_iload C 4 dX12_tells_29 rfl ?_
    refine j_iload_n C 1 dX12_tells_31 rfl ?_
    refine j_aload_n C 0 dX12_tells_32 rfl ?_
    refine j_geti (o := 0) (j := 2) C inT12 (ci := 11) rfl (by decide) (rfl) rfl rfl wd_1101 dX12_tells_33 ?_
    obtain ⟨g3, h⟩ := gd_some h
    refine j_irem C dX12_tells_36 (of_decide_eq_true g3) ?_
    obtain ⟨g4, h⟩ := gd_some h
    refine j_iastore (N := 6) C (rfl) (inb_in g4) dX12_tells_37 ?_
    refine j_iload_n C 1 dX12_tells_38 rfl ?_
    refine j_aload_n C 0 dX12_tells_39 rfl ?_
    refine j_geti (o := 0) (j := 2) C inT12 (ci := 11) rfl (by decide) (rfl) rfl rfl wd_1101 dX12_tells_40 ?_
    obtain ⟨g5, h⟩ := gd_some h
    refine j_idiv C dX12_tells_43 (of_decide_eq_true g5) ?_
    refine j_istore_n (L' := [(2, .int (x2 / ((up σ 22 x5.toNatClampNeg (x2 - x2 / (σ 0 2) * (σ 0 2))) 0 2))), (0, .ref (wad (ωM α) 0)), (3, .int x3), (4, .int x4), (5, .int x5)]) C dX12_tells_44 rfl rfl rfl ?_
    refine j_iload_n C 2 dX12_tells_45 rfl ?_
    refine j_iconst (v := 1) C dX12_tells_46 (by decide) ?_
    refine j_aload_n C 1 dX12_tells_47 rfl ?_
    refine j_getr (o := 0) (j := 38) C inT12 (ci := 11) rfl (by decide) (rfl) rfl rfl wd_1137 dX12_tells_48 (o' := 22) rfl ?_
    refine j_iload C 4 dX12_tells_51 rfl ?_
    refine j_iaload (N := 6) C (rfl) (inb_in g4) dX12_tells_53 ?_
    refine j_ishl C dX12_tells_54 ?_
    refine j_ior C dX12_tells_55 ?_
    refine j_istore_n (L' := [(3, .int (x3 ||| ((1 : Int32) <<< (((up σ 22 x5.toNatClampNeg (x2 - x2 / (σ 0 2) * (σ 0 2))) 22 x5.toNatClampNeg) &&& 31)))), (2, .int (x2 / ((up σ 22 x5.toNatClampNeg (x2 - x2 / (σ 0 2) * (σ 0 2))) 0 2))), (0, .ref (wad (ωM α) 0)), (4, .int x4), (5, .int x5)]) C dX12_tells_56 rfl rfl rfl ?_
    refine j_aload_n C 2 dX12_tells_57 rfl ?_
    refine j_dup C dX12_tells_58 rfl ?_
    refine j_geti (o := 0) (j := 43) C inT12 (ci := 11) rfl (by decide) (rfl) rfl rfl wd_1142 dX12_tells_59 ?_
    refine j_iload C 3 dX12_tells_62 rfl ?_
    refine j_aload_n C 2 dX12_tells_64 rfl ?_
    refine j_getr (o := 0) (j := 38) C inT12 (ci := 11) rfl (by decide) (rfl) rfl rfl wd_1137 dX12_tells_65 (o' := 22) rfl ?_
    refine j_iload C 4 dX12_tells_68 rfl ?_
    refine j_iaload (N := 6) C (rfl) (inb_in g4) dX12_tells_70 ?_
    refine j_iconst (v := 1) C dX12_tells_71 (by decide) ?_
    refine j_iadd C dX12_tells_72 ?_
    refine j_imul C dX12_tells_73 ?_
    refine j_iadd C dX12_tells_74 ?_
    refine j_puti (o := 0) (j := 43) C inT12 tyX12_ok nmX12 (ci := 11) rfl (by decide) (rfl) rfl rfl rfl (tyX12_ok 43 (by decide)) rfl rfl wd_1142 dX12_tells_75 ?_
    refine j_iload C 3 dX12_tells_78 rfl ?_
    refine j_bipush (v := 10) C dX12_tells_80 (by decide) ?_
    refine j_imul C dX12_tells_82 ?_
    refine j_istore (L' := [(4, .int (x4 * (10 : Int32))), (3, .int (x3 ||| ((1 : Int32) <<< (((up σ 22 x5.toNatClampNeg (x2 - x2 / (σ 0 2) * (σ 0 2))) 22 x5.toNatClampNeg) &&& 31)))), (2, .int (x2 / ((up σ 22 x5.toNatClampNeg (x2 - x2 / (σ 0 2) * (σ 0 2))) 0 2))), (0, .ref (wad (ωM α) 0)), (5, .int x5)]) C dX12_tells_83 rfl rfl ?_
    refine j_iinc (L' := [(5, .int (x5 + (-1))), (4, .int (x4 * (10 : Int32))), (3, .int (x3 ||| ((1 : Int32) <<< (((up σ 22 x5.toNatClampNeg (x2 - x2 / (σ 0 2) * (σ 0 2))) 22 x5.toNatClampNeg) &&& 31)))), (2, .int (x2 / ((up σ 22 x5.toNatClampNeg (x2 - x2 / (σ 0 2) * (σ 0 2))) 0 2))), (0, .ref (wad (ωM α) 0))]) C 4 dX12_tells_85 rfl rfl rfl rfl ?_
    refine j_goto (tgt := 20) C dX12_tells_88 (by decide) ?_
    exact j_sub [4, 3, 2, 1, 0] rfl (hk20 _ _ _ _ _ h)
set_option maxRecDepth 10000 in
theorem c12_tells (l : Launch) {α : WA} {fu : Nat} {a1 : Int32} {σ σ' : M2} {v : Int32}  (h : F12_tells fu a1 σ = some (v, σ')) : Ct l (ωM α) yX12_tells cX12_tells 6 (some FieldType.boolean) 1 [.ref (wad (ωM α) 0), .int a1] σ (some (.int v)) σ' := by
  unfold F12_tells at h
  refine Ct.of (own := "EveryoneWinsModel") (L := [(0, .ref (wad (ωM α) 0)), (1, .int a1)]) (by decide +kernel) rfl rfl rfl (fun κ hl e C => ?_)
  show J (ωM α) κ 1 6 0 [(0, .ref (wad (ωM α) 0)), (1, .int a1)] [] σ
  refine j_iload_n C 1 dX12_tells_0 rfl ?_
  refine j_istore_n (L' := [(2, .int a1), (0, .ref (wad (ωM α) 0)), (1, .int a1)]) C dX12_tells_1 rfl rfl rfl ?_
  refine j_iconst (v := 0) C dX12_tells_2 (by decide) ?_
  refine j_istore_n (L' := [(3, .int (0 : Int32)), (2, .int a1), (0, .ref (wad (ωM α) 0)), (1, .int a1)]) C dX12_tells_3 rfl rfl rfl ?_
  refine j_iconst (v := 1) C dX12_tells_4 (by decide) ?_
  refine j_istore (L' := [(4, .int (1 : Int32)), (3, .int (0 : Int32)), (2, .int a1), (0, .ref (wad (ωM α) 0)), (1, .int a1)]) C dX12_tells_5 rfl rfl ?_
  refine j_aload_n C 3 dX12_tells_7 rfl ?_
  refine j_iconst (v := 0) C dX12_tells_8 (by decide) ?_
  refine j_puti (o := 0) (j := 43) C inT12 tyX12_ok nmX12 (ci := 11) rfl (by decide) (rfl) rfl rfl rfl (tyX12_ok 43 (by decide)) rfl rfl wd_1142 dX12_tells_9 ?_
  refine j_aload_n C 3 dX12_tells_12 rfl ?_
  refine j_geti (o := 0) (j := 2) C inT12 (ci := 11) rfl (by decide) (rfl) rfl rfl wd_1101 dX12_tells_13 ?_
  refine j_iconst (v := 1) C dX12_tells_16 (by decide) ?_
  refine j_isub C dX12_tells_17 ?_
  refine j_istore (L' := [(5, .int (((up σ 0 43 (0 : Int32)) 0 2) - (1 : Int32))), (4, .int (1 : Int32)), (3, .int (0 : Int32)), (2, .int a1), (0, .ref (wad (ωM α) 0)), (1, .int a1)]) C dX12_tells_18 rfl rfl ?_
  exact j_sub [4, 3, 2, 1, 0] rfl (b12_tells_20 C e h)
set_option maxRecDepth 10000 in
theorem b12_order_84 {α : WA} {κ : KT} {fu : Nat} {v : Int32} {σ' : M2} {x1 : Int32} {x3 : Int32} (C : Cx (ωM α) κ cX12_order 4 "EveryoneWinsModel" (some FieldType.int)) (e : κ.2.2.2.2.2.2.2.2.2 = (some (.int v), σ'))  {σ : M2} (h : F12_order_84 fu x1 x3 σ = some (v, σ')) : J (ωM α) κ 9 4 84 [(0, .ref (wad (ωM α) 0)), (1, .int x1), (3, .int x3)] [] σ := by
  unfold F12_order_84 at h
  refine wl1_ind (fun x3 σ => J (ωM α) κ 9 4 84 [(0, .ref (wad (ωM α) 0)), (1, .int x1), (3, .int x3)] [] σ) ?_ fu x3 σ h
  intro k84 hk84 x3 σ h
  try dsimp only at h
  show J (ωM α) κ 9 4 84 [(0, .ref (wad (ωM α) 0)), (1, .int x1), (3, .int x3)] [] σ
  refine j_iload_n C 2 dX12_order_84 rfl ?_
  refine j_bipush (v := 6) C dX12_order_85 (by decide) ?_
  refine j_icmp_ge (tgt := 103) C dX12_order_87 (by decide) (fun c1 => ?_) (fun c1 => ?_)
  · replace h := it c1 h
    refine j_aload_n C 0 dX12_order_103 rfl ?_
    refine j_iload_n C 1 dX12_order_104 rfl ?_
    obtain ⟨r2, s3, hc4, h⟩ := bnd_some h
    refine k_V (v := some (.int r2)) C vb_X12_toldBest (ci := 11) (T := TX12) (N := 45) rfl (by decide) (c12_toldBest _ hc4) rfl (by decide) wd_1364 (rfl) rfl dX12_order_105 ?_
    show J (ωM α) κ _ _ 108 _ [.int r2] s3
    obtain ⟨hv, hs⟩ := s2_inj h
    subst hv
    subst hs
    exact j_iret C e dX12_order_108
  · replace h := ie c1 h
    refine j_aload_n C 0 dX12_order_90 rfl ?_
    refine j_getr (o := 0) (j := 38) C inT12 (ci := 11) rfl (by decide) (rfl) rfl rfl wd_1137 dX12_order_91 (o' := 22) rfl ?_
    refine j_iload_n C 2 dX12_order_94 rfl ?_
    refine j_iload_n C 2 dX12_order_95 rfl ?_
    obtain ⟨g5, h⟩ := gd_some h
    refine j_iastore (N := 6) C (rfl) (inb_in g5) dX12_order_96 ?_
    refine j_iinc (L' := [(3, .int (x3 + 1)), (0, .ref (wad (ωM α) 0)), (1, .int x1)]) C 2 dX12_order_97 rfl rfl rfl rfl ?_
    refine j_goto (tgt := 84) C dX12_order_100 (by decide) ?_
    exact j_sub [1, 2, 0] rfl (hk84 _ _ h)
set_option maxRecDepth 10000 in
theorem b12_order_76 {α : WA} {κ : KT} {fu : Nat} {v : Int32} {σ' : M2} {x1 : Int32} {x2 : Int32} {x3 : Int32} (C : Cx (ωM α) κ cX12_order 4 "EveryoneWinsModel" (some FieldType.int)) (e : κ.2.2.2.2.2.2.2.2.2 = (some (.int v), σ')) {k55 : Int32 → M2 → Option (Int32 × M2)} (hk55 : ∀ (x3' : Int32) (σ : M2), k55 x3' σ = some (v, σ') → J (ωM α) κ 9 4 55 [(0, .ref (wad (ωM α) 0)), (1, .int x1), (2, .int x2), (3, .int x3')] [] σ) {σ : M2} (h : F12_order_76 fu k55 x1 x2 x3 σ = some (v, σ')) : J (ωM α) κ 9 4 76 [(0, .ref (wad (ωM α) 0)), (1, .int x1), (2, .int x2), (3, .int x3)] [] σ := by
  unfold F12_order_76 at h
  refine j_iinc (L' := [(3, .int (x3 + 1)), (0, .ref (wad (ωM α) 0)), (1, .int x1), (2, .int x2)]) C 3 dX12_order_76 rfl rfl rfl rfl ?_
  refine j_goto (tgt := 55) C dX12_order_79 (by decide) ?_
  exact j_sub [1, 2, 3, 0] rfl (hk55 _ _ h)
set_option maxRecDepth 10000 in
theorem b12_order_55 {α : WA} {κ : KT} {fu : Nat} {v : Int32} {σ' : M2} {x1 : Int32} {x2 : Int32} {x3 : Int32} (C : Cx (ωM α) κ cX12_order 4 "EveryoneWinsModel" (some FieldType.int)) (e : κ.2.2.2.2.2.2.2.2.2 = (some (.int v), σ'))  {σ : M2} (h : F12_order_55 fu x1 x2 x3 σ = some (v, σ')) : J (ωM α) κ 9 4 55 [(0, .ref (wad (ωM α) 0)), (1, .int x1), (2, .int x2), (3, .int x3)] [] σ := by
  unfold F12_order_55 at h
  refine wl1_ind (fun x3 σ => J (ωM α) κ 9 4 55 [(0, .ref (wad (ωM α) 0)), (1, .int x1), (2, .int x2), (3, .int x3)] [] σ) ?_ fu x3 σ h
  intro k55 hk55 x3 σ h
  try dsimp only at h
  show J (ωM α) κ 9 4 55 [(0, .ref (wad (ωM α) 0)), (1, .int x1), (2, .int x2), (3, .int x3)] [] σ
  refine j_iload_n C 3 dX12_order_55 rfl ?_
  refine j_iload_n C 2 dX12_order_56 rfl ?_
  refine j_icmp_ge (tgt := 82) C dX12_order_57 (by decide) (fun c1 => ?_) (fun c1 => ?_)
  · replace h := it c1 h
    refine j_iconst (v := 0) C dX12_order_82 (by decide) ?_
    refine j_istore_n (L' := [(3, .int (0 : Int32)), (0, .ref (wad (ωM α) 0)), (1, .int x1), (2, .int x2)]) C dX12_order_83 rfl rfl rfl ?_
    exact j_sub [1, 2, 0] rfl (b12_order_84 C e h)
  · replace h := ie c1 h
    refine j_aload_n C 0 dX12_order_60 rfl ?_
    refine j_iload_n C 3 dX12_order_61 rfl ?_
    obtain ⟨r2, s3, hc4, h⟩ := bnd_some h
    refine k_V (v := some (.int r2)) C vb_X12_tells (ci := 11) (T := TX12) (N := 45) rfl (by decide) (c12_tells _ hc4) rfl (by decide) wd_1380 (rfl) rfl dX12_order_62 ?_
    show J (ωM α) κ _ _ 65 _ [.int r2] s3
    refine j_if_eq (tgt := 76) C dX12_order_65 (by decide) (fun c5 => ?_) (fun c5 => ?_)
    · replace h := it c5 h
      exact (b12_order_76 C e hk55 h)
    · replace h := ie c5 h
      refine j_aload_n C 0 dX12_order_68 rfl ?_
      refine j_aload_n C 0 dX12_order_69 rfl ?_
      refine j_geti (o := 0) (j := 43) C inT12 (ci := 11) rfl (by decide) (rfl) rfl rfl wd_1142 dX12_order_70 ?_
      obtain ⟨r6, s7, hc8, h⟩ := bnd_some h
      refine k_V (v := none) C vb_X12_tried (ci := 11) (T := TX12) (N := 45) rfl (by decide) (c12_tried _ hc8) rfl (by decide) wd_1360 (rfl) rfl dX12_order_73 ?_
      show J (ωM α) κ _ _ 76 _ [] s7
      exact (b12_order_76 C e hk55 h)
set_option maxRecDepth 10000 in
theorem b12_order_32 {α : WA} {κ : KT} {fu : Nat} {v : Int32} {σ' : M2} {x1 : Int32} {x2 : Int32} {x3 : Int32} (C : Cx (ωM α) κ cX12_order 4 "EveryoneWinsModel" (some FieldType.int)) (e : κ.2.2.2.2.2.2.2.2.2 = (some (.int v), σ'))  {σ : M2} (h : F12_order_32 fu x1 x2 x3 σ = some (v, σ')) : J (ωM α) κ 9 4 32 [(0, .ref (wad (ωM α) 0)), (1, .int x1), (2, .int x2), (3, .int x3)] [] σ := by
  unfold F12_order_32 at h
  refine wl2_ind (fun x2 x3 σ => J (ωM α) κ 9 4 32 [(0, .ref (wad (ωM α) 0)), (1, .int x1), (2, .int x2), (3, .int x3)] [] σ) ?_ fu x2 x3 σ h
  intro k32 hk32 x2 x3 σ h
  try dsimp only at h
  show J (ωM α) κ 9 4 32 [(0, .ref (wad (ωM α) 0)), (1, .int x1), (2, .int x2), (3, .int x3)] [] σ
  refine j_iload_n C 3 dX12_order_32 rfl ?_
  refine j_aload_n C 0 dX12_order_33 rfl ?_
  refine j_geti (o := 0) (j := 2) C inT12 (ci := 11) rfl (by decide) (rfl) rfl rfl wd_1101 dX12_order_34 ?_
  refine j_icmp_ge (tgt := 53) C dX12_order_37 (by decide) (fun c1 => ?_) (fun c1 => ?_)
  · replace h := it c1 h
    refine j_iconst (v := 0) C dX12_order_53 (by decide) ?_
    refine j_istore_n (L' := [(3, .int (0 : Int32)), (0, .ref (wad (ωM α) 0)), (1, .int x1), (2, .int x2)]) C dX12_order_54 rfl rfl rfl ?_
    exact j_sub [1, 2, 3, 0] rfl (b12_order_55 C e h)
  · replace h := ie c1 h
    refine j_iload_n C 2 dX12_order_40 rfl ?_
    refine j_aload_n C 0 dX12_order_41 rfl ?_
    refine j_geti (o := 0) (j := 2) C inT12 (ci := 11) rfl (by decide) (rfl) rfl rfl wd_1101 dX12_order_42 ?_
    refine j_imul C dX12_order_45 ?_
    refine j_istore_n (L' := [(2, .int (x2 * (σ 0 2))), (0, .ref (wad (ωM α) 0)), (1, .int x1), (3, .int x3)]) C dX12_order_46 rfl rfl rfl ?_
    refine j_iinc (L' := [(3, .int (x3 + 1)), (2, .int (x2 * (σ 0 2))), (0, .ref (wad (ωM α) 0)), (1, .int x1)]) C 3 dX12_order_47 rfl rfl rfl rfl ?_
    refine j_goto (tgt := 32) C dX12_order_50 (by decide) ?_
    exact j_sub [2, 3, 1, 0] rfl (hk32 _ _ _ h)
set_option maxRecDepth 10000 in
theorem b12_order_29 {α : WA} {κ : KT} {fu : Nat} {v : Int32} {σ' : M2} {x1 : Int32} {y0 : Int32} (C : Cx (ωM α) κ cX12_order 4 "EveryoneWinsModel" (some FieldType.int)) (e : κ.2.2.2.2.2.2.2.2.2 = (some (.int v), σ'))  {σ : M2} (h : F12_order_29 fu x1 y0 σ = some (v, σ')) : J (ωM α) κ 9 4 29 [(0, .ref (wad (ωM α) 0)), (1, .int x1)] [.int y0] σ := by
  unfold F12_order_29 at h
  refine j_istore_n (L' := [(2, .int y0), (0, .ref (wad (ωM α) 0)), (1, .int x1)]) C dX12_order_29 rfl rfl rfl ?_
  refine j_iconst (v := 0) C dX12_order_30 (by decide) ?_
  refine j_istore_n (L' := [(3, .int (0 : Int32)), (2, .int y0), (0, .ref (wad (ωM α) 0)), (1, .int x1)]) C dX12_order_31 rfl rfl rfl ?_
  exact j_sub [2, 3, 1, 0] rfl (b12_order_32 C e h)
set_option maxRecDepth 10000 in
theorem c12_order (l : Launch) {α : WA} {fu : Nat} {a1 : Int32} {σ σ' : M2} {v : Int32}  (h : F12_order fu a1 σ = some (v, σ')) : Ct l (ωM α) yX12_order cX12_order 4 (some FieldType.int) 9 [.ref (wad (ωM α) 0), .int a1] σ (some (.int v)) σ' := by
  unfold F12_order at h
  refine Ct.of (own := "EveryoneWinsModel") (L := [(0, .ref (wad (ωM α) 0)), (1, .int a1)]) (by decide +kernel) rfl rfl rfl (fun κ hl e C => ?_)
  show J (ωM α) κ 9 4 0 [(0, .ref (wad (ωM α) 0)), (1, .int a1)] [] σ
  refine j_iload_n C 1 dX12_order_0 rfl ?_
  refine j_iconst (v := 0) C dX12_order_1 (by decide) ?_
  refine j_iconst (v := 2) C dX12_order_2 (by decide) ?_
  obtain ⟨r1, s2, hc3, h⟩ := bnd_some h
  refine k_S (v := some (.int r1)) C sb_X12_in (c12_in _ hc3) rfl (by decide) wd_1060 rfl dX12_order_3 ?_
  show J (ωM α) κ _ _ 6 _ [.int r1] s2
  refine j_if_ne (tgt := 13) C dX12_order_6 (by decide) (fun c4 => ?_) (fun c4 => ?_)
  · replace h := ie c4 h
    refine j_aload_n C 0 dX12_order_13 rfl ?_
    obtain ⟨r5, s6, hc7, h⟩ := bnd_some h
    refine k_V (v := none) C vb_X12_asItIs (ci := 11) (T := TX12) (N := 45) rfl (by decide) (c12_asItIs _ hc7) rfl (by decide) wd_1356 (rfl) rfl dX12_order_14 ?_
    show J (ωM α) κ _ _ 17 _ [] s6
    refine j_aload_n C 0 dX12_order_17 rfl ?_
    refine j_geti (o := 0) (j := 2) C inT12 (ci := 11) rfl (by decide) (rfl) rfl rfl wd_1101 dX12_order_18 ?_
    refine j_if_ne (tgt := 28) C dX12_order_21 (by decide) (fun c8 => ?_) (fun c8 => ?_)
    · replace h := ie c8 h
      refine j_iconst (v := 1) C dX12_order_28 (by decide) ?_
      exact (b12_order_29 C e h)
    · replace h := it c8 h
      refine j_iconst (v := 0) C dX12_order_24 (by decide) ?_
      refine j_goto (tgt := 29) C dX12_order_25 (by decide) ?_
      exact (b12_order_29 C e h)
  · replace h := it c4 h
    refine j_sipush (v := -1000) C dX12_order_9 (by decide) ?_
    obtain ⟨hv, hs⟩ := s2_inj h
    subst hv
    subst hs
    exact j_iret C e dX12_order_12
set_option maxRecDepth 10000 in
theorem b12_tie_41 {α : WA} {κ : KT} {fu : Nat} {v : Int32} {σ' : M2} {x1 : Int32} {x2 : Int32} {x3 : Int32} {x4 : Int32} (C : Cx (ωM α) κ cX12_tie 5 "EveryoneWinsModel" (some FieldType.int)) (e : κ.2.2.2.2.2.2.2.2.2 = (some (.int v), σ')) {k19 : Int32 → M2 → Option (Int32 × M2)} (hk19 : ∀ (x2' : Int32) (σ : M2), k19 x2' σ = some (v, σ') → J (ωM α) κ 9 5 19 [(0, .ref (wad (ωM α) 0)), (1, .int x1), (2, .int x2')] [] σ) {σ : M2} (h : F12_tie_41 fu k19 x1 x2 x3 x4 σ = some (v, σ')) : J (ωM α) κ 9 5 41 [(0, .ref (wad (ωM α) 0)), (1, .int x1), (2, .int x2), (3, .int x3), (4, .int x4)] [] σ := by
  unfold F12_tie_41 at h
  refine wl1_ind (fun x4 σ => J (ωM α) κ 9 5 41 [(0, .ref (wad (ωM α) 0)), (1, .int x1), (2, .int x2), (3, .int x3), (4, .int x4)] [] σ) ?_ fu x4 σ h
  intro k41 hk41 x4 σ h
  try dsimp only at h
  show J (ωM α) κ 9 5 41 [(0, .ref (wad (ωM α) 0)), (1, .int x1), (2, .int x2), (3, .int x3), (4, .int x4)] [] σ
  refine j_iload C 4 dX12_tie_41 rfl ?_
  refine j_iconst (v := 3) C dX12_tie_43 (by decide) ?_
  refine j_icmp_gt (tgt := 76) C dX12_tie_44 (by decide) (fun c1 => ?_) (fun c1 => ?_)
  · replace h := it c1 h
    refine j_aload_n C 0 dX12_tie_76 rfl ?_
    refine j_getr (o := 0) (j := 5) C inT12 (ci := 11) rfl (by decide) (rfl) rfl rfl wd_1104 dX12_tie_77 (o' := 4) rfl ?_
    refine j_iconst (v := 2) C dX12_tie_80 (by decide) ?_
    refine j_iload_n C 2 dX12_tie_81 rfl ?_
    refine j_imul C dX12_tie_82 ?_
    refine j_iconst (v := 1) C dX12_tie_83 (by decide) ?_
    refine j_iadd C dX12_tie_84 ?_
    refine j_iload_n C 3 dX12_tie_85 rfl ?_
    obtain ⟨g2, h⟩ := gd_some h
    refine j_iastore (N := 12) C (rfl) (inb_in g2) dX12_tie_86 ?_
    refine j_iinc (L' := [(2, .int (x2 + 1)), (0, .ref (wad (ωM α) 0)), (1, .int x1), (3, .int x3), (4, .int x4)]) C 2 dX12_tie_87 rfl rfl rfl rfl ?_
    refine j_goto (tgt := 19) C dX12_tie_90 (by decide) ?_
    exact j_sub [1, 2, 0] rfl (hk19 _ _ h)
  · replace h := ie c1 h
    refine j_aload_n C 0 dX12_tie_47 rfl ?_
    refine j_getr (o := 0) (j := 5) C inT12 (ci := 11) rfl (by decide) (rfl) rfl rfl wd_1104 dX12_tie_48 (o' := 4) rfl ?_
    refine j_iconst (v := 2) C dX12_tie_51 (by decide) ?_
    refine j_iload_n C 2 dX12_tie_52 rfl ?_
    refine j_imul C dX12_tie_53 ?_
    refine j_iconst (v := 1) C dX12_tie_54 (by decide) ?_
    refine j_iadd C dX12_tie_55 ?_
    refine j_iload C 4 dX12_tie_56 rfl ?_
    obtain ⟨g3, h⟩ := gd_some h
    refine j_iastore (N := 12) C (rfl) (inb_in g3) dX12_tie_58 ?_
    refine j_aload_n C 0 dX12_tie_59 rfl ?_
    refine j_bipush (v := 10) C dX12_tie_60 (by decide) ?_
    refine j_iload_n C 2 dX12_tie_62 rfl ?_
    refine j_imul C dX12_tie_63 ?_
    refine j_iload C 4 dX12_tie_64 rfl ?_
    refine j_iadd C dX12_tie_66 ?_
    obtain ⟨r4, s5, hc6, h⟩ := bnd_some h
    refine k_V (v := none) C vb_X12_tried (ci := 11) (T := TX12) (N := 45) rfl (by decide) (c12_tried _ hc6) rfl (by decide) wd_1360 (rfl) rfl dX12_tie_67 ?_
    show J (ωM α) κ _ _ 70 _ [] s5
    refine j_iinc (L' := [(4, .int (x4 + 1)), (0, .ref (wad (ωM α) 0)), (1, .int x1), (2, .int x2), (3, .int x3)]) C 4 dX12_tie_70 rfl rfl rfl rfl ?_
    refine j_goto (tgt := 41) C dX12_tie_73 (by decide) ?_
    exact j_sub [1, 2, 3, 4, 0] rfl (hk41 _ _ h)
set_option maxRecDepth 10000 in
theorem b12_tie_19 {α : WA} {κ : KT} {fu : Nat} {v : Int32} {σ' : M2} {x1 : Int32} {x2 : Int32} (C : Cx (ωM α) κ cX12_tie 5 "EveryoneWinsModel" (some FieldType.int)) (e : κ.2.2.2.2.2.2.2.2.2 = (some (.int v), σ'))  {σ : M2} (h : F12_tie_19 fu x1 x2 σ = some (v, σ')) : J (ωM α) κ 9 5 19 [(0, .ref (wad (ωM α) 0)), (1, .int x1), (2, .int x2)] [] σ := by
  unfold F12_tie_19 at h
  refine wl1_ind (fun x2 σ => J (ωM α) κ 9 5 19 [(0, .ref (wad (ωM α) 0)), (1, .int x1), (2, .int x2)] [] σ) ?_ fu x2 σ h
  intro k19 hk19 x2 σ h
  try dsimp only at h
  show J (ωM α) κ 9 5 19 [(0, .ref (wad (ωM α) 0)), (1, .int x1), (2, .int x2)] [] σ
  refine j_iload_n C 2 dX12_tie_19 rfl ?_
  refine j_aload_n C 0 dX12_tie_20 rfl ?_
  refine j_geti (o := 0) (j := 2) C inT12 (ci := 11) rfl (by decide) (rfl) rfl rfl wd_1101 dX12_tie_21 ?_
  refine j_icmp_ge (tgt := 93) C dX12_tie_24 (by decide) (fun c1 => ?_) (fun c1 => ?_)
  · replace h := it c1 h
    refine j_aload_n C 0 dX12_tie_93 rfl ?_
    refine j_iload_n C 1 dX12_tie_94 rfl ?_
    obtain ⟨r2, s3, hc4, h⟩ := bnd_some h
    refine k_V (v := some (.int r2)) C vb_X12_toldBest (ci := 11) (T := TX12) (N := 45) rfl (by decide) (c12_toldBest _ hc4) rfl (by decide) wd_1364 (rfl) rfl dX12_tie_95 ?_
    show J (ωM α) κ _ _ 98 _ [.int r2] s3
    obtain ⟨hv, hs⟩ := s2_inj h
    subst hv
    subst hs
    exact j_iret C e dX12_tie_98
  · replace h := ie c1 h
    refine j_aload_n C 0 dX12_tie_27 rfl ?_
    refine j_getr (o := 0) (j := 5) C inT12 (ci := 11) rfl (by decide) (rfl) rfl rfl wd_1104 dX12_tie_28 (o' := 4) rfl ?_
    refine j_iconst (v := 2) C dX12_tie_31 (by decide) ?_
    refine j_iload_n C 2 dX12_tie_32 rfl ?_
    refine j_imul C dX12_tie_33 ?_
    refine j_iconst (v := 1) C dX12_tie_34 (by decide) ?_
    refine j_iadd C dX12_tie_35 ?_
    obtain ⟨g5, h⟩ := gd_some h
    refine j_iaload (N := 12) C (rfl) (inb_in g5) dX12_tie_36 ?_
    refine j_istore_n (L' := [(3, .int (σ 4 (((2 : Int32) * x2) + (1 : Int32)).toNatClampNeg)), (0, .ref (wad (ωM α) 0)), (1, .int x1), (2, .int x2)]) C dX12_tie_37 rfl rfl rfl ?_
    refine j_iconst (v := 0) C dX12_tie_38 (by decide) ?_
    refine j_istore (L' := [(4, .int (0 : Int32)), (3, .int (σ 4 (((2 : Int32) * x2) + (1 : Int32)).toNatClampNeg)), (0, .ref (wad (ωM α) 0)), (1, .int x1), (2, .int x2)]) C dX12_tie_39 rfl rfl ?_
    exact j_sub [2, 3, 4, 1, 0] rfl (b12_tie_41 C e hk19 h)
set_option maxRecDepth 10000 in
theorem c12_tie (l : Launch) {α : WA} {fu : Nat} {a1 : Int32} {σ σ' : M2} {v : Int32}  (h : F12_tie fu a1 σ = some (v, σ')) : Ct l (ωM α) yX12_tie cX12_tie 5 (some FieldType.int) 9 [.ref (wad (ωM α) 0), .int a1] σ (some (.int v)) σ' := by
  unfold F12_tie at h
  refine Ct.of (own := "EveryoneWinsModel") (L := [(0, .ref (wad (ωM α) 0)), (1, .int a1)]) (by decide +kernel) rfl rfl rfl (fun κ hl e C => ?_)
  show J (ωM α) κ 9 5 0 [(0, .ref (wad (ωM α) 0)), (1, .int a1)] [] σ
  refine j_iload_n C 1 dX12_tie_0 rfl ?_
  refine j_iconst (v := 0) C dX12_tie_1 (by decide) ?_
  refine j_iconst (v := 2) C dX12_tie_2 (by decide) ?_
  obtain ⟨r1, s2, hc3, h⟩ := bnd_some h
  refine k_S (v := some (.int r1)) C sb_X12_in (c12_in _ hc3) rfl (by decide) wd_1060 rfl dX12_tie_3 ?_
  show J (ωM α) κ _ _ 6 _ [.int r1] s2
  refine j_if_ne (tgt := 13) C dX12_tie_6 (by decide) (fun c4 => ?_) (fun c4 => ?_)
  · replace h := ie c4 h
    refine j_aload_n C 0 dX12_tie_13 rfl ?_
    obtain ⟨r5, s6, hc7, h⟩ := bnd_some h
    refine k_V (v := none) C vb_X12_asItIs (ci := 11) (T := TX12) (N := 45) rfl (by decide) (c12_asItIs _ hc7) rfl (by decide) wd_1356 (rfl) rfl dX12_tie_14 ?_
    show J (ωM α) κ _ _ 17 _ [] s6
    refine j_iconst (v := 0) C dX12_tie_17 (by decide) ?_
    refine j_istore_n (L' := [(2, .int (0 : Int32)), (0, .ref (wad (ωM α) 0)), (1, .int a1)]) C dX12_tie_18 rfl rfl rfl ?_
    exact j_sub [1, 2, 0] rfl (b12_tie_19 C e h)
  · replace h := it c4 h
    refine j_sipush (v := -1000) C dX12_tie_9 (by decide) ?_
    obtain ⟨hv, hs⟩ := s2_inj h
    subst hv
    subst hs
    exact j_iret C e dX12_tie_12
set_option maxRecDepth 10000 in
theorem b12_needs_94 {α : WA} {κ : KT} {fu : Nat} {v : Int32} {σ' : M2} {x1 : Int32} {x3 : Int32} {x4 : Int32} (C : Cx (ωM α) κ cX12_needs 6 "EveryoneWinsModel" (some FieldType.int)) (e : κ.2.2.2.2.2.2.2.2.2 = (some (.int v), σ'))  {σ : M2} (h : F12_needs_94 fu x1 x3 x4 σ = some (v, σ')) : J (ωM α) κ 8 6 94 [(0, .ref (wad (ωM α) 0)), (1, .int x1), (3, .int x3), (4, .int x4)] [] σ := by
  unfold F12_needs_94 at h
  refine j_aload_n C 0 dX12_needs_94 rfl ?_
  refine j_getr (o := 0) (j := 1) C inT12 (ci := 11) rfl (by decide) (rfl) rfl rfl wd_1100 dX12_needs_95 (o' := 1) rfl ?_
  refine j_iconst (v := 3) C dX12_needs_98 (by decide) ?_
  refine j_iload_n C 1 dX12_needs_99 rfl ?_
  refine j_imul C dX12_needs_100 ?_
  refine j_iconst (v := 2) C dX12_needs_101 (by decide) ?_
  refine j_iadd C dX12_needs_102 ?_
  refine j_iload_n C 2 dX12_needs_103 rfl ?_
  obtain ⟨g1, h⟩ := gd_some h
  refine j_iastore (N := 24) C (rfl) (inb_in g1) dX12_needs_104 ?_
  refine j_iload C 3 dX12_needs_105 rfl ?_
  obtain ⟨hv, hs⟩ := s2_inj h
  subst hv
  subst hs
  exact j_iret C e dX12_needs_107
set_option maxRecDepth 10000 in
theorem b12_needs_86 {α : WA} {κ : KT} {fu : Nat} {v : Int32} {σ' : M2} {x1 : Int32} {x2 : Int32} {x3 : Int32} {x5 : Int32} {y0 : Int32} (C : Cx (ωM α) κ cX12_needs 6 "EveryoneWinsModel" (some FieldType.int)) (e : κ.2.2.2.2.2.2.2.2.2 = (some (.int v), σ')) {k41 : Int32 → Int32 → M2 → Option (Int32 × M2)} (hk41 : ∀ (x4' : Int32) (x5' : Int32) (σ : M2), k41 x4' x5' σ = some (v, σ') → J (ωM α) κ 8 6 41 [(0, .ref (wad (ωM α) 0)), (1, .int x1), (2, .int x2), (3, .int x3), (4, .int x4'), (5, .int x5')] [] σ) {σ : M2} (h : F12_needs_86 fu k41 x1 x2 x3 x5 y0 σ = some (v, σ')) : J (ωM α) κ 8 6 86 [(0, .ref (wad (ωM α) 0)), (1, .int x1), (2, .int x2), (3, .int x3), (5, .int x5)] [.int y0] σ := by
  unfold F12_needs_86 at h
  refine j_istore (L' := [(4, .int y0), (0, .ref (wad (ωM α) 0)), (1, .int x1), (2, .int x2), (3, .int x3), (5, .int x5)]) C dX12_needs_86 rfl rfl ?_
  refine j_iinc (L' := [(5, .int (x5 + 1)), (4, .int y0), (0, .ref (wad (ωM α) 0)), (1, .int x1), (2, .int x2), (3, .int x3)]) C 5 dX12_needs_88 rfl rfl rfl rfl ?_
  refine j_goto (tgt := 41) C dX12_needs_91 (by decide) ?_
  exact j_sub [2, 3, 4, 5, 1, 0] rfl (hk41 _ _ _ h)
set_option maxRecDepth 10000 in
theorem b12_needs_41 {α : WA} {κ : KT} {fu : Nat} {v : Int32} {σ' : M2} {x1 : Int32} {x2 : Int32} {x3 : Int32} {x4 : Int32} {x5 : Int32} (C : Cx (ωM α) κ cX12_needs 6 "EveryoneWinsModel" (some FieldType.int)) (e : κ.2.2.2.2.2.2.2.2.2 = (some (.int v), σ'))  {σ : M2} (h : F12_needs_41 fu x1 x2 x3 x4 x5 σ = some (v, σ')) : J (ωM α) κ 8 6 41 [(0, .ref (wad (ωM α) 0)), (1, .int x1), (2, .int x2), (3, .int x3), (4, .int x4), (5, .int x5)] [] σ := by
  unfold F12_needs_41 at h
  refine wl2_ind (fun x4 x5 σ => J (ωM α) κ 8 6 41 [(0, .ref (wad (ωM α) 0)), (1, .int x1), (2, .int x2), (3, .int x3), (4, .int x4), (5, .int x5)] [] σ) ?_ fu x4 x5 σ h
  intro k41 hk41 x4 x5 σ h
  try dsimp only at h
  show J (ωM α) κ 8 6 41 [(0, .ref (wad (ωM α) 0)), (1, .int x1), (2, .int x2), (3, .int x3), (4, .int x4), (5, .int x5)] [] σ
  refine j_iload C 5 dX12_needs_41 rfl ?_
  refine j_bipush (v := 99) C dX12_needs_43 (by decide) ?_
  refine j_icmp_gt (tgt := 94) C dX12_needs_45 (by decide) (fun c1 => ?_) (fun c1 => ?_)
  · replace h := it c1 h
    exact j_sub [0, 1, 3, 4] rfl (b12_needs_94 C e h)
  · replace h := ie c1 h
    refine j_iload C 4 dX12_needs_48 rfl ?_
    refine j_iconst (v := -1) C dX12_needs_50 (by decide) ?_
    refine j_icmp_ne (tgt := 94) C dX12_needs_51 (by decide) (fun c2 => ?_) (fun c2 => ?_)
    · replace h := ie c2 h
      exact j_sub [0, 1, 3, 4] rfl (b12_needs_94 C e h)
    · replace h := it c2 h
      refine j_aload_n C 0 dX12_needs_54 rfl ?_
      refine j_getr (o := 0) (j := 1) C inT12 (ci := 11) rfl (by decide) (rfl) rfl rfl wd_1100 dX12_needs_55 (o' := 1) rfl ?_
      refine j_iconst (v := 3) C dX12_needs_58 (by decide) ?_
      refine j_iload_n C 1 dX12_needs_59 rfl ?_
      refine j_imul C dX12_needs_60 ?_
      refine j_iconst (v := 2) C dX12_needs_61 (by decide) ?_
      refine j_iadd C dX12_needs_62 ?_
      refine j_iload C 5 dX12_needs_63 rfl ?_
      obtain ⟨g3, h⟩ := gd_some h
      refine j_iastore (N := 24) C (rfl) (inb_in g3) dX12_needs_65 ?_
      refine j_aload_n C 0 dX12_needs_66 rfl ?_
      obtain ⟨r4, s5, hc6, h⟩ := bnd_some h
      refine k_V (v := none) C vb_X12_goes (ci := 11) (T := TX12) (N := 45) rfl (by decide) (c12_goes _ hc6) rfl (by decide) wd_1332 (rfl) rfl dX12_needs_67 ?_
      show J (ωM α) κ _ _ 70 _ [] s5
      refine j_aload_n C 0 dX12_needs_70 rfl ?_
      refine j_getr (o := 0) (j := 30) C inT12 (ci := 11) rfl (by decide) (rfl) rfl rfl wd_1129 dX12_needs_71 (o' := 18) rfl ?_
      refine j_iload_n C 1 dX12_needs_74 rfl ?_
      obtain ⟨g7, h⟩ := gd_some h
      refine j_iaload (N := 8) C (rfl) (inb_in g7) dX12_needs_75 ?_
      refine j_iload_n C 2 dX12_needs_76 rfl ?_
      refine j_icmp_lt (tgt := 85) C dX12_needs_77 (by decide) (fun c8 => ?_) (fun c8 => ?_)
      · replace h := it c8 h
        refine j_iconst (v := -1) C dX12_needs_85 (by decide) ?_
        exact j_sub [0, 1, 2, 3, 5] rfl (b12_needs_86 C e hk41 h)
      · replace h := ie c8 h
        refine j_iload C 5 dX12_needs_80 rfl ?_
        refine j_goto (tgt := 86) C dX12_needs_82 (by decide) ?_
        exact j_sub [0, 1, 2, 3, 5] rfl (b12_needs_86 C e hk41 h)
set_option maxRecDepth 10000 in
theorem c12_needs (l : Launch) {α : WA} {fu : Nat} {a1 : Int32} {a2 : Int32} {σ σ' : M2} {v : Int32}  (h : F12_needs fu a1 a2 σ = some (v, σ')) : Ct l (ωM α) yX12_needs cX12_needs 6 (some FieldType.int) 8 [.ref (wad (ωM α) 0), .int a1, .int a2] σ (some (.int v)) σ' := by
  unfold F12_needs at h
  refine Ct.of (own := "EveryoneWinsModel") (L := [(0, .ref (wad (ωM α) 0)), (1, .int a1), (2, .int a2)]) (by decide +kernel) rfl rfl rfl (fun κ hl e C => ?_)
  show J (ωM α) κ 8 6 0 [(0, .ref (wad (ωM α) 0)), (1, .int a1), (2, .int a2)] [] σ
  refine j_aload_n C 0 dX12_needs_0 rfl ?_
  refine j_iload_n C 1 dX12_needs_1 rfl ?_
  obtain ⟨r1, s2, hc3, h⟩ := bnd_some h
  refine k_V (v := some (.int r1)) C vb_X12_isChild (ci := 11) (T := TX12) (N := 45) rfl (by decide) (c12_isChild _ hc3) rfl (by decide) wd_1247 (rfl) rfl dX12_needs_2 ?_
  show J (ωM α) κ _ _ 5 _ [.int r1] s2
  refine j_if_ne (tgt := 11) C dX12_needs_5 (by decide) (fun c4 => ?_) (fun c4 => ?_)
  · replace h := ie c4 h
    refine j_iload_n C 2 dX12_needs_11 rfl ?_
    refine j_iconst (v := 0) C dX12_needs_12 (by decide) ?_
    refine j_bipush (v := 6) C dX12_needs_13 (by decide) ?_
    obtain ⟨r5, s6, hc7, h⟩ := bnd_some h
    refine k_S (v := some (.int r5)) C sb_X12_in (c12_in _ hc7) rfl (by decide) wd_1060 rfl dX12_needs_15 ?_
    show J (ωM α) κ _ _ 18 _ [.int r5] s6
    refine j_if_ne (tgt := 24) C dX12_needs_18 (by decide) (fun c8 => ?_) (fun c8 => ?_)
    · replace h := ie c8 h
      refine j_aload_n C 0 dX12_needs_24 rfl ?_
      refine j_getr (o := 0) (j := 1) C inT12 (ci := 11) rfl (by decide) (rfl) rfl rfl wd_1100 dX12_needs_25 (o' := 1) rfl ?_
      refine j_iconst (v := 3) C dX12_needs_28 (by decide) ?_
      refine j_iload_n C 1 dX12_needs_29 rfl ?_
      refine j_imul C dX12_needs_30 ?_
      refine j_iconst (v := 2) C dX12_needs_31 (by decide) ?_
      refine j_iadd C dX12_needs_32 ?_
      obtain ⟨g9, h⟩ := gd_some h
      refine j_iaload (N := 24) C (rfl) (inb_in g9) dX12_needs_33 ?_
      refine j_istore_n (L' := [(3, .int (s6 1 (((3 : Int32) * a1) + (2 : Int32)).toNatClampNeg)), (0, .ref (wad (ωM α) 0)), (1, .int a1), (2, .int a2)]) C dX12_needs_34 rfl rfl rfl ?_
      refine j_iconst (v := -1) C dX12_needs_35 (by decide) ?_
      refine j_istore (L' := [(4, .int (-1 : Int32)), (3, .int (s6 1 (((3 : Int32) * a1) + (2 : Int32)).toNatClampNeg)), (0, .ref (wad (ωM α) 0)), (1, .int a1), (2, .int a2)]) C dX12_needs_36 rfl rfl ?_
      refine j_iconst (v := 0) C dX12_needs_38 (by decide) ?_
      refine j_istore (L' := [(5, .int (0 : Int32)), (4, .int (-1 : Int32)), (3, .int (s6 1 (((3 : Int32) * a1) + (2 : Int32)).toNatClampNeg)), (0, .ref (wad (ωM α) 0)), (1, .int a1), (2, .int a2)]) C dX12_needs_39 rfl rfl ?_
      exact j_sub [3, 4, 5, 2, 1, 0] rfl (b12_needs_41 C e h)
    · replace h := it c8 h
      refine j_bipush (v := -7) C dX12_needs_21 (by decide) ?_
      obtain ⟨hv, hs⟩ := s2_inj h
      subst hv
      subst hs
      exact j_iret C e dX12_needs_23
  · replace h := it c4 h
    refine j_bipush (v := -5) C dX12_needs_8 (by decide) ?_
    obtain ⟨hv, hs⟩ := s2_inj h
    subst hv
    subst hs
    exact j_iret C e dX12_needs_10
set_option maxRecDepth 10000 in
theorem c12_sheetWrong (l : Launch) {α : WA}  {a1 : Int32} {σ σ' : M2} {v : Int32}  (h : F12_sheetWrong a1 σ = some (v, σ')) : Ct l (ωM α) yX12_sheetWrong cX12_sheetWrong 2 (some FieldType.int) 2 [.ref (wad (ωM α) 0), .int a1] σ (some (.int v)) σ' := by
  unfold F12_sheetWrong at h
  refine Ct.of (own := "EveryoneWinsModel") (L := [(0, .ref (wad (ωM α) 0)), (1, .int a1)]) (by decide +kernel) rfl rfl rfl (fun κ hl e C => ?_)
  show J (ωM α) κ 2 2 0 [(0, .ref (wad (ωM α) 0)), (1, .int a1)] [] σ
  refine j_iload_n C 1 dX12_sheetWrong_0 rfl ?_
  refine j_iconst (v := 0) C dX12_sheetWrong_1 (by decide) ?_
  refine j_iconst (v := 3) C dX12_sheetWrong_2 (by decide) ?_
  obtain ⟨r1, s2, hc3, h⟩ := bnd_some h
  refine k_S (v := some (.int r1)) C sb_X12_in (c12_in _ hc3) rfl (by decide) wd_1060 rfl dX12_sheetWrong_3 ?_
  show J (ωM α) κ _ _ 6 _ [.int r1] s2
  refine j_if_ne (tgt := 12) C dX12_sheetWrong_6 (by decide) (fun c4 => ?_) (fun c4 => ?_)
  · replace h := ie c4 h
    refine j_aload_n C 0 dX12_sheetWrong_12 rfl ?_
    refine j_getr (o := 0) (j := 15) C inT12 (ci := 11) rfl (by decide) (rfl) rfl rfl wd_1114 dX12_sheetWrong_13 (o' := 10) rfl ?_
    refine j_iload_n C 1 dX12_sheetWrong_16 rfl ?_
    obtain ⟨g5, h⟩ := gd_some h
    refine j_iaload (N := 4) C (rfl) (inb_in g5) dX12_sheetWrong_17 ?_
    refine j_iconst (v := -1) C dX12_sheetWrong_18 (by decide) ?_
    refine j_icmp_ne (tgt := 25) C dX12_sheetWrong_19 (by decide) (fun c6 => ?_) (fun c6 => ?_)
    · replace h := ie c6 h
      refine j_aload_n C 0 dX12_sheetWrong_25 rfl ?_
      refine j_getr (o := 0) (j := 16) C inT12 (ci := 11) rfl (by decide) (rfl) rfl rfl wd_1115 dX12_sheetWrong_26 (o' := 11) rfl ?_
      refine j_iload_n C 1 dX12_sheetWrong_29 rfl ?_
      refine j_iaload (N := 4) C (rfl) (inb_in g5) dX12_sheetWrong_30 ?_
      refine j_aload_n C 0 dX12_sheetWrong_31 rfl ?_
      refine j_geti (o := 0) (j := 2) C inT12 (ci := 11) rfl (by decide) (rfl) rfl rfl wd_1101 dX12_sheetWrong_32 ?_
      refine j_icmp_ne (tgt := 42) C dX12_sheetWrong_35 (by decide) (fun c7 => ?_) (fun c7 => ?_)
      · replace h := ie c7 h
        refine j_bipush (v := -2) C dX12_sheetWrong_42 (by decide) ?_
        obtain ⟨hv, hs⟩ := s2_inj h
        subst hv
        subst hs
        exact j_iret C e dX12_sheetWrong_44
      · replace h := it c7 h
        refine j_iconst (v := 0) C dX12_sheetWrong_38 (by decide) ?_
        refine j_goto (tgt := 44) C dX12_sheetWrong_39 (by decide) ?_
        obtain ⟨hv, hs⟩ := s2_inj h
        subst hv
        subst hs
        exact j_iret C e dX12_sheetWrong_44
    · replace h := it c6 h
      refine j_bipush (v := -11) C dX12_sheetWrong_22 (by decide) ?_
      obtain ⟨hv, hs⟩ := s2_inj h
      subst hv
      subst hs
      exact j_iret C e dX12_sheetWrong_24
  · replace h := it c4 h
    refine j_bipush (v := -2) C dX12_sheetWrong_9 (by decide) ?_
    obtain ⟨hv, hs⟩ := s2_inj h
    subst hv
    subst hs
    exact j_iret C e dX12_sheetWrong_11
set_option maxRecDepth 10000 in
theorem b12_unlike_6 {α : WA} {κ : KT} {fu : Nat} {v : Int32} {σ' : M2} {x1 : Int32} {x2 : Int32} (C : Cx (ωM α) κ cX12_unlike 3 "EveryoneWinsModel" (some FieldType.int)) (e : κ.2.2.2.2.2.2.2.2.2 = (some (.int v), σ'))  {σ : M2} (h : F12_unlike_6 fu x1 x2 σ = some (v, σ')) : J (ωM α) κ 8 3 6 [(0, .ref (wad (ωM α) 0)), (1, .int x1), (2, .int x2)] [] σ := by
  unfold F12_unlike_6 at h
  refine wl1_ind (fun x2 σ => J (ωM α) κ 8 3 6 [(0, .ref (wad (ωM α) 0)), (1, .int x1), (2, .int x2)] [] σ) ?_ fu x2 σ h
  intro k6 hk6 x2 σ h
  try dsimp only at h
  show J (ωM α) κ 8 3 6 [(0, .ref (wad (ωM α) 0)), (1, .int x1), (2, .int x2)] [] σ
  refine j_iload_n C 2 dX12_unlike_6 rfl ?_
  refine j_aload_n C 0 dX12_unlike_7 rfl ?_
  refine j_geti (o := 0) (j := 2) C inT12 (ci := 11) rfl (by decide) (rfl) rfl rfl wd_1101 dX12_unlike_8 ?_
  refine j_icmp_ge (tgt := 42) C dX12_unlike_11 (by decide) (fun c1 => ?_) (fun c1 => ?_)
  · replace h := it c1 h
    refine j_iconst (v := -1) C dX12_unlike_42 (by decide) ?_
    obtain ⟨hv, hs⟩ := s2_inj h
    subst hv
    subst hs
    exact j_iret C e dX12_unlike_43
  · replace h := ie c1 h
    refine j_aload_n C 0 dX12_unlike_14 rfl ?_
    refine j_getr (o := 0) (j := 17) C inT12 (ci := 11) rfl (by decide) (rfl) rfl rfl wd_1116 dX12_unlike_15 (o' := 12) rfl ?_
    refine j_bipush (v := 40) C dX12_unlike_18 (by decide) ?_
    refine j_iload_n C 1 dX12_unlike_20 rfl ?_
    refine j_imul C dX12_unlike_21 ?_
    refine j_iload_n C 2 dX12_unlike_22 rfl ?_
    refine j_iadd C dX12_unlike_23 ?_
    obtain ⟨g2, h⟩ := gd_some h
    refine j_iaload (N := 160) C (rfl) (inb_in g2) dX12_unlike_24 ?_
    refine j_aload_n C 0 dX12_unlike_25 rfl ?_
    refine j_getr (o := 0) (j := 37) C inT12 (ci := 11) rfl (by decide) (rfl) rfl rfl wd_1136 dX12_unlike_26 (o' := 21) rfl ?_
    refine j_iload_n C 2 dX12_unlike_29 rfl ?_
    obtain ⟨g3, h⟩ := gd_some h
    refine j_iaload (N := 6) C (rfl) (inb_in g3) dX12_unlike_30 ?_
    refine j_icmp_eq (tgt := 36) C dX12_unlike_31 (by decide) (fun c4 => ?_) (fun c4 => ?_)
    · replace h := it c4 h
      refine j_iinc (L' := [(2, .int (x2 + 1)), (0, .ref (wad (ωM α) 0)), (1, .int x1)]) C 2 dX12_unlike_36 rfl rfl rfl rfl ?_
      refine j_goto (tgt := 6) C dX12_unlike_39 (by decide) ?_
      exact j_sub [1, 2, 0] rfl (hk6 _ _ h)
    · replace h := ie c4 h
      refine j_iload_n C 2 dX12_unlike_34 rfl ?_
      obtain ⟨hv, hs⟩ := s2_inj h
      subst hv
      subst hs
      exact j_iret C e dX12_unlike_35
set_option maxRecDepth 10000 in
theorem c12_unlike (l : Launch) {α : WA} {fu : Nat} {a1 : Int32} {σ σ' : M2} {v : Int32}  (h : F12_unlike fu a1 σ = some (v, σ')) : Ct l (ωM α) yX12_unlike cX12_unlike 3 (some FieldType.int) 8 [.ref (wad (ωM α) 0), .int a1] σ (some (.int v)) σ' := by
  unfold F12_unlike at h
  refine Ct.of (own := "EveryoneWinsModel") (L := [(0, .ref (wad (ωM α) 0)), (1, .int a1)]) (by decide +kernel) rfl rfl rfl (fun κ hl e C => ?_)
  show J (ωM α) κ 8 3 0 [(0, .ref (wad (ωM α) 0)), (1, .int a1)] [] σ
  refine j_aload_n C 0 dX12_unlike_0 rfl ?_
  obtain ⟨r1, s2, hc3, h⟩ := bnd_some h
  refine k_V (v := none) C vb_X12_goes (ci := 11) (T := TX12) (N := 45) rfl (by decide) (c12_goes _ hc3) rfl (by decide) wd_1332 (rfl) rfl dX12_unlike_1 ?_
  show J (ωM α) κ _ _ 4 _ [] s2
  refine j_iconst (v := 0) C dX12_unlike_4 (by decide) ?_
  refine j_istore_n (L' := [(2, .int (0 : Int32)), (0, .ref (wad (ωM α) 0)), (1, .int a1)]) C dX12_unlike_5 rfl rfl rfl ?_
  exact j_sub [1, 2, 0] rfl (b12_unlike_6 C e h)
set_option maxRecDepth 10000 in
theorem c12_judge (l : Launch) {α : WA} {fu : Nat} {a1 : Int32} {σ σ' : M2} {v : Int32}  (h : F12_judge fu a1 σ = some (v, σ')) : Ct l (ωM α) yX12_judge cX12_judge 3 (some FieldType.int) 9 [.ref (wad (ωM α) 0), .int a1] σ (some (.int v)) σ' := by
  unfold F12_judge at h
  refine Ct.of (own := "EveryoneWinsModel") (L := [(0, .ref (wad (ωM α) 0)), (1, .int a1)]) (by decide +kernel) rfl rfl rfl (fun κ hl e C => ?_)
  show J (ωM α) κ 9 3 0 [(0, .ref (wad (ωM α) 0)), (1, .int a1)] [] σ
  refine j_aload_n C 0 dX12_judge_0 rfl ?_
  refine j_iload_n C 1 dX12_judge_1 rfl ?_
  obtain ⟨r1, s2, hc3, h⟩ := bnd_some h
  refine k_V (v := some (.int r1)) C vb_X12_sheetWrong (ci := 11) (T := TX12) (N := 45) rfl (by decide) (c12_sheetWrong _ hc3) rfl (by decide) wd_1396 (rfl) rfl dX12_judge_2 ?_
  show J (ωM α) κ _ _ 5 _ [.int r1] s2
  refine j_istore_n (L' := [(2, .int r1), (0, .ref (wad (ωM α) 0)), (1, .int a1)]) C dX12_judge_5 rfl rfl rfl ?_
  refine j_iload_n C 0 dX12_judge_6 rfl ?_
  refine j_if_ne (tgt := 18) C dX12_judge_7 (by decide) (fun c4 => ?_) (fun c4 => ?_)
  · replace h := ie c4 h
    refine j_iload_n C 0 dX12_judge_18 rfl ?_
    obtain ⟨hv, hs⟩ := s2_inj h
    subst hv
    subst hs
    exact j_iret C e dX12_judge_19
  · replace h := it c4 h
    refine j_aload_n C 1 dX12_judge_10 rfl ?_
    refine j_iload_n C 2 dX12_judge_11 rfl ?_
    obtain ⟨r5, s6, hc7, h⟩ := bnd_some h
    refine k_V (v := some (.int r5)) C vb_X12_unlike (ci := 11) (T := TX12) (N := 45) rfl (by decide) (c12_unlike _ hc7) rfl (by decide) wd_1400 (rfl) rfl dX12_judge_12 ?_
    show J (ωM α) κ _ _ 15 _ [.int r5] s6
    refine j_goto (tgt := 19) C dX12_judge_15 (by decide) ?_
    obtain ⟨hv, hs⟩ := s2_inj h
    subst hv
    subst hs
    exact j_iret C e dX12_judge_19
set_option maxRecDepth 10000 in
theorem b12_kinds_173 {α : WA} {κ : KT} {fu : Nat} {v : Int32} {σ' : M2} {x1 : Int32} {x2 : Int32} {x3 : Int32} {x5 : Int32} {x6 : Int32} {x7 : Int32} {x9 : Int32} {y0 : Int32} {y1 : Int32} (C : Cx (ωM α) κ cX12_kinds 10 "EveryoneWinsModel" (some FieldType.int)) (e : κ.2.2.2.2.2.2.2.2.2 = (some (.int v), σ')) {k72 : Int32 → Int32 → M2 → Option (Int32 × M2)} (hk72 : ∀ (x8' : Int32) (x9' : Int32) (σ : M2), k72 x8' x9' σ = some (v, σ') → J (ωM α) κ 9 10 72 [(0, .ref (wad (ωM α) 0)), (1, .int x1), (2, .int x2), (3, .int x3), (5, .int x5), (6, .int x6), (7, .int x7), (8, .int x8'), (9, .int x9')] [] σ) {σ : M2} (h : F12_kinds_173 fu k72 x1 x2 x3 x5 x6 x7 x9 y0 y1 σ = some (v, σ')) : J (ωM α) κ 9 10 173 [(0, .ref (wad (ωM α) 0)), (1, .int x1), (2, .int x2), (3, .int x3), (5, .int x5), (6, .int x6), (7, .int x7), (9, .int x9)] [.int y0, .int y1] σ := by
  unfold F12_kinds_173 at h
  refine j_ior C dX12_kinds_173 ?_
  refine j_istore (L' := [(8, .int (y1 ||| y0)), (0, .ref (wad (ωM α) 0)), (1, .int x1), (2, .int x2), (3, .int x3), (5, .int x5), (6, .int x6), (7, .int x7), (9, .int x9)]) C dX12_kinds_174 rfl rfl ?_
  refine j_iinc (L' := [(9, .int (x9 + 1)), (8, .int (y1 ||| y0)), (0, .ref (wad (ωM α) 0)), (1, .int x1), (2, .int x2), (3, .int x3), (5, .int x5), (6, .int x6), (7, .int x7)]) C 8 dX12_kinds_176 rfl rfl rfl rfl ?_
  refine j_goto (tgt := 72) C dX12_kinds_179 (by decide) ?_
  exact j_sub [2, 3, 4, 5, 6, 7, 8, 1, 0] rfl (hk72 _ _ _ h)
set_option maxRecDepth 10000 in
theorem b12_kinds_153 {α : WA} {κ : KT} {fu : Nat} {v : Int32} {σ' : M2} {x1 : Int32} {x2 : Int32} {x3 : Int32} {x5 : Int32} {x6 : Int32} {x7 : Int32} {x8 : Int32} {x9 : Int32} {y0 : Int32} {y1 : Int32} (C : Cx (ωM α) κ cX12_kinds 10 "EveryoneWinsModel" (some FieldType.int)) (e : κ.2.2.2.2.2.2.2.2.2 = (some (.int v), σ')) {k72 : Int32 → Int32 → M2 → Option (Int32 × M2)} (hk72 : ∀ (x8' : Int32) (x9' : Int32) (σ : M2), k72 x8' x9' σ = some (v, σ') → J (ωM α) κ 9 10 72 [(0, .ref (wad (ωM α) 0)), (1, .int x1), (2, .int x2), (3, .int x3), (5, .int x5), (6, .int x6), (7, .int x7), (8, .int x8'), (9, .int x9')] [] σ) {σ : M2} (h : F12_kinds_153 fu k72 x1 x2 x3 x5 x6 x7 x8 x9 y0 y1 σ = some (v, σ')) : J (ωM α) κ 9 10 153 [(0, .ref (wad (ωM α) 0)), (1, .int x1), (2, .int x2), (3, .int x3), (5, .int x5), (6, .int x6), (7, .int x7), (8, .int x8), (9, .int x9)] [.int y0, .int y1, .ref (wad (ωM α) 4)] σ := by
  unfold F12_kinds_153 at h
  obtain ⟨g1, h⟩ := gd_some h
  refine j_iastore (N := 12) C (rfl) (inb_in g1) dX12_kinds_153 ?_
  refine j_iload C 7 dX12_kinds_154 rfl ?_
  refine j_aload_n C 0 dX12_kinds_156 rfl ?_
  refine j_iload_n C 1 dX12_kinds_157 rfl ?_
  obtain ⟨r2, s3, hc4, h⟩ := bnd_some h
  refine k_V (v := some (.int r2)) C vb_X12_unlike (ci := 11) (T := TX12) (N := 45) rfl (by decide) (c12_unlike _ hc4) rfl (by decide) wd_1400 (rfl) rfl dX12_kinds_158 ?_
  show J (ωM α) κ _ _ 161 _ [.int r2, .int x8] s3
  refine j_iconst (v := -1) C dX12_kinds_161 (by decide) ?_
  refine j_icmp_ne (tgt := 172) C dX12_kinds_162 (by decide) (fun c5 => ?_) (fun c5 => ?_)
  · replace h := ie c5 h
    refine j_iconst (v := 0) C dX12_kinds_172 (by decide) ?_
    exact j_sub [0, 1, 2, 3, 4, 5, 6, 8] rfl (b12_kinds_173 C e hk72 h)
  · replace h := it c5 h
    refine j_iconst (v := 1) C dX12_kinds_165 (by decide) ?_
    refine j_iload C 8 dX12_kinds_166 rfl ?_
    refine j_ishl C dX12_kinds_168 ?_
    refine j_goto (tgt := 173) C dX12_kinds_169 (by decide) ?_
    exact j_sub [0, 1, 2, 3, 4, 5, 6, 8] rfl (b12_kinds_173 C e hk72 h)
set_option maxRecDepth 10000 in
theorem b12_kinds_131 {α : WA} {κ : KT} {fu : Nat} {v : Int32} {σ' : M2} {x1 : Int32} {x2 : Int32} {x3 : Int32} {x5 : Int32} {x6 : Int32} {x7 : Int32} {x8 : Int32} {x9 : Int32} {y0 : Int32} {y1 : Int32} (C : Cx (ωM α) κ cX12_kinds 10 "EveryoneWinsModel" (some FieldType.int)) (e : κ.2.2.2.2.2.2.2.2.2 = (some (.int v), σ')) {k72 : Int32 → Int32 → M2 → Option (Int32 × M2)} (hk72 : ∀ (x8' : Int32) (x9' : Int32) (σ : M2), k72 x8' x9' σ = some (v, σ') → J (ωM α) κ 9 10 72 [(0, .ref (wad (ωM α) 0)), (1, .int x1), (2, .int x2), (3, .int x3), (5, .int x5), (6, .int x6), (7, .int x7), (8, .int x8'), (9, .int x9')] [] σ) {σ : M2} (h : F12_kinds_131 fu k72 x1 x2 x3 x5 x6 x7 x8 x9 y0 y1 σ = some (v, σ')) : J (ωM α) κ 9 10 131 [(0, .ref (wad (ωM α) 0)), (1, .int x1), (2, .int x2), (3, .int x3), (5, .int x5), (6, .int x6), (7, .int x7), (8, .int x8), (9, .int x9)] [.int y0, .int y1, .ref (wad (ωM α) 3)] σ := by
  unfold F12_kinds_131 at h
  obtain ⟨g1, h⟩ := gd_some h
  refine j_iastore (N := 6) C (rfl) (inb_in g1) dX12_kinds_131 ?_
  refine j_aload_n C 0 dX12_kinds_132 rfl ?_
  refine j_getr (o := 0) (j := 5) C inT12 (ci := 11) rfl (by decide) (rfl) rfl rfl wd_1104 dX12_kinds_133 (o' := 4) rfl ?_
  refine j_iconst (v := 2) C dX12_kinds_136 (by decide) ?_
  refine j_iload_n C 2 dX12_kinds_137 rfl ?_
  refine j_imul C dX12_kinds_138 ?_
  refine j_iconst (v := 1) C dX12_kinds_139 (by decide) ?_
  refine j_iadd C dX12_kinds_140 ?_
  refine j_iload_n C 3 dX12_kinds_141 rfl ?_
  refine j_iconst (v := 2) C dX12_kinds_142 (by decide) ?_
  refine j_icmp_ne (tgt := 151) C dX12_kinds_143 (by decide) (fun c2 => ?_) (fun c2 => ?_)
  · replace h := ie c2 h
    refine j_iload C 6 dX12_kinds_151 rfl ?_
    exact (b12_kinds_153 C e hk72 h)
  · replace h := it c2 h
    refine j_iload C 8 dX12_kinds_146 rfl ?_
    refine j_goto (tgt := 153) C dX12_kinds_148 (by decide) ?_
    exact (b12_kinds_153 C e hk72 h)
set_option maxRecDepth 10000 in
theorem b12_kinds_113 {α : WA} {κ : KT} {fu : Nat} {v : Int32} {σ' : M2} {x1 : Int32} {x2 : Int32} {x3 : Int32} {x5 : Int32} {x6 : Int32} {x7 : Int32} {x8 : Int32} {x9 : Int32} {y0 : Int32} {y1 : Int32} (C : Cx (ωM α) κ cX12_kinds 10 "EveryoneWinsModel" (some FieldType.int)) (e : κ.2.2.2.2.2.2.2.2.2 = (some (.int v), σ')) {k72 : Int32 → Int32 → M2 → Option (Int32 × M2)} (hk72 : ∀ (x8' : Int32) (x9' : Int32) (σ : M2), k72 x8' x9' σ = some (v, σ') → J (ωM α) κ 9 10 72 [(0, .ref (wad (ωM α) 0)), (1, .int x1), (2, .int x2), (3, .int x3), (5, .int x5), (6, .int x6), (7, .int x7), (8, .int x8'), (9, .int x9')] [] σ) {σ : M2} (h : F12_kinds_113 fu k72 x1 x2 x3 x5 x6 x7 x8 x9 y0 y1 σ = some (v, σ')) : J (ωM α) κ 9 10 113 [(0, .ref (wad (ωM α) 0)), (1, .int x1), (2, .int x2), (3, .int x3), (5, .int x5), (6, .int x6), (7, .int x7), (8, .int x8), (9, .int x9)] [.int y0, .int y1, .ref (wad (ωM α) 2)] σ := by
  unfold F12_kinds_113 at h
  obtain ⟨g1, h⟩ := gd_some h
  refine j_iastore (N := 6) C (rfl) (inb_in g1) dX12_kinds_113 ?_
  refine j_aload_n C 0 dX12_kinds_114 rfl ?_
  refine j_getr (o := 0) (j := 4) C inT12 (ci := 11) rfl (by decide) (rfl) rfl rfl wd_1103 dX12_kinds_115 (o' := 3) rfl ?_
  refine j_iload_n C 2 dX12_kinds_118 rfl ?_
  refine j_iload_n C 3 dX12_kinds_119 rfl ?_
  refine j_iconst (v := 1) C dX12_kinds_120 (by decide) ?_
  refine j_icmp_ne (tgt := 129) C dX12_kinds_121 (by decide) (fun c2 => ?_) (fun c2 => ?_)
  · replace h := ie c2 h
    refine j_iload C 5 dX12_kinds_129 rfl ?_
    exact (b12_kinds_131 C e hk72 h)
  · replace h := it c2 h
    refine j_iload C 8 dX12_kinds_124 rfl ?_
    refine j_goto (tgt := 131) C dX12_kinds_126 (by decide) ?_
    exact (b12_kinds_131 C e hk72 h)
set_option maxRecDepth 10000 in
theorem b12_kinds_94 {α : WA} {κ : KT} {fu : Nat} {v : Int32} {σ' : M2} {x1 : Int32} {x2 : Int32} {x3 : Int32} {x5 : Int32} {x6 : Int32} {x7 : Int32} {x8 : Int32} {x9 : Int32} {y0 : Int32} {y1 : Int32} (C : Cx (ωM α) κ cX12_kinds 10 "EveryoneWinsModel" (some FieldType.int)) (e : κ.2.2.2.2.2.2.2.2.2 = (some (.int v), σ')) {k72 : Int32 → Int32 → M2 → Option (Int32 × M2)} (hk72 : ∀ (x8' : Int32) (x9' : Int32) (σ : M2), k72 x8' x9' σ = some (v, σ') → J (ωM α) κ 9 10 72 [(0, .ref (wad (ωM α) 0)), (1, .int x1), (2, .int x2), (3, .int x3), (5, .int x5), (6, .int x6), (7, .int x7), (8, .int x8'), (9, .int x9')] [] σ) {σ : M2} (h : F12_kinds_94 fu k72 x1 x2 x3 x5 x6 x7 x8 x9 y0 y1 σ = some (v, σ')) : J (ωM α) κ 9 10 94 [(0, .ref (wad (ωM α) 0)), (1, .int x1), (2, .int x2), (3, .int x3), (5, .int x5), (6, .int x6), (7, .int x7), (8, .int x8), (9, .int x9)] [.int y0, .int y1] σ := by
  unfold F12_kinds_94 at h
  refine j_icmp_ge (tgt := 182) C dX12_kinds_94 (by decide) (fun c1 => ?_) (fun c1 => ?_)
  · replace h := it c1 h
    refine j_aload_n C 0 dX12_kinds_182 rfl ?_
    refine j_getr (o := 0) (j := 3) C inT12 (ci := 11) rfl (by decide) (rfl) rfl rfl wd_1102 dX12_kinds_183 (o' := 2) rfl ?_
    refine j_iload_n C 2 dX12_kinds_186 rfl ?_
    refine j_iload C 4 dX12_kinds_187 rfl ?_
    obtain ⟨g2, h⟩ := gd_some h
    refine j_iastore (N := 6) C (rfl) (inb_in g2) dX12_kinds_189 ?_
    refine j_aload_n C 0 dX12_kinds_190 rfl ?_
    refine j_getr (o := 0) (j := 4) C inT12 (ci := 11) rfl (by decide) (rfl) rfl rfl wd_1103 dX12_kinds_191 (o' := 3) rfl ?_
    refine j_iload_n C 2 dX12_kinds_194 rfl ?_
    refine j_iload C 5 dX12_kinds_195 rfl ?_
    refine j_iastore (N := 6) C (rfl) (inb_in g2) dX12_kinds_197 ?_
    refine j_aload_n C 0 dX12_kinds_198 rfl ?_
    refine j_getr (o := 0) (j := 5) C inT12 (ci := 11) rfl (by decide) (rfl) rfl rfl wd_1104 dX12_kinds_199 (o' := 4) rfl ?_
    refine j_iconst (v := 2) C dX12_kinds_202 (by decide) ?_
    refine j_iload_n C 2 dX12_kinds_203 rfl ?_
    refine j_imul C dX12_kinds_204 ?_
    refine j_iconst (v := 1) C dX12_kinds_205 (by decide) ?_
    refine j_iadd C dX12_kinds_206 ?_
    refine j_iload C 6 dX12_kinds_207 rfl ?_
    obtain ⟨g3, h⟩ := gd_some h
    refine j_iastore (N := 12) C (rfl) (inb_in g3) dX12_kinds_209 ?_
    refine j_iload C 7 dX12_kinds_210 rfl ?_
    obtain ⟨hv, hs⟩ := s2_inj h
    subst hv
    subst hs
    exact j_iret C e dX12_kinds_212
  · replace h := ie c1 h
    refine j_aload_n C 0 dX12_kinds_97 rfl ?_
    refine j_getr (o := 0) (j := 3) C inT12 (ci := 11) rfl (by decide) (rfl) rfl rfl wd_1102 dX12_kinds_98 (o' := 2) rfl ?_
    refine j_iload_n C 2 dX12_kinds_101 rfl ?_
    refine j_iload_n C 3 dX12_kinds_102 rfl ?_
    refine j_if_ne (tgt := 111) C dX12_kinds_103 (by decide) (fun c4 => ?_) (fun c4 => ?_)
    · replace h := ie c4 h
      refine j_iload C 4 dX12_kinds_111 rfl ?_
      exact (b12_kinds_113 C e hk72 h)
    · replace h := it c4 h
      refine j_iload C 8 dX12_kinds_106 rfl ?_
      refine j_goto (tgt := 113) C dX12_kinds_108 (by decide) ?_
      exact (b12_kinds_113 C e hk72 h)
set_option maxRecDepth 10000 in
theorem b12_kinds_72 {α : WA} {κ : KT} {fu : Nat} {v : Int32} {σ' : M2} {x1 : Int32} {x2 : Int32} {x3 : Int32} {x5 : Int32} {x6 : Int32} {x7 : Int32} {x8 : Int32} {x9 : Int32} (C : Cx (ωM α) κ cX12_kinds 10 "EveryoneWinsModel" (some FieldType.int)) (e : κ.2.2.2.2.2.2.2.2.2 = (some (.int v), σ'))  {σ : M2} (h : F12_kinds_72 fu x1 x2 x3 x5 x6 x7 x8 x9 σ = some (v, σ')) : J (ωM α) κ 9 10 72 [(0, .ref (wad (ωM α) 0)), (1, .int x1), (2, .int x2), (3, .int x3), (5, .int x5), (6, .int x6), (7, .int x7), (8, .int x8), (9, .int x9)] [] σ := by
  unfold F12_kinds_72 at h
  refine wl2_ind (fun x8 x9 σ => J (ωM α) κ 9 10 72 [(0, .ref (wad (ωM α) 0)), (1, .int x1), (2, .int x2), (3, .int x3), (5, .int x5), (6, .int x6), (7, .int x7), (8, .int x8), (9, .int x9)] [] σ) ?_ fu x8 x9 σ h
  intro k72 hk72 x8 x9 σ h
  try dsimp only at h
  show J (ωM α) κ 9 10 72 [(0, .ref (wad (ωM α) 0)), (1, .int x1), (2, .int x2), (3, .int x3), (5, .int x5), (6, .int x6), (7, .int x7), (8, .int x8), (9, .int x9)] [] σ
  refine j_iload C 8 dX12_kinds_72 rfl ?_
  refine j_iload_n C 3 dX12_kinds_74 rfl ?_
  refine j_if_ne (tgt := 83) C dX12_kinds_75 (by decide) (fun c1 => ?_) (fun c1 => ?_)
  · replace h := ie c1 h
    refine j_iload_n C 3 dX12_kinds_83 rfl ?_
    refine j_iconst (v := 1) C dX12_kinds_84 (by decide) ?_
    refine j_icmp_ne (tgt := 93) C dX12_kinds_85 (by decide) (fun c2 => ?_) (fun c2 => ?_)
    · replace h := ie c2 h
      refine j_iconst (v := 4) C dX12_kinds_93 (by decide) ?_
      exact (b12_kinds_94 C e hk72 h)
    · replace h := it c2 h
      refine j_bipush (v := 10) C dX12_kinds_88 (by decide) ?_
      refine j_goto (tgt := 94) C dX12_kinds_90 (by decide) ?_
      exact (b12_kinds_94 C e hk72 h)
  · replace h := it c1 h
    refine j_bipush (v := 6) C dX12_kinds_78 (by decide) ?_
    refine j_goto (tgt := 94) C dX12_kinds_80 (by decide) ?_
    exact (b12_kinds_94 C e hk72 h)
set_option maxRecDepth 10000 in
theorem c12_kinds (l : Launch) {α : WA} {fu : Nat} {a1 : Int32} {a2 : Int32} {a3 : Int32} {σ σ' : M2} {v : Int32}  (h : F12_kinds fu a1 a2 a3 σ = some (v, σ')) : Ct l (ωM α) yX12_kinds cX12_kinds 10 (some FieldType.int) 9 [.ref (wad (ωM α) 0), .int a1, .int a2, .int a3] σ (some (.int v)) σ' := by
  unfold F12_kinds at h
  refine Ct.of (own := "EveryoneWinsModel") (L := [(0, .ref (wad (ωM α) 0)), (1, .int a1), (2, .int a2), (3, .int a3)]) (by decide +kernel) rfl rfl rfl (fun κ hl e C => ?_)
  show J (ωM α) κ 9 10 0 [(0, .ref (wad (ωM α) 0)), (1, .int a1), (2, .int a2), (3, .int a3)] [] σ
  refine j_aload_n C 0 dX12_kinds_0 rfl ?_
  refine j_iload_n C 1 dX12_kinds_1 rfl ?_
  obtain ⟨r1, s2, hc3, h⟩ := bnd_some h
  refine k_V (v := some (.int r1)) C vb_X12_sheetWrong (ci := 11) (T := TX12) (N := 45) rfl (by decide) (c12_sheetWrong _ hc3) rfl (by decide) wd_1396 (rfl) rfl dX12_kinds_2 ?_
  show J (ωM α) κ _ _ 5 _ [.int r1] s2
  refine j_istore (L' := [(4, .int r1), (0, .ref (wad (ωM α) 0)), (1, .int a1), (2, .int a2), (3, .int a3)]) C dX12_kinds_5 rfl rfl ?_
  refine j_iload C 0 dX12_kinds_7 rfl ?_
  refine j_if_eq (tgt := 15) C dX12_kinds_9 (by decide) (fun c4 => ?_) (fun c4 => ?_)
  · replace h := it c4 h
    refine j_aload_n C 1 dX12_kinds_15 rfl ?_
    refine j_iload_n C 3 dX12_kinds_16 rfl ?_
    obtain ⟨r5, s6, hc7, h⟩ := bnd_some h
    refine k_V (v := some (.int r5)) C vb_X12_isRace (ci := 11) (T := TX12) (N := 45) rfl (by decide) (c12_isRace _ hc7) rfl (by decide) wd_1271 (rfl) rfl dX12_kinds_17 ?_
    show J (ωM α) κ _ _ 20 _ [.int r5] s6
    refine j_if_ne (tgt := 26) C dX12_kinds_20 (by decide) (fun c8 => ?_) (fun c8 => ?_)
    · replace h := ie c8 h
      refine j_iload_n C 4 dX12_kinds_26 rfl ?_
      refine j_iconst (v := 0) C dX12_kinds_27 (by decide) ?_
      refine j_iconst (v := 2) C dX12_kinds_28 (by decide) ?_
      obtain ⟨r9, s10, hc11, h⟩ := bnd_some h
      refine k_S (v := some (.int r9)) C sb_X12_in (c12_in _ hc11) rfl (by decide) wd_1060 rfl dX12_kinds_29 ?_
      show J (ωM α) κ _ _ 32 _ [.int r9] s10
      refine j_if_ne (tgt := 38) C dX12_kinds_32 (by decide) (fun c12 => ?_) (fun c12 => ?_)
      · replace h := ie c12 h
        refine j_aload_n C 1 dX12_kinds_38 rfl ?_
        refine j_getr (o := 0) (j := 3) C inT12 (ci := 11) rfl (by decide) (rfl) rfl rfl wd_1102 dX12_kinds_39 (o' := 2) rfl ?_
        refine j_iload_n C 3 dX12_kinds_42 rfl ?_
        obtain ⟨g13, h⟩ := gd_some h
        refine j_iaload (N := 6) C (rfl) (inb_in g13) dX12_kinds_43 ?_
        refine j_istore (L' := [(5, .int (s10 2 a2.toNatClampNeg)), (4, .int r1), (0, .ref (wad (ωM α) 0)), (1, .int a1), (2, .int a2), (3, .int a3)]) C dX12_kinds_44 rfl rfl ?_
        refine j_aload_n C 2 dX12_kinds_46 rfl ?_
        refine j_getr (o := 0) (j := 4) C inT12 (ci := 11) rfl (by decide) (rfl) rfl rfl wd_1103 dX12_kinds_47 (o' := 3) rfl ?_
        refine j_iload_n C 4 dX12_kinds_50 rfl ?_
        refine j_iaload (N := 6) C (rfl) (inb_in g13) dX12_kinds_51 ?_
        refine j_istore (L' := [(6, .int (s10 3 a2.toNatClampNeg)), (5, .int (s10 2 a2.toNatClampNeg)), (4, .int r1), (0, .ref (wad (ωM α) 0)), (1, .int a1), (2, .int a2), (3, .int a3)]) C dX12_kinds_52 rfl rfl ?_
        refine j_aload_n C 3 dX12_kinds_54 rfl ?_
        refine j_getr (o := 0) (j := 5) C inT12 (ci := 11) rfl (by decide) (rfl) rfl rfl wd_1104 dX12_kinds_55 (o' := 4) rfl ?_
        refine j_iconst (v := 2) C dX12_kinds_58 (by decide) ?_
        refine j_iload_n C 5 dX12_kinds_59 rfl ?_
        refine j_imul C dX12_kinds_60 ?_
        refine j_iconst (v := 1) C dX12_kinds_61 (by decide) ?_
        refine j_iadd C dX12_kinds_62 ?_
        obtain ⟨g14, h⟩ := gd_some h
        refine j_iaload (N := 12) C (rfl) (inb_in g14) dX12_kinds_63 ?_
        refine j_istore (L' := [(7, .int (s10 4 (((2 : Int32) * a2) + (1 : Int32)).toNatClampNeg)), (6, .int (s10 3 a2.toNatClampNeg)), (5, .int (s10 2 a2.toNatClampNeg)), (4, .int r1), (0, .ref (wad (ωM α) 0)), (1, .int a1), (2, .int a2), (3, .int a3)]) C dX12_kinds_64 rfl rfl ?_
        refine j_iconst (v := 0) C dX12_kinds_66 (by decide) ?_
        refine j_istore (L' := [(8, .int (0 : Int32)), (7, .int (s10 4 (((2 : Int32) * a2) + (1 : Int32)).toNatClampNeg)), (6, .int (s10 3 a2.toNatClampNeg)), (5, .int (s10 2 a2.toNatClampNeg)), (4, .int r1), (0, .ref (wad (ωM α) 0)), (1, .int a1), (2, .int a2), (3, .int a3)]) C dX12_kinds_67 rfl rfl ?_
        refine j_iconst (v := 0) C dX12_kinds_69 (by decide) ?_
        refine j_istore (L' := [(9, .int (0 : Int32)), (8, .int (0 : Int32)), (7, .int (s10 4 (((2 : Int32) * a2) + (1 : Int32)).toNatClampNeg)), (6, .int (s10 3 a2.toNatClampNeg)), (5, .int (s10 2 a2.toNatClampNeg)), (4, .int r1), (0, .ref (wad (ωM α) 0)), (1, .int a1), (2, .int a2), (3, .int a3)]) C dX12_kinds_70 rfl rfl ?_
        exact j_sub [6, 7, 8, 9, 4, 3, 2, 1, 0] rfl (b12_kinds_72 C e h)
      · replace h := it c12 h
        refine j_bipush (v := -7) C dX12_kinds_35 (by decide) ?_
        obtain ⟨hv, hs⟩ := s2_inj h
        subst hv
        subst hs
        exact j_iret C e dX12_kinds_37
    · replace h := it c8 h
      refine j_bipush (v := -6) C dX12_kinds_23 (by decide) ?_
      obtain ⟨hv, hs⟩ := s2_inj h
      subst hv
      subst hs
      exact j_iret C e dX12_kinds_25
  · replace h := ie c4 h
    refine j_iload C 0 dX12_kinds_12 rfl ?_
    obtain ⟨hv, hs⟩ := s2_inj h
    subst hv
    subst hs
    exact j_iret C e dX12_kinds_14
set_option maxRecDepth 10000 in
theorem b12_quick_140 {α : WA} {κ : KT} {fu : Nat} {v : Int32} {σ' : M2} {x1 : Int32} {x3 : Int32} {x5 : Int32} {x6 : Int32} {x7 : Int32} {x9 : Int32} {y0 : Int32} (C : Cx (ωM α) κ cX12_quick 11 "EveryoneWinsModel" (some FieldType.int)) (e : κ.2.2.2.2.2.2.2.2.2 = (some (.int v), σ')) {k75 : Int32 → Int32 → Int32 → M2 → Option (Int32 × M2)} (hk75 : ∀ (x7' : Int32) (x8' : Int32) (x9' : Int32) (σ : M2), k75 x7' x8' x9' σ = some (v, σ') → J (ωM α) κ 9 11 75 [(0, .ref (wad (ωM α) 0)), (1, .int x1), (3, .int x3), (5, .int x5), (6, .int x6), (7, .int x7'), (8, .int x8'), (9, .int x9')] [] σ) {σ : M2} (h : F12_quick_140 fu k75 x1 x3 x5 x6 x7 x9 y0 σ = some (v, σ')) : J (ωM α) κ 9 11 140 [(0, .ref (wad (ωM α) 0)), (1, .int x1), (3, .int x3), (5, .int x5), (6, .int x6), (7, .int x7), (9, .int x9)] [.int y0] σ := by
  unfold F12_quick_140 at h
  refine j_istore (L' := [(8, .int y0), (0, .ref (wad (ωM α) 0)), (1, .int x1), (3, .int x3), (5, .int x5), (6, .int x6), (7, .int x7), (9, .int x9)]) C dX12_quick_140 rfl rfl ?_
  refine j_iinc (L' := [(9, .int (x9 + 1)), (8, .int y0), (0, .ref (wad (ωM α) 0)), (1, .int x1), (3, .int x3), (5, .int x5), (6, .int x6), (7, .int x7)]) C 7 dX12_quick_142 rfl rfl rfl rfl ?_
  refine j_goto (tgt := 75) C dX12_quick_145 (by decide) ?_
  exact j_sub [2, 3, 4, 5, 6, 7, 1, 0] rfl (hk75 _ _ _ _ h)
set_option maxRecDepth 10000 in
theorem b12_quick_138 {α : WA} {κ : KT} {fu : Nat} {v : Int32} {σ' : M2} {x1 : Int32} {x3 : Int32} {x5 : Int32} {x6 : Int32} {x7 : Int32} {x8 : Int32} {x9 : Int32} (C : Cx (ωM α) κ cX12_quick 11 "EveryoneWinsModel" (some FieldType.int)) (e : κ.2.2.2.2.2.2.2.2.2 = (some (.int v), σ')) {k75 : Int32 → Int32 → Int32 → M2 → Option (Int32 × M2)} (hk75 : ∀ (x7' : Int32) (x8' : Int32) (x9' : Int32) (σ : M2), k75 x7' x8' x9' σ = some (v, σ') → J (ωM α) κ 9 11 75 [(0, .ref (wad (ωM α) 0)), (1, .int x1), (3, .int x3), (5, .int x5), (6, .int x6), (7, .int x7'), (8, .int x8'), (9, .int x9')] [] σ) {σ : M2} (h : F12_quick_138 fu k75 x1 x3 x5 x6 x7 x8 x9 σ = some (v, σ')) : J (ωM α) κ 9 11 138 [(0, .ref (wad (ωM α) 0)), (1, .int x1), (3, .int x3), (5, .int x5), (6, .int x6), (7, .int x7), (8, .int x8), (9, .int x9)] [] σ := by
  unfold F12_quick_138 at h
  refine j_iload C 6 dX12_quick_138 rfl ?_
  exact j_sub [0, 1, 2, 3, 4, 5, 7] rfl (b12_quick_140 C e hk75 h)
set_option maxRecDepth 10000 in
theorem b12_quick_119 {α : WA} {κ : KT} {fu : Nat} {v : Int32} {σ' : M2} {x1 : Int32} {x3 : Int32} {x5 : Int32} {x6 : Int32} {x8 : Int32} {x9 : Int32} {x10 : Int32} {y0 : Int32} {y1 : Int32} (C : Cx (ωM α) κ cX12_quick 11 "EveryoneWinsModel" (some FieldType.int)) (e : κ.2.2.2.2.2.2.2.2.2 = (some (.int v), σ')) {k75 : Int32 → Int32 → Int32 → M2 → Option (Int32 × M2)} (hk75 : ∀ (x7' : Int32) (x8' : Int32) (x9' : Int32) (σ : M2), k75 x7' x8' x9' σ = some (v, σ') → J (ωM α) κ 9 11 75 [(0, .ref (wad (ωM α) 0)), (1, .int x1), (3, .int x3), (5, .int x5), (6, .int x6), (7, .int x7'), (8, .int x8'), (9, .int x9')] [] σ) {σ : M2} (h : F12_quick_119 fu k75 x1 x3 x5 x6 x8 x9 x10 y0 y1 σ = some (v, σ')) : J (ωM α) κ 9 11 119 [(0, .ref (wad (ωM α) 0)), (1, .int x1), (3, .int x3), (5, .int x5), (6, .int x6), (8, .int x8), (9, .int x9), (10, .int x10)] [.int y0, .int y1] σ := by
  unfold F12_quick_119 at h
  refine j_iadd C dX12_quick_119 ?_
  refine j_istore (L' := [(7, .int (y1 + y0)), (0, .ref (wad (ωM α) 0)), (1, .int x1), (3, .int x3), (5, .int x5), (6, .int x6), (8, .int x8), (9, .int x9), (10, .int x10)]) C dX12_quick_120 rfl rfl ?_
  refine j_iload C 8 dX12_quick_122 rfl ?_
  refine j_if_eq (tgt := 138) C dX12_quick_124 (by decide) (fun c1 => ?_) (fun c1 => ?_)
  · replace h := it c1 h
    exact j_sub [1, 2, 3, 4, 5, 0, 6, 7] rfl (b12_quick_138 C e hk75 h)
  · replace h := ie c1 h
    refine j_iload C 6 dX12_quick_127 rfl ?_
    refine j_iconst (v := -1) C dX12_quick_129 (by decide) ?_
    refine j_icmp_ne (tgt := 138) C dX12_quick_130 (by decide) (fun c2 => ?_) (fun c2 => ?_)
    · replace h := ie c2 h
      exact j_sub [1, 2, 3, 4, 5, 0, 6, 7] rfl (b12_quick_138 C e hk75 h)
    · replace h := it c2 h
      refine j_iload C 7 dX12_quick_133 rfl ?_
      refine j_goto (tgt := 140) C dX12_quick_135 (by decide) ?_
      exact j_sub [1, 2, 3, 4, 5, 0, 7] rfl (b12_quick_140 C e hk75 h)
set_option maxRecDepth 10000 in
theorem b12_quick_105 {α : WA} {κ : KT} {fu : Nat} {v : Int32} {σ' : M2} {x1 : Int32} {x3 : Int32} {x5 : Int32} {x6 : Int32} {x7 : Int32} {x8 : Int32} {x9 : Int32} {y0 : Int32} (C : Cx (ωM α) κ cX12_quick 11 "EveryoneWinsModel" (some FieldType.int)) (e : κ.2.2.2.2.2.2.2.2.2 = (some (.int v), σ')) {k75 : Int32 → Int32 → Int32 → M2 → Option (Int32 × M2)} (hk75 : ∀ (x7' : Int32) (x8' : Int32) (x9' : Int32) (σ : M2), k75 x7' x8' x9' σ = some (v, σ') → J (ωM α) κ 9 11 75 [(0, .ref (wad (ωM α) 0)), (1, .int x1), (3, .int x3), (5, .int x5), (6, .int x6), (7, .int x7'), (8, .int x8'), (9, .int x9')] [] σ) {σ : M2} (h : F12_quick_105 fu k75 x1 x3 x5 x6 x7 x8 x9 y0 σ = some (v, σ')) : J (ωM α) κ 9 11 105 [(0, .ref (wad (ωM α) 0)), (1, .int x1), (3, .int x3), (5, .int x5), (6, .int x6), (7, .int x7), (8, .int x8), (9, .int x9)] [.int y0] σ := by
  unfold F12_quick_105 at h
  refine j_istore (L' := [(10, .int y0), (0, .ref (wad (ωM α) 0)), (1, .int x1), (3, .int x3), (5, .int x5), (6, .int x6), (7, .int x7), (8, .int x8), (9, .int x9)]) C dX12_quick_105 rfl rfl ?_
  refine j_iload C 6 dX12_quick_107 rfl ?_
  refine j_iload C 0 dX12_quick_109 rfl ?_
  refine j_if_eq (tgt := 118) C dX12_quick_111 (by decide) (fun c1 => ?_) (fun c1 => ?_)
  · replace h := it c1 h
    refine j_iconst (v := 0) C dX12_quick_118 (by decide) ?_
    exact j_sub [1, 2, 3, 4, 5, 7, 8, 0] rfl (b12_quick_119 C e hk75 h)
  · replace h := ie c1 h
    refine j_iconst (v := 1) C dX12_quick_114 (by decide) ?_
    refine j_goto (tgt := 119) C dX12_quick_115 (by decide) ?_
    exact j_sub [1, 2, 3, 4, 5, 7, 8, 0] rfl (b12_quick_119 C e hk75 h)
set_option maxRecDepth 10000 in
theorem b12_quick_75 {α : WA} {κ : KT} {fu : Nat} {v : Int32} {σ' : M2} {x1 : Int32} {x3 : Int32} {x5 : Int32} {x6 : Int32} {x7 : Int32} {x8 : Int32} {x9 : Int32} (C : Cx (ωM α) κ cX12_quick 11 "EveryoneWinsModel" (some FieldType.int)) (e : κ.2.2.2.2.2.2.2.2.2 = (some (.int v), σ'))  {σ : M2} (h : F12_quick_75 fu x1 x3 x5 x6 x7 x8 x9 σ = some (v, σ')) : J (ωM α) κ 9 11 75 [(0, .ref (wad (ωM α) 0)), (1, .int x1), (3, .int x3), (5, .int x5), (6, .int x6), (7, .int x7), (8, .int x8), (9, .int x9)] [] σ := by
  unfold F12_quick_75 at h
  refine wl3_ind (fun x7 x8 x9 σ => J (ωM α) κ 9 11 75 [(0, .ref (wad (ωM α) 0)), (1, .int x1), (3, .int x3), (5, .int x5), (6, .int x6), (7, .int x7), (8, .int x8), (9, .int x9)] [] σ) ?_ fu x7 x8 x9 σ h
  intro k75 hk75 x7 x8 x9 σ h
  try dsimp only at h
  show J (ωM α) κ 9 11 75 [(0, .ref (wad (ωM α) 0)), (1, .int x1), (3, .int x3), (5, .int x5), (6, .int x6), (7, .int x7), (8, .int x8), (9, .int x9)] [] σ
  refine j_iload C 7 dX12_quick_75 rfl ?_
  refine j_bipush (v := 99) C dX12_quick_77 (by decide) ?_
  refine j_icmp_gt (tgt := 148) C dX12_quick_79 (by decide) (fun c1 => ?_) (fun c1 => ?_)
  · replace h := it c1 h
    refine j_aload_n C 0 dX12_quick_148 rfl ?_
    refine j_getr (o := 0) (j := 1) C inT12 (ci := 11) rfl (by decide) (rfl) rfl rfl wd_1100 dX12_quick_149 (o' := 1) rfl ?_
    refine j_iload C 3 dX12_quick_152 rfl ?_
    refine j_iload C 4 dX12_quick_154 rfl ?_
    obtain ⟨g2, h⟩ := gd_some h
    refine j_iastore (N := 24) C (rfl) (inb_in g2) dX12_quick_156 ?_
    refine j_iload_n C 2 dX12_quick_157 rfl ?_
    refine j_bipush (v := 10) C dX12_quick_158 (by decide) ?_
    refine j_irem C dX12_quick_160 (by decide) ?_
    refine j_if_ne (tgt := 169) C dX12_quick_161 (by decide) (fun c3 => ?_) (fun c3 => ?_)
    · replace h := ie c3 h
      refine j_iload C 6 dX12_quick_169 rfl ?_
      obtain ⟨hv, hs⟩ := s2_inj h
      subst hv
      subst hs
      exact j_iret C e dX12_quick_171
    · replace h := it c3 h
      refine j_iload C 5 dX12_quick_164 rfl ?_
      refine j_goto (tgt := 171) C dX12_quick_166 (by decide) ?_
      obtain ⟨hv, hs⟩ := s2_inj h
      subst hv
      subst hs
      exact j_iret C e dX12_quick_171
  · replace h := ie c1 h
    refine j_aload_n C 0 dX12_quick_82 rfl ?_
    refine j_getr (o := 0) (j := 1) C inT12 (ci := 11) rfl (by decide) (rfl) rfl rfl wd_1100 dX12_quick_83 (o' := 1) rfl ?_
    refine j_iload C 3 dX12_quick_86 rfl ?_
    refine j_iload C 7 dX12_quick_88 rfl ?_
    obtain ⟨g4, h⟩ := gd_some h
    refine j_iastore (N := 24) C (rfl) (inb_in g4) dX12_quick_90 ?_
    refine j_aload_n C 0 dX12_quick_91 rfl ?_
    refine j_iload_n C 1 dX12_quick_92 rfl ?_
    obtain ⟨r5, s6, hc7, h⟩ := bnd_some h
    refine k_V (v := some (.int r5)) C vb_X12_unlike (ci := 11) (T := TX12) (N := 45) rfl (by decide) (c12_unlike _ hc7) rfl (by decide) wd_1400 (rfl) rfl dX12_quick_93 ?_
    show J (ωM α) κ _ _ 96 _ [.int r5] s6
    refine j_iconst (v := -1) C dX12_quick_96 (by decide) ?_
    refine j_icmp_ne (tgt := 104) C dX12_quick_97 (by decide) (fun c8 => ?_) (fun c8 => ?_)
    · replace h := ie c8 h
      refine j_iconst (v := 0) C dX12_quick_104 (by decide) ?_
      exact (b12_quick_105 C e hk75 h)
    · replace h := it c8 h
      refine j_iconst (v := 1) C dX12_quick_100 (by decide) ?_
      refine j_goto (tgt := 105) C dX12_quick_101 (by decide) ?_
      exact (b12_quick_105 C e hk75 h)
set_option maxRecDepth 10000 in
theorem c12_quick (l : Launch) {α : WA} {fu : Nat} {a1 : Int32} {a2 : Int32} {a3 : Int32} {σ σ' : M2} {v : Int32}  (h : F12_quick fu a1 a2 a3 σ = some (v, σ')) : Ct l (ωM α) yX12_quick cX12_quick 11 (some FieldType.int) 9 [.ref (wad (ωM α) 0), .int a1, .int a2, .int a3] σ (some (.int v)) σ' := by
  unfold F12_quick at h
  refine Ct.of (own := "EveryoneWinsModel") (L := [(0, .ref (wad (ωM α) 0)), (1, .int a1), (2, .int a2), (3, .int a3)]) (by decide +kernel) rfl rfl rfl (fun κ hl e C => ?_)
  show J (ωM α) κ 9 11 0 [(0, .ref (wad (ωM α) 0)), (1, .int a1), (2, .int a2), (3, .int a3)] [] σ
  refine j_aload_n C 0 dX12_quick_0 rfl ?_
  refine j_iload_n C 1 dX12_quick_1 rfl ?_
  obtain ⟨r1, s2, hc3, h⟩ := bnd_some h
  refine k_V (v := some (.int r1)) C vb_X12_sheetWrong (ci := 11) (T := TX12) (N := 45) rfl (by decide) (c12_sheetWrong _ hc3) rfl (by decide) wd_1396 (rfl) rfl dX12_quick_2 ?_
  show J (ωM α) κ _ _ 5 _ [.int r1] s2
  refine j_istore (L' := [(4, .int r1), (0, .ref (wad (ωM α) 0)), (1, .int a1), (2, .int a2), (3, .int a3)]) C dX12_quick_5 rfl rfl ?_
  refine j_iload C 0 dX12_quick_7 rfl ?_
  refine j_if_eq (tgt := 15) C dX12_quick_9 (by decide) (fun c4 => ?_) (fun c4 => ?_)
  · replace h := it c4 h
    refine j_aload_n C 1 dX12_quick_15 rfl ?_
    refine j_iload_n C 3 dX12_quick_16 rfl ?_
    obtain ⟨r5, s6, hc7, h⟩ := bnd_some h
    refine k_V (v := some (.int r5)) C vb_X12_isChild (ci := 11) (T := TX12) (N := 45) rfl (by decide) (c12_isChild _ hc7) rfl (by decide) wd_1247 (rfl) rfl dX12_quick_17 ?_
    show J (ωM α) κ _ _ 20 _ [.int r5] s6
    refine j_if_ne (tgt := 26) C dX12_quick_20 (by decide) (fun c8 => ?_) (fun c8 => ?_)
    · replace h := ie c8 h
      refine j_iload_n C 4 dX12_quick_26 rfl ?_
      refine j_iconst (v := 0) C dX12_quick_27 (by decide) ?_
      refine j_bipush (v := 21) C dX12_quick_28 (by decide) ?_
      obtain ⟨r9, s10, hc11, h⟩ := bnd_some h
      refine k_S (v := some (.int r9)) C sb_X12_in (c12_in _ hc11) rfl (by decide) wd_1060 rfl dX12_quick_30 ?_
      show J (ωM α) κ _ _ 33 _ [.int r9] s10
      refine j_if_eq (tgt := 44) C dX12_quick_33 (by decide) (fun c12 => ?_) (fun c12 => ?_)
      · replace h := it c12 h
        refine j_bipush (v := -7) C dX12_quick_44 (by decide) ?_
        obtain ⟨hv, hs⟩ := s2_inj h
        subst hv
        subst hs
        exact j_iret C e dX12_quick_46
      · replace h := ie c12 h
        refine j_iload_n C 4 dX12_quick_36 rfl ?_
        refine j_bipush (v := 10) C dX12_quick_37 (by decide) ?_
        refine j_irem C dX12_quick_39 (by decide) ?_
        refine j_iconst (v := 1) C dX12_quick_40 (by decide) ?_
        refine j_icmp_le (tgt := 47) C dX12_quick_41 (by decide) (fun c13 => ?_) (fun c13 => ?_)
        · replace h := it c13 h
          refine j_iconst (v := 3) C dX12_quick_47 (by decide) ?_
          refine j_iload_n C 3 dX12_quick_48 rfl ?_
          refine j_imul C dX12_quick_49 ?_
          refine j_iload_n C 4 dX12_quick_50 rfl ?_
          refine j_bipush (v := 10) C dX12_quick_51 (by decide) ?_
          refine j_idiv C dX12_quick_53 (by decide) ?_
          refine j_iadd C dX12_quick_54 ?_
          refine j_istore (L' := [(5, .int (((3 : Int32) * a2) + (a3 / (10 : Int32)))), (4, .int r1), (0, .ref (wad (ωM α) 0)), (1, .int a1), (2, .int a2), (3, .int a3)]) C dX12_quick_55 rfl rfl ?_
          refine j_aload_n C 2 dX12_quick_57 rfl ?_
          refine j_getr (o := 0) (j := 1) C inT12 (ci := 11) rfl (by decide) (rfl) rfl rfl wd_1100 dX12_quick_58 (o' := 1) rfl ?_
          refine j_iload C 0 dX12_quick_61 rfl ?_
          obtain ⟨g14, h⟩ := gd_some h
          refine j_iaload (N := 24) C (rfl) (inb_in g14) dX12_quick_63 ?_
          refine j_istore (L' := [(6, .int (s10 1 (((3 : Int32) * a2) + (a3 / (10 : Int32))).toNatClampNeg)), (5, .int (((3 : Int32) * a2) + (a3 / (10 : Int32)))), (4, .int r1), (0, .ref (wad (ωM α) 0)), (1, .int a1), (2, .int a2), (3, .int a3)]) C dX12_quick_64 rfl rfl ?_
          refine j_iconst (v := 0) C dX12_quick_66 (by decide) ?_
          refine j_istore (L' := [(7, .int (0 : Int32)), (6, .int (s10 1 (((3 : Int32) * a2) + (a3 / (10 : Int32))).toNatClampNeg)), (5, .int (((3 : Int32) * a2) + (a3 / (10 : Int32)))), (4, .int r1), (0, .ref (wad (ωM α) 0)), (1, .int a1), (2, .int a2), (3, .int a3)]) C dX12_quick_67 rfl rfl ?_
          refine j_iconst (v := -1) C dX12_quick_69 (by decide) ?_
          refine j_istore (L' := [(8, .int (-1 : Int32)), (7, .int (0 : Int32)), (6, .int (s10 1 (((3 : Int32) * a2) + (a3 / (10 : Int32))).toNatClampNeg)), (5, .int (((3 : Int32) * a2) + (a3 / (10 : Int32)))), (4, .int r1), (0, .ref (wad (ωM α) 0)), (1, .int a1), (2, .int a2), (3, .int a3)]) C dX12_quick_70 rfl rfl ?_
          refine j_iconst (v := 0) C dX12_quick_72 (by decide) ?_
          refine j_istore (L' := [(9, .int (0 : Int32)), (8, .int (-1 : Int32)), (7, .int (0 : Int32)), (6, .int (s10 1 (((3 : Int32) * a2) + (a3 / (10 : Int32))).toNatClampNeg)), (5, .int (((3 : Int32) * a2) + (a3 / (10 : Int32)))), (4, .int r1), (0, .ref (wad (ωM α) 0)), (1, .int a1), (2, .int a2), (3, .int a3)]) C dX12_quick_73 rfl rfl ?_
          exact j_sub [6, 7, 9, 4, 3, 2, 1, 0] rfl (b12_quick_75 C e h)
        · replace h := ie c13 h
          refine j_bipush (v := -7) C dX12_quick_44 (by decide) ?_
          obtain ⟨hv, hs⟩ := s2_inj h
          subst hv
          subst hs
          exact j_iret C e dX12_quick_46
    · replace h := it c8 h
      refine j_bipush (v := -5) C dX12_quick_23 (by decide) ?_
      obtain ⟨hv, hs⟩ := s2_inj h
      subst hv
      subst hs
      exact j_iret C e dX12_quick_25
  · replace h := ie c4 h
    refine j_iload C 0 dX12_quick_12 rfl ?_
    obtain ⟨hv, hs⟩ := s2_inj h
    subst hv
    subst hs
    exact j_iret C e dX12_quick_14
set_option maxRecDepth 10000 in
theorem b12_laws_57 {α : WA} {κ : KT} {fu : Nat} {v : Int32} {σ' : M2} {x1 : Int32} {x3 : Int32} {x5 : Int32} {y0 : Int32} {y1 : Int32} (C : Cx (ωM α) κ cX12_laws 6 "EveryoneWinsModel" (some FieldType.int)) (e : κ.2.2.2.2.2.2.2.2.2 = (some (.int v), σ')) {k23 : Int32 → Int32 → M2 → Option (Int32 × M2)} (hk23 : ∀ (x4' : Int32) (x5' : Int32) (σ : M2), k23 x4' x5' σ = some (v, σ') → J (ωM α) κ 9 6 23 [(0, .ref (wad (ωM α) 0)), (1, .int x1), (3, .int x3), (4, .int x4'), (5, .int x5')] [] σ) {σ : M2} (h : F12_laws_57 fu k23 x1 x3 x5 y0 y1 σ = some (v, σ')) : J (ωM α) κ 9 6 57 [(0, .ref (wad (ωM α) 0)), (1, .int x1), (3, .int x3), (5, .int x5)] [.int y0, .int y1] σ := by
  unfold F12_laws_57 at h
  refine j_ior C dX12_laws_57 ?_
  refine j_istore (L' := [(4, .int (y1 ||| y0)), (0, .ref (wad (ωM α) 0)), (1, .int x1), (3, .int x3), (5, .int x5)]) C dX12_laws_58 rfl rfl ?_
  refine j_iinc (L' := [(5, .int (x5 + 1)), (4, .int (y1 ||| y0)), (0, .ref (wad (ωM α) 0)), (1, .int x1), (3, .int x3)]) C 4 dX12_laws_60 rfl rfl rfl rfl ?_
  refine j_goto (tgt := 23) C dX12_laws_63 (by decide) ?_
  exact j_sub [2, 3, 4, 1, 0] rfl (hk23 _ _ _ h)
set_option maxRecDepth 10000 in
theorem b12_laws_23 {α : WA} {κ : KT} {fu : Nat} {v : Int32} {σ' : M2} {x1 : Int32} {x3 : Int32} {x4 : Int32} {x5 : Int32} (C : Cx (ωM α) κ cX12_laws 6 "EveryoneWinsModel" (some FieldType.int)) (e : κ.2.2.2.2.2.2.2.2.2 = (some (.int v), σ'))  {σ : M2} (h : F12_laws_23 fu x1 x3 x4 x5 σ = some (v, σ')) : J (ωM α) κ 9 6 23 [(0, .ref (wad (ωM α) 0)), (1, .int x1), (3, .int x3), (4, .int x4), (5, .int x5)] [] σ := by
  unfold F12_laws_23 at h
  refine wl2_ind (fun x4 x5 σ => J (ωM α) κ 9 6 23 [(0, .ref (wad (ωM α) 0)), (1, .int x1), (3, .int x3), (4, .int x4), (5, .int x5)] [] σ) ?_ fu x4 x5 σ h
  intro k23 hk23 x4 x5 σ h
  try dsimp only at h
  show J (ωM α) κ 9 6 23 [(0, .ref (wad (ωM α) 0)), (1, .int x1), (3, .int x3), (4, .int x4), (5, .int x5)] [] σ
  refine j_iload C 4 dX12_laws_23 rfl ?_
  refine j_aload_n C 0 dX12_laws_25 rfl ?_
  refine j_geti (o := 0) (j := 10) C inT12 (ci := 11) rfl (by decide) (rfl) rfl rfl wd_1109 dX12_laws_26 ?_
  refine j_icmp_ge (tgt := 66) C dX12_laws_29 (by decide) (fun c1 => ?_) (fun c1 => ?_)
  · replace h := it c1 h
    refine j_aload_n C 0 dX12_laws_66 rfl ?_
    refine j_iload_n C 2 dX12_laws_67 rfl ?_
    refine j_puti (o := 0) (j := 11) C inT12 tyX12_ok nmX12 (ci := 11) rfl (by decide) (rfl) rfl rfl rfl (tyX12_ok 11 (by decide)) rfl rfl wd_1110 dX12_laws_68 ?_
    refine j_iload C 3 dX12_laws_71 rfl ?_
    obtain ⟨hv, hs⟩ := s2_inj h
    subst hv
    subst hs
    exact j_iret C e dX12_laws_73
  · replace h := ie c1 h
    refine j_aload_n C 0 dX12_laws_32 rfl ?_
    refine j_iload C 4 dX12_laws_33 rfl ?_
    refine j_puti (o := 0) (j := 11) C inT12 tyX12_ok nmX12 (ci := 11) rfl (by decide) (rfl) rfl rfl rfl (tyX12_ok 11 (by decide)) rfl rfl wd_1110 dX12_laws_35 ?_
    refine j_iload C 3 dX12_laws_38 rfl ?_
    refine j_aload_n C 0 dX12_laws_40 rfl ?_
    refine j_iload_n C 1 dX12_laws_41 rfl ?_
    obtain ⟨r2, s3, hc4, h⟩ := bnd_some h
    refine k_V (v := some (.int r2)) C vb_X12_unlike (ci := 11) (T := TX12) (N := 45) rfl (by decide) (c12_unlike _ hc4) rfl (by decide) wd_1400 (rfl) rfl dX12_laws_42 ?_
    show J (ωM α) κ _ _ 45 _ [.int r2, .int x4] s3
    refine j_iconst (v := -1) C dX12_laws_45 (by decide) ?_
    refine j_icmp_ne (tgt := 56) C dX12_laws_46 (by decide) (fun c5 => ?_) (fun c5 => ?_)
    · replace h := ie c5 h
      refine j_iconst (v := 0) C dX12_laws_56 (by decide) ?_
      exact j_sub [0, 1, 2, 4] rfl (b12_laws_57 C e hk23 h)
    · replace h := it c5 h
      refine j_iconst (v := 1) C dX12_laws_49 (by decide) ?_
      refine j_iload C 4 dX12_laws_50 rfl ?_
      refine j_ishl C dX12_laws_52 ?_
      refine j_goto (tgt := 57) C dX12_laws_53 (by decide) ?_
      exact j_sub [0, 1, 2, 4] rfl (b12_laws_57 C e hk23 h)
set_option maxRecDepth 10000 in
theorem c12_laws (l : Launch) {α : WA} {fu : Nat} {a1 : Int32} {σ σ' : M2} {v : Int32}  (h : F12_laws fu a1 σ = some (v, σ')) : Ct l (ωM α) yX12_laws cX12_laws 6 (some FieldType.int) 9 [.ref (wad (ωM α) 0), .int a1] σ (some (.int v)) σ' := by
  unfold F12_laws at h
  refine Ct.of (own := "EveryoneWinsModel") (L := [(0, .ref (wad (ωM α) 0)), (1, .int a1)]) (by decide +kernel) rfl rfl rfl (fun κ hl e C => ?_)
  show J (ωM α) κ 9 6 0 [(0, .ref (wad (ωM α) 0)), (1, .int a1)] [] σ
  refine j_aload_n C 0 dX12_laws_0 rfl ?_
  refine j_iload_n C 1 dX12_laws_1 rfl ?_
  obtain ⟨r1, s2, hc3, h⟩ := bnd_some h
  refine k_V (v := some (.int r1)) C vb_X12_sheetWrong (ci := 11) (T := TX12) (N := 45) rfl (by decide) (c12_sheetWrong _ hc3) rfl (by decide) wd_1396 (rfl) rfl dX12_laws_2 ?_
  show J (ωM α) κ _ _ 5 _ [.int r1] s2
  refine j_istore_n (L' := [(2, .int r1), (0, .ref (wad (ωM α) 0)), (1, .int a1)]) C dX12_laws_5 rfl rfl rfl ?_
  refine j_iload_n C 0 dX12_laws_6 rfl ?_
  refine j_if_eq (tgt := 12) C dX12_laws_7 (by decide) (fun c4 => ?_) (fun c4 => ?_)
  · replace h := it c4 h
    refine j_aload_n C 1 dX12_laws_12 rfl ?_
    refine j_geti (o := 0) (j := 11) C inT12 (ci := 11) rfl (by decide) (rfl) rfl rfl wd_1110 dX12_laws_13 ?_
    refine j_istore_n (L' := [(3, .int (s2 0 11)), (2, .int r1), (0, .ref (wad (ωM α) 0)), (1, .int a1)]) C dX12_laws_16 rfl rfl rfl ?_
    refine j_iconst (v := 0) C dX12_laws_17 (by decide) ?_
    refine j_istore (L' := [(4, .int (0 : Int32)), (3, .int (s2 0 11)), (2, .int r1), (0, .ref (wad (ωM α) 0)), (1, .int a1)]) C dX12_laws_18 rfl rfl ?_
    refine j_iconst (v := 0) C dX12_laws_20 (by decide) ?_
    refine j_istore (L' := [(5, .int (0 : Int32)), (4, .int (0 : Int32)), (3, .int (s2 0 11)), (2, .int r1), (0, .ref (wad (ωM α) 0)), (1, .int a1)]) C dX12_laws_21 rfl rfl ?_
    exact j_sub [4, 5, 2, 1, 0] rfl (b12_laws_23 C e h)
  · replace h := ie c4 h
    refine j_iload_n C 0 dX12_laws_10 rfl ?_
    obtain ⟨hv, hs⟩ := s2_inj h
    subst hv
    subst hs
    exact j_iret C e dX12_laws_11
set_option maxRecDepth 10000 in
theorem b12_film_74 {α : WA} {κ : KT} {fu : Nat} {v : Int32} {σ' : M2} {x1 : Int32} {x2 : Int32} {y0 : Int32} {y1 : Int32} (C : Cx (ωM α) κ cX12_film 3 "EveryoneWinsModel" (some FieldType.int)) (e : κ.2.2.2.2.2.2.2.2.2 = (some (.int v), σ')) {k35 : Int32 → M2 → Option (Int32 × M2)} (hk35 : ∀ (x2' : Int32) (σ : M2), k35 x2' σ = some (v, σ') → J (ωM α) κ 8 3 35 [(0, .ref (wad (ωM α) 0)), (1, .int x1), (2, .int x2')] [] σ) {σ : M2} (h : F12_film_74 fu k35 x1 x2 y0 y1 σ = some (v, σ')) : J (ωM α) κ 8 3 74 [(0, .ref (wad (ωM α) 0)), (1, .int x1), (2, .int x2)] [.int y0, .int y1, .ref (wad (ωM α) 12)] σ := by
  unfold F12_film_74 at h
  obtain ⟨g1, h⟩ := gd_some h
  refine j_iastore (N := 160) C (rfl) (inb_in g1) dX12_film_74 ?_
  refine j_iinc (L' := [(2, .int (x2 + 1)), (0, .ref (wad (ωM α) 0)), (1, .int x1)]) C 2 dX12_film_75 rfl rfl rfl rfl ?_
  refine j_goto (tgt := 35) C dX12_film_78 (by decide) ?_
  exact j_sub [1, 2, 0] rfl (hk35 _ _ h)
set_option maxRecDepth 10000 in
theorem b12_film_35 {α : WA} {κ : KT} {fu : Nat} {v : Int32} {σ' : M2} {x1 : Int32} {x2 : Int32} (C : Cx (ωM α) κ cX12_film 3 "EveryoneWinsModel" (some FieldType.int)) (e : κ.2.2.2.2.2.2.2.2.2 = (some (.int v), σ'))  {σ : M2} (h : F12_film_35 fu x1 x2 σ = some (v, σ')) : J (ωM α) κ 8 3 35 [(0, .ref (wad (ωM α) 0)), (1, .int x1), (2, .int x2)] [] σ := by
  unfold F12_film_35 at h
  refine wl1_ind (fun x2 σ => J (ωM α) κ 8 3 35 [(0, .ref (wad (ωM α) 0)), (1, .int x1), (2, .int x2)] [] σ) ?_ fu x2 σ h
  intro k35 hk35 x2 σ h
  try dsimp only at h
  show J (ωM α) κ 8 3 35 [(0, .ref (wad (ωM α) 0)), (1, .int x1), (2, .int x2)] [] σ
  refine j_iload_n C 2 dX12_film_35 rfl ?_
  refine j_bipush (v := 40) C dX12_film_36 (by decide) ?_
  refine j_icmp_ge (tgt := 81) C dX12_film_38 (by decide) (fun c1 => ?_) (fun c1 => ?_)
  · replace h := it c1 h
    refine j_aload_n C 0 dX12_film_81 rfl ?_
    refine j_geti (o := 0) (j := 36) C inT12 (ci := 11) rfl (by decide) (rfl) rfl rfl wd_1135 dX12_film_82 ?_
    obtain ⟨hv, hs⟩ := s2_inj h
    subst hv
    subst hs
    exact j_iret C e dX12_film_85
  · replace h := ie c1 h
    refine j_aload_n C 0 dX12_film_41 rfl ?_
    refine j_getr (o := 0) (j := 17) C inT12 (ci := 11) rfl (by decide) (rfl) rfl rfl wd_1116 dX12_film_42 (o' := 12) rfl ?_
    refine j_bipush (v := 40) C dX12_film_45 (by decide) ?_
    refine j_iload_n C 1 dX12_film_47 rfl ?_
    refine j_imul C dX12_film_48 ?_
    refine j_iload_n C 2 dX12_film_49 rfl ?_
    refine j_iadd C dX12_film_50 ?_
    refine j_iload_n C 2 dX12_film_51 rfl ?_
    refine j_aload_n C 0 dX12_film_52 rfl ?_
    refine j_geti (o := 0) (j := 2) C inT12 (ci := 11) rfl (by decide) (rfl) rfl rfl wd_1101 dX12_film_53 ?_
    refine j_icmp_ge (tgt := 73) C dX12_film_56 (by decide) (fun c2 => ?_) (fun c2 => ?_)
    · replace h := it c2 h
      refine j_iconst (v := 0) C dX12_film_73 (by decide) ?_
      exact (b12_film_74 C e hk35 h)
    · replace h := ie c2 h
      refine j_aload_n C 0 dX12_film_59 rfl ?_
      refine j_getr (o := 0) (j := 37) C inT12 (ci := 11) rfl (by decide) (rfl) rfl rfl wd_1136 dX12_film_60 (o' := 21) rfl ?_
      refine j_iload_n C 2 dX12_film_63 rfl ?_
      refine j_iconst (v := 0) C dX12_film_64 (by decide) ?_
      refine j_iconst (v := 5) C dX12_film_65 (by decide) ?_
      obtain ⟨r3, s4, hc5, h⟩ := bnd_some h
      refine k_S (v := some (.int r3)) C sb_X12_within (c12_within _ hc5) rfl (by decide) wd_1279 rfl dX12_film_66 ?_
      show J (ωM α) κ _ _ 69 _ [.int r3, .ref (wad (ωM α) 21), .int (((40 : Int32) * x1) + x2), .ref (wad (ωM α) 12)] s4
      obtain ⟨g6, h⟩ := gd_some h
      refine j_iaload (N := 6) C (rfl) (inb_in g6) dX12_film_69 ?_
      refine j_goto (tgt := 74) C dX12_film_70 (by decide) ?_
      exact (b12_film_74 C e hk35 h)
set_option maxRecDepth 10000 in
theorem c12_film (l : Launch) {α : WA} {fu : Nat} {a1 : Int32} {σ σ' : M2} {v : Int32}  (h : F12_film fu a1 σ = some (v, σ')) : Ct l (ωM α) yX12_film cX12_film 3 (some FieldType.int) 8 [.ref (wad (ωM α) 0), .int a1] σ (some (.int v)) σ' := by
  unfold F12_film at h
  refine Ct.of (own := "EveryoneWinsModel") (L := [(0, .ref (wad (ωM α) 0)), (1, .int a1)]) (by decide +kernel) rfl rfl rfl (fun κ hl e C => ?_)
  show J (ωM α) κ 8 3 0 [(0, .ref (wad (ωM α) 0)), (1, .int a1)] [] σ
  refine j_iload_n C 1 dX12_film_0 rfl ?_
  refine j_iconst (v := 0) C dX12_film_1 (by decide) ?_
  refine j_iconst (v := 3) C dX12_film_2 (by decide) ?_
  obtain ⟨r1, s2, hc3, h⟩ := bnd_some h
  refine k_S (v := some (.int r1)) C sb_X12_in (c12_in _ hc3) rfl (by decide) wd_1060 rfl dX12_film_3 ?_
  show J (ωM α) κ _ _ 6 _ [.int r1] s2
  refine j_if_ne (tgt := 12) C dX12_film_6 (by decide) (fun c4 => ?_) (fun c4 => ?_)
  · replace h := ie c4 h
    refine j_aload_n C 0 dX12_film_12 rfl ?_
    obtain ⟨r5, s6, hc7, h⟩ := bnd_some h
    refine k_V (v := none) C vb_X12_goes (ci := 11) (T := TX12) (N := 45) rfl (by decide) (c12_goes _ hc7) rfl (by decide) wd_1332 (rfl) rfl dX12_film_13 ?_
    show J (ωM α) κ _ _ 16 _ [] s6
    refine j_aload_n C 0 dX12_film_16 rfl ?_
    refine j_getr (o := 0) (j := 15) C inT12 (ci := 11) rfl (by decide) (rfl) rfl rfl wd_1114 dX12_film_17 (o' := 10) rfl ?_
    refine j_iload_n C 1 dX12_film_20 rfl ?_
    refine j_iconst (v := 1) C dX12_film_21 (by decide) ?_
    obtain ⟨g8, h⟩ := gd_some h
    refine j_iastore (N := 4) C (rfl) (inb_in g8) dX12_film_22 ?_
    refine j_aload_n C 0 dX12_film_23 rfl ?_
    refine j_getr (o := 0) (j := 16) C inT12 (ci := 11) rfl (by decide) (rfl) rfl rfl wd_1115 dX12_film_24 (o' := 11) rfl ?_
    refine j_iload_n C 1 dX12_film_27 rfl ?_
    refine j_aload_n C 0 dX12_film_28 rfl ?_
    refine j_geti (o := 0) (j := 2) C inT12 (ci := 11) rfl (by decide) (rfl) rfl rfl wd_1101 dX12_film_29 ?_
    refine j_iastore (N := 4) C (rfl) (inb_in g8) dX12_film_32 ?_
    refine j_iconst (v := 0) C dX12_film_33 (by decide) ?_
    refine j_istore_n (L' := [(2, .int (0 : Int32)), (0, .ref (wad (ωM α) 0)), (1, .int a1)]) C dX12_film_34 rfl rfl rfl ?_
    exact j_sub [1, 2, 0] rfl (b12_film_35 C e h)
  · replace h := it c4 h
    refine j_bipush (v := -2) C dX12_film_9 (by decide) ?_
    obtain ⟨hv, hs⟩ := s2_inj h
    subst hv
    subst hs
    exact j_iret C e dX12_film_11
set_option maxRecDepth 10000 in
theorem b12_dayBy_75 {α : WA} {κ : KT} {fu : Nat} {σ' : M2} {x4 : Int32} (C : Cx (ωM α) κ cX12_dayBy 5 "EveryoneWinsModel" (none)) (e : κ.2.2.2.2.2.2.2.2.2 = (none, σ'))  {σ : M2} (h : F12_dayBy_75 fu x4 σ = some ((), σ')) : J (ωM α) κ 8 5 75 [(0, .ref (wad (ωM α) 0)), (4, .int x4)] [] σ := by
  unfold F12_dayBy_75 at h
  refine wl1_ind (fun x4 σ => J (ωM α) κ 8 5 75 [(0, .ref (wad (ωM α) 0)), (4, .int x4)] [] σ) ?_ fu x4 σ h
  intro k75 hk75 x4 σ h
  try dsimp only at h
  show J (ωM α) κ 8 5 75 [(0, .ref (wad (ωM α) 0)), (4, .int x4)] [] σ
  refine j_iload C 1 dX12_dayBy_75 rfl ?_
  refine j_aload_n C 0 dX12_dayBy_77 rfl ?_
  refine j_geti (o := 0) (j := 0) C inT12 (ci := 11) rfl (by decide) (rfl) rfl rfl wd_1099 dX12_dayBy_78 ?_
  refine j_icmp_ge (tgt := 108) C dX12_dayBy_81 (by decide) (fun c1 => ?_) (fun c1 => ?_)
  · replace h := it c1 h
    obtain ⟨-, hs⟩ := s2_inj h
    subst hs
    exact j_vret C e dX12_dayBy_108
  · replace h := ie c1 h
    refine j_aload_n C 0 dX12_dayBy_84 rfl ?_
    refine j_getr (o := 0) (j := 1) C inT12 (ci := 11) rfl (by decide) (rfl) rfl rfl wd_1100 dX12_dayBy_85 (o' := 1) rfl ?_
    refine j_iconst (v := 3) C dX12_dayBy_88 (by decide) ?_
    refine j_iload C 1 dX12_dayBy_89 rfl ?_
    refine j_imul C dX12_dayBy_91 ?_
    refine j_iconst (v := 1) C dX12_dayBy_92 (by decide) ?_
    refine j_iadd C dX12_dayBy_93 ?_
    refine j_aload_n C 0 dX12_dayBy_94 rfl ?_
    refine j_getr (o := 0) (j := 44) C inT12 (ci := 11) rfl (by decide) (rfl) rfl rfl wd_1143 dX12_dayBy_95 (o' := 23) rfl ?_
    refine j_iload C 1 dX12_dayBy_98 rfl ?_
    obtain ⟨g2, h⟩ := gd_some h
    refine j_iaload (N := 8) C (rfl) (inb_in g2) dX12_dayBy_100 ?_
    obtain ⟨g3, h⟩ := gd_some h
    refine j_iastore (N := 24) C (rfl) (inb_in g3) dX12_dayBy_101 ?_
    refine j_iinc (L' := [(4, .int (x4 + 1)), (0, .ref (wad (ωM α) 0))]) C 1 dX12_dayBy_102 rfl rfl rfl rfl ?_
    refine j_goto (tgt := 75) C dX12_dayBy_105 (by decide) ?_
    exact j_sub [1, 0] rfl (hk75 _ _ h)
set_option maxRecDepth 10000 in
theorem b12_dayBy_8 {α : WA} {κ : KT} {fu : Nat} {σ' : M2} {x2 : Int64} {x4 : Int32} (C : Cx (ωM α) κ cX12_dayBy 5 "EveryoneWinsModel" (none)) (e : κ.2.2.2.2.2.2.2.2.2 = (none, σ'))  {σ : M2} (h : F12_dayBy_8 fu x2 x4 σ = some ((), σ')) : J (ωM α) κ 8 5 8 [(0, .ref (wad (ωM α) 0)), (2, .long x2), (4, .int x4)] [] σ := by
  unfold F12_dayBy_8 at h
  refine wl2_ind (fun x2 x4 σ => J (ωM α) κ 8 5 8 [(0, .ref (wad (ωM α) 0)), (2, .long x2), (4, .int x4)] [] σ) ?_ fu x2 x4 σ h
  intro k8 hk8 x2 x4 σ h
  try dsimp only at h
  show J (ωM α) κ 8 5 8 [(0, .ref (wad (ωM α) 0)), (2, .long x2), (4, .int x4)] [] σ
  refine j_iload C 2 dX12_dayBy_8 rfl ?_
  refine j_aload_n C 0 dX12_dayBy_10 rfl ?_
  refine j_geti (o := 0) (j := 0) C inT12 (ci := 11) rfl (by decide) (rfl) rfl rfl wd_1099 dX12_dayBy_11 ?_
  refine j_icmp_ge (tgt := 68) C dX12_dayBy_14 (by decide) (fun c1 => ?_) (fun c1 => ?_)
  · replace h := it c1 h
    refine j_aload_n C 0 dX12_dayBy_68 rfl ?_
    obtain ⟨r2, s3, hc4, h⟩ := bnd_some h
    refine k_V (v := none) C vb_X12_goes (ci := 11) (T := TX12) (N := 45) rfl (by decide) (c12_goes _ hc4) rfl (by decide) wd_1332 (rfl) rfl dX12_dayBy_69 ?_
    show J (ωM α) κ _ _ 72 _ [] s3
    refine j_iconst (v := 0) C dX12_dayBy_72 (by decide) ?_
    refine j_istore (L' := [(4, .int (0 : Int32)), (0, .ref (wad (ωM α) 0)), (2, .long x2)]) C dX12_dayBy_73 rfl rfl ?_
    exact j_sub [1, 0] rfl (b12_dayBy_75 C e h)
  · replace h := ie c1 h
    refine j_lload_n C 1 dX12_dayBy_17 rfl ?_
    refine j_ldc2_w (v := 48271) C wd_1429 dX12_dayBy_18 ?_
    refine j_lmul C dX12_dayBy_21 ?_
    refine j_ldc2_w (v := 2147483647) C wd_1430 dX12_dayBy_22 ?_
    refine j_lrem C dX12_dayBy_25 (by decide) ?_
    refine j_lstore_n (L' := [(2, .long ((x2 * (48271 : Int64)) - (x2 * (48271 : Int64)) / (2147483647 : Int64) * (2147483647 : Int64))), (0, .ref (wad (ωM α) 0)), (4, .int x4)]) C dX12_dayBy_26 rfl rfl rfl ?_
    refine j_aload_n C 1 dX12_dayBy_27 rfl ?_
    refine j_getr (o := 0) (j := 44) C inT12 (ci := 11) rfl (by decide) (rfl) rfl rfl wd_1143 dX12_dayBy_28 (o' := 23) rfl ?_
    refine j_iload C 2 dX12_dayBy_31 rfl ?_
    refine j_aload_n C 1 dX12_dayBy_33 rfl ?_
    refine j_getr (o := 0) (j := 1) C inT12 (ci := 11) rfl (by decide) (rfl) rfl rfl wd_1100 dX12_dayBy_34 (o' := 1) rfl ?_
    refine j_iconst (v := 3) C dX12_dayBy_37 (by decide) ?_
    refine j_iload C 2 dX12_dayBy_38 rfl ?_
    refine j_imul C dX12_dayBy_40 ?_
    refine j_iconst (v := 1) C dX12_dayBy_41 (by decide) ?_
    refine j_iadd C dX12_dayBy_42 ?_
    obtain ⟨g5, h⟩ := gd_some h
    refine j_iaload (N := 24) C (rfl) (inb_in g5) dX12_dayBy_43 ?_
    obtain ⟨g6, h⟩ := gd_some h
    refine j_iastore (N := 8) C (rfl) (inb_in g6) dX12_dayBy_44 ?_
    refine j_aload_n C 1 dX12_dayBy_45 rfl ?_
    refine j_getr (o := 0) (j := 1) C inT12 (ci := 11) rfl (by decide) (rfl) rfl rfl wd_1100 dX12_dayBy_46 (o' := 1) rfl ?_
    refine j_iconst (v := 3) C dX12_dayBy_49 (by decide) ?_
    refine j_iload C 2 dX12_dayBy_50 rfl ?_
    refine j_imul C dX12_dayBy_52 ?_
    refine j_iconst (v := 1) C dX12_dayBy_53 (by decide) ?_
    refine j_iadd C dX12_dayBy_54 ?_
    refine j_lload_n C 0 dX12_dayBy_55 rfl ?_
    refine j_ldc2_w (v := 100) C wd_1431 dX12_dayBy_56 ?_
    refine j_lrem C dX12_dayBy_59 (by decide) ?_
    refine j_l2i C dX12_dayBy_60 ?_
    refine j_iastore (N := 24) C (rfl) (inb_in g5) dX12_dayBy_61 ?_
    refine j_iinc (L' := [(4, .int (x4 + 1)), (2, .long ((x2 * (48271 : Int64)) - (x2 * (48271 : Int64)) / (2147483647 : Int64) * (2147483647 : Int64))), (0, .ref (wad (ωM α) 0))]) C 2 dX12_dayBy_62 rfl rfl rfl rfl ?_
    refine j_goto (tgt := 8) C dX12_dayBy_65 (by decide) ?_
    exact j_sub [2, 1, 0] rfl (hk8 _ _ _ h)
set_option maxRecDepth 10000 in
theorem c12_dayBy (l : Launch) {α : WA} {fu : Nat} {a1 : Int32} {σ σ' : M2}  (h : F12_dayBy fu a1 σ = some ((), σ')) : Ct l (ωM α) yX12_dayBy cX12_dayBy 5 (none) 8 [.ref (wad (ωM α) 0), .int a1] σ (none) σ' := by
  unfold F12_dayBy at h
  refine Ct.of (own := "EveryoneWinsModel") (L := [(0, .ref (wad (ωM α) 0)), (1, .int a1)]) (by decide +kernel) rfl rfl rfl (fun κ hl e C => ?_)
  show J (ωM α) κ 8 5 0 [(0, .ref (wad (ωM α) 0)), (1, .int a1)] [] σ
  refine j_iload_n C 1 dX12_dayBy_0 rfl ?_
  refine j_i2l C dX12_dayBy_1 ?_
  refine j_lconst (v := 1) C dX12_dayBy_2 (by decide) ?_
  refine j_ladd C dX12_dayBy_3 ?_
  refine j_lstore_n (L' := [(2, .long (a1.toInt64 + (1 : Int64))), (0, .ref (wad (ωM α) 0)), (1, .int a1)]) C dX12_dayBy_4 rfl rfl rfl ?_
  refine j_iconst (v := 0) C dX12_dayBy_5 (by decide) ?_
  refine j_istore (L' := [(4, .int (0 : Int32)), (2, .long (a1.toInt64 + (1 : Int64))), (0, .ref (wad (ωM α) 0)), (1, .int a1)]) C dX12_dayBy_6 rfl rfl ?_
  exact j_sub [2, 1, 0] rfl (b12_dayBy_8 C e h)
set_option maxRecDepth 10000 in
theorem c12_drawn (l : Launch) {α : WA} {fu : Nat} {a1 : Int32} {a2 : Int32} {σ σ' : M2} {v : Int32}  (h : F12_drawn fu a1 a2 σ = some (v, σ')) : Ct l (ωM α) yX12_drawn cX12_drawn 3 (some FieldType.int) 9 [.ref (wad (ωM α) 0), .int a1, .int a2] σ (some (.int v)) σ' := by
  unfold F12_drawn at h
  refine Ct.of (own := "EveryoneWinsModel") (L := [(0, .ref (wad (ωM α) 0)), (1, .int a1), (2, .int a2)]) (by decide +kernel) rfl rfl rfl (fun κ hl e C => ?_)
  show J (ωM α) κ 9 3 0 [(0, .ref (wad (ωM α) 0)), (1, .int a1), (2, .int a2)] [] σ
  refine j_iload_n C 1 dX12_drawn_0 rfl ?_
  refine j_iconst (v := 0) C dX12_drawn_1 (by decide) ?_
  refine j_ldc_w (v := 99999) C wd_1424 dX12_drawn_2 ?_
  obtain ⟨r1, s2, hc3, h⟩ := bnd_some h
  refine k_S (v := some (.int r1)) C sb_X12_in (c12_in _ hc3) rfl (by decide) wd_1060 rfl dX12_drawn_5 ?_
  show J (ωM α) κ _ _ 8 _ [.int r1] s2
  refine j_if_eq (tgt := 20) C dX12_drawn_8 (by decide) (fun c4 => ?_) (fun c4 => ?_)
  · replace h := it c4 h
    refine j_sipush (v := -1000) C dX12_drawn_20 (by decide) ?_
    obtain ⟨hv, hs⟩ := s2_inj h
    subst hv
    subst hs
    exact j_iret C e dX12_drawn_23
  · replace h := ie c4 h
    refine j_iload_n C 2 dX12_drawn_11 rfl ?_
    refine j_iconst (v := 0) C dX12_drawn_12 (by decide) ?_
    refine j_iconst (v := 1) C dX12_drawn_13 (by decide) ?_
    obtain ⟨r5, s6, hc7, h⟩ := bnd_some h
    refine k_S (v := some (.int r5)) C sb_X12_in (c12_in _ hc7) rfl (by decide) wd_1060 rfl dX12_drawn_14 ?_
    show J (ωM α) κ _ _ 17 _ [.int r5] s6
    refine j_if_ne (tgt := 24) C dX12_drawn_17 (by decide) (fun c8 => ?_) (fun c8 => ?_)
    · replace h := ie c8 h
      refine j_aload_n C 0 dX12_drawn_24 rfl ?_
      refine j_iload_n C 1 dX12_drawn_25 rfl ?_
      obtain ⟨r9, s10, hc11, h⟩ := bnd_some h
      refine k_V (v := none) C vb_X12_dayBy (ci := 11) (T := TX12) (N := 45) rfl (by decide) (c12_dayBy _ hc11) rfl (by decide) wd_1425 (rfl) rfl dX12_drawn_26 ?_
      show J (ωM α) κ _ _ 29 _ [] s10
      refine j_iload_n C 2 dX12_drawn_29 rfl ?_
      refine j_if_ne (tgt := 40) C dX12_drawn_30 (by decide) (fun c12 => ?_) (fun c12 => ?_)
      · replace h := ie c12 h
        refine j_aload_n C 0 dX12_drawn_40 rfl ?_
        refine j_geti (o := 0) (j := 34) C inT12 (ci := 11) rfl (by decide) (rfl) rfl rfl wd_1133 dX12_drawn_41 ?_
        obtain ⟨hv, hs⟩ := s2_inj h
        subst hv
        subst hs
        exact j_iret C e dX12_drawn_44
      · replace h := it c12 h
        refine j_aload_n C 0 dX12_drawn_33 rfl ?_
        refine j_geti (o := 0) (j := 35) C inT12 (ci := 11) rfl (by decide) (rfl) rfl rfl wd_1134 dX12_drawn_34 ?_
        refine j_goto (tgt := 44) C dX12_drawn_37 (by decide) ?_
        obtain ⟨hv, hs⟩ := s2_inj h
        subst hv
        subst hs
        exact j_iret C e dX12_drawn_44
    · replace h := it c8 h
      refine j_sipush (v := -1000) C dX12_drawn_20 (by decide) ?_
      obtain ⟨hv, hs⟩ := s2_inj h
      subst hv
      subst hs
      exact j_iret C e dX12_drawn_23
set_option maxRecDepth 10000 in
theorem b12_lowest_51 {α : WA} {κ : KT} {fu : Nat} {v : Int64} {σ' : M2} {x5 : Int64} {y0 : Int64} (C : Cx (ωM α) κ cX12_lowest 11 "EveryoneWinsModel" (some FieldType.long)) (e : κ.2.2.2.2.2.2.2.2.2 = (some (.long v), σ'))  {σ : M2} (h : F12_lowest_51 fu x5 y0 σ = some (v, σ')) : J (ωM α) κ 1 11 51 [(5, .long x5)] [.long y0] σ := by
  unfold F12_lowest_51 at h
  refine j_lload C 0 dX12_lowest_51 rfl ?_
  obtain ⟨g1, h⟩ := gd_some h
  refine j_ldiv C dX12_lowest_53 (of_decide_eq_true g1) ?_
  obtain ⟨hv, hs⟩ := s2_inj h
  subst hv
  subst hs
  exact j_lret C e dX12_lowest_54
set_option maxRecDepth 10000 in
theorem b12_lowest_16 {α : WA} {κ : KT} {fu : Nat} {v : Int64} {σ' : M2} {x0 : Int64} {x2 : Int64} {x4 : Int32} {x5 : Int64} {x7 : Int64} (C : Cx (ωM α) κ cX12_lowest 11 "EveryoneWinsModel" (some FieldType.long)) (e : κ.2.2.2.2.2.2.2.2.2 = (some (.long v), σ'))  {σ : M2} (h : F12_lowest_16 fu x0 x2 x4 x5 x7 σ = some (v, σ')) : J (ωM α) κ 1 11 16 [(0, .long x0), (2, .long x2), (4, .int x4), (5, .long x5), (7, .long x7)] [] σ := by
  unfold F12_lowest_16 at h
  refine wl2_ind (fun x5 x7 σ => J (ωM α) κ 1 11 16 [(0, .long x0), (2, .long x2), (4, .int x4), (5, .long x5), (7, .long x7)] [] σ) ?_ fu x5 x7 σ h
  intro k16 hk16 x5 x7 σ h
  try dsimp only at h
  show J (ωM α) κ 1 11 16 [(0, .long x0), (2, .long x2), (4, .int x4), (5, .long x5), (7, .long x7)] [] σ
  refine j_lload C 4 dX12_lowest_16 rfl ?_
  refine j_lconst (v := 0) C dX12_lowest_18 (by decide) ?_
  refine j_lcmp C dX12_lowest_19 ?_
  refine j_if_eq (tgt := 41) C dX12_lowest_20 (by decide) (fun c1 => ?_) (fun c1 => ?_)
  · replace h := it c1 h
    refine j_iload C 2 dX12_lowest_41 rfl ?_
    refine j_if_ne (tgt := 50) C dX12_lowest_43 (by decide) (fun c2 => ?_) (fun c2 => ?_)
    · replace h := ie c2 h
      refine j_lload_n C 1 dX12_lowest_50 rfl ?_
      exact j_sub [3] rfl (b12_lowest_51 C e h)
    · replace h := it c2 h
      refine j_lload_n C 0 dX12_lowest_46 rfl ?_
      refine j_goto (tgt := 51) C dX12_lowest_47 (by decide) ?_
      exact j_sub [3] rfl (b12_lowest_51 C e h)
  · replace h := ie c1 h
    refine j_lload C 3 dX12_lowest_23 rfl ?_
    refine j_lload C 4 dX12_lowest_25 rfl ?_
    obtain ⟨g3, h⟩ := gd_some h
    refine j_lrem C dX12_lowest_27 (of_decide_eq_true g3) ?_
    refine j_lstore (L' := [(9, .long (x5 - x5 / x7 * x7)), (0, .long x0), (2, .long x2), (4, .int x4), (5, .long x5), (7, .long x7)]) C dX12_lowest_28 rfl rfl ?_
    refine j_lload C 5 dX12_lowest_30 rfl ?_
    refine j_lstore (L' := [(5, .long x7), (9, .long (x5 - x5 / x7 * x7)), (0, .long x0), (2, .long x2), (4, .int x4), (7, .long x7)]) C dX12_lowest_32 rfl rfl ?_
    refine j_lload C 1 dX12_lowest_34 rfl ?_
    refine j_lstore (L' := [(7, .long (x5 - x5 / x7 * x7)), (5, .long x7), (9, .long (x5 - x5 / x7 * x7)), (0, .long x0), (2, .long x2), (4, .int x4)]) C dX12_lowest_36 rfl rfl ?_
    refine j_goto (tgt := 16) C dX12_lowest_38 (by decide) ?_
    exact j_sub [3, 4, 5, 1, 0] rfl (hk16 _ _ _ h)
set_option maxRecDepth 10000 in
theorem c12_lowest (l : Launch) {α : WA} {fu : Nat} {a1 : Int64} {a2 : Int64} {a3 : Int32} {σ σ' : M2} {v : Int64}  (h : F12_lowest fu a1 a2 a3 σ = some (v, σ')) : Ct l (ωM α) yX12_lowest cX12_lowest 11 (some FieldType.long) 1 [.long a1, .long a2, .int a3] σ (some (.long v)) σ' := by
  unfold F12_lowest at h
  refine Ct.of (own := "EveryoneWinsModel") (L := [(0, .long a1), (2, .long a2), (4, .int a3)]) (by decide +kernel) rfl rfl rfl (fun κ hl e C => ?_)
  show J (ωM α) κ 1 11 0 [(0, .long a1), (2, .long a2), (4, .int a3)] [] σ
  refine j_lload_n C 0 dX12_lowest_0 rfl ?_
  refine j_lconst (v := 0) C dX12_lowest_1 (by decide) ?_
  refine j_lcmp C dX12_lowest_2 ?_
  refine j_if_ne (tgt := 10) C dX12_lowest_3 (by decide) (fun c1 => ?_) (fun c1 => ?_)
  · replace h := ie c1 h
    refine j_lload_n C 0 dX12_lowest_10 rfl ?_
    refine j_lstore (L' := [(5, .long a1), (0, .long a1), (2, .long a2), (4, .int a3)]) C dX12_lowest_11 rfl rfl ?_
    refine j_lload_n C 2 dX12_lowest_13 rfl ?_
    refine j_lstore (L' := [(7, .long a2), (5, .long a1), (0, .long a1), (2, .long a2), (4, .int a3)]) C dX12_lowest_14 rfl rfl ?_
    exact j_sub [2, 3, 4, 1, 0] rfl (b12_lowest_16 C e h)
  · replace h := it c1 h
    refine j_iload C 2 dX12_lowest_6 rfl ?_
    refine j_i2l C dX12_lowest_8 ?_
    obtain ⟨hv, hs⟩ := s2_inj h
    subst hv
    subst hs
    exact j_lret C e dX12_lowest_9
set_option maxRecDepth 10000 in
theorem b12_odds_80 {α : WA} {κ : KT} {fu : Nat} {v : Int64} {σ' : M2} {x1 : Int32} {x2 : Int32} {x3 : Int32} {x4 : Int32} {x7 : Int32} {y0 : Int64} {y1 : Int64} (C : Cx (ωM α) κ cX12_odds 8 "EveryoneWinsModel" (some FieldType.long)) (e : κ.2.2.2.2.2.2.2.2.2 = (some (.long v), σ')) {k51 : Int64 → Int32 → M2 → Option (Int64 × M2)} (hk51 : ∀ (x5' : Int64) (x7' : Int32) (σ : M2), k51 x5' x7' σ = some (v, σ') → J (ωM α) κ 9 8 51 [(0, .ref (wad (ωM α) 0)), (1, .int x1), (2, .int x2), (3, .int x3), (4, .int x4), (5, .long x5'), (7, .int x7')] [] σ) {σ : M2} (h : F12_odds_80 fu k51 x1 x2 x3 x4 x7 y0 y1 σ = some (v, σ')) : J (ωM α) κ 9 8 80 [(0, .ref (wad (ωM α) 0)), (1, .int x1), (2, .int x2), (3, .int x3), (4, .int x4), (7, .int x7)] [.long y0, .long y1] σ := by
  unfold F12_odds_80 at h
  refine j_ladd C dX12_odds_80 ?_
  refine j_lstore (L' := [(5, .long (y1 + y0)), (0, .ref (wad (ωM α) 0)), (1, .int x1), (2, .int x2), (3, .int x3), (4, .int x4), (7, .int x7)]) C dX12_odds_81 rfl rfl ?_
  refine j_iinc (L' := [(7, .int (x7 + 1)), (5, .long (y1 + y0)), (0, .ref (wad (ωM α) 0)), (1, .int x1), (2, .int x2), (3, .int x3), (4, .int x4)]) C 6 dX12_odds_83 rfl rfl rfl rfl ?_
  refine j_goto (tgt := 51) C dX12_odds_86 (by decide) ?_
  exact j_sub [2, 3, 4, 5, 6, 1, 0] rfl (hk51 _ _ _ h)
set_option maxRecDepth 10000 in
theorem b12_odds_51 {α : WA} {κ : KT} {fu : Nat} {v : Int64} {σ' : M2} {x1 : Int32} {x2 : Int32} {x3 : Int32} {x4 : Int32} {x5 : Int64} {x7 : Int32} (C : Cx (ωM α) κ cX12_odds 8 "EveryoneWinsModel" (some FieldType.long)) (e : κ.2.2.2.2.2.2.2.2.2 = (some (.long v), σ'))  {σ : M2} (h : F12_odds_51 fu x1 x2 x3 x4 x5 x7 σ = some (v, σ')) : J (ωM α) κ 9 8 51 [(0, .ref (wad (ωM α) 0)), (1, .int x1), (2, .int x2), (3, .int x3), (4, .int x4), (5, .long x5), (7, .int x7)] [] σ := by
  unfold F12_odds_51 at h
  refine wl2_ind (fun x5 x7 σ => J (ωM α) κ 9 8 51 [(0, .ref (wad (ωM α) 0)), (1, .int x1), (2, .int x2), (3, .int x3), (4, .int x4), (5, .long x5), (7, .int x7)] [] σ) ?_ fu x5 x7 σ h
  intro k51 hk51 x5 x7 σ h
  try dsimp only at h
  show J (ωM α) κ 9 8 51 [(0, .ref (wad (ωM α) 0)), (1, .int x1), (2, .int x2), (3, .int x3), (4, .int x4), (5, .long x5), (7, .int x7)] [] σ
  refine j_iload C 6 dX12_odds_51 rfl ?_
  refine j_iload_n C 2 dX12_odds_53 rfl ?_
  refine j_icmp_ge (tgt := 89) C dX12_odds_54 (by decide) (fun c1 => ?_) (fun c1 => ?_)
  · replace h := it c1 h
    refine j_lload C 5 dX12_odds_89 rfl ?_
    refine j_iload_n C 2 dX12_odds_91 rfl ?_
    refine j_i2l C dX12_odds_92 ?_
    refine j_iload C 4 dX12_odds_93 rfl ?_
    obtain ⟨r2, s3, hc4, h⟩ := bnd_some h
    refine k_S (v := some (.long r2)) C sb_X12_lowest (c12_lowest _ hc4) rfl (by decide) wd_1437 rfl dX12_odds_95 ?_
    show J (ωM α) κ _ _ 98 _ [.long r2] s3
    obtain ⟨hv, hs⟩ := s2_inj h
    subst hv
    subst hs
    exact j_lret C e dX12_odds_98
  · replace h := ie c1 h
    refine j_aload_n C 0 dX12_odds_57 rfl ?_
    refine j_iload_n C 1 dX12_odds_58 rfl ?_
    refine j_iload C 6 dX12_odds_59 rfl ?_
    refine j_iadd C dX12_odds_61 ?_
    obtain ⟨r5, s6, hc7, h⟩ := bnd_some h
    refine k_V (v := none) C vb_X12_dayBy (ci := 11) (T := TX12) (N := 45) rfl (by decide) (c12_dayBy _ hc7) rfl (by decide) wd_1425 (rfl) rfl dX12_odds_62 ?_
    show J (ωM α) κ _ _ 65 _ [] s6
    refine j_lload C 5 dX12_odds_65 rfl ?_
    refine j_aload_n C 0 dX12_odds_67 rfl ?_
    refine j_geti (o := 0) (j := 35) C inT12 (ci := 11) rfl (by decide) (rfl) rfl rfl wd_1134 dX12_odds_68 ?_
    refine j_iload_n C 3 dX12_odds_71 rfl ?_
    refine j_icmp_gt (tgt := 79) C dX12_odds_72 (by decide) (fun c8 => ?_) (fun c8 => ?_)
    · replace h := it c8 h
      refine j_lconst (v := 0) C dX12_odds_79 (by decide) ?_
      exact j_sub [0, 1, 2, 3, 4, 6] rfl (b12_odds_80 C e hk51 h)
    · replace h := ie c8 h
      refine j_lconst (v := 1) C dX12_odds_75 (by decide) ?_
      refine j_goto (tgt := 80) C dX12_odds_76 (by decide) ?_
      exact j_sub [0, 1, 2, 3, 4, 6] rfl (b12_odds_80 C e hk51 h)
set_option maxRecDepth 10000 in
theorem c12_odds (l : Launch) {α : WA} {fu : Nat} {a1 : Int32} {a2 : Int32} {a3 : Int32} {a4 : Int32} {σ σ' : M2} {v : Int64}  (h : F12_odds fu a1 a2 a3 a4 σ = some (v, σ')) : Ct l (ωM α) yX12_odds cX12_odds 8 (some FieldType.long) 9 [.ref (wad (ωM α) 0), .int a1, .int a2, .int a3, .int a4] σ (some (.long v)) σ' := by
  unfold F12_odds at h
  refine Ct.of (own := "EveryoneWinsModel") (L := [(0, .ref (wad (ωM α) 0)), (1, .int a1), (2, .int a2), (3, .int a3), (4, .int a4)]) (by decide +kernel) rfl rfl rfl (fun κ hl e C => ?_)
  show J (ωM α) κ 9 8 0 [(0, .ref (wad (ωM α) 0)), (1, .int a1), (2, .int a2), (3, .int a3), (4, .int a4)] [] σ
  refine j_iload_n C 1 dX12_odds_0 rfl ?_
  refine j_iconst (v := 0) C dX12_odds_1 (by decide) ?_
  refine j_ldc_w (v := 99999) C wd_1424 dX12_odds_2 ?_
  obtain ⟨r1, s2, hc3, h⟩ := bnd_some h
  refine k_S (v := some (.int r1)) C sb_X12_in (c12_in _ hc3) rfl (by decide) wd_1060 rfl dX12_odds_5 ?_
  show J (ωM α) κ _ _ 8 _ [.int r1] s2
  refine j_if_eq (tgt := 41) C dX12_odds_8 (by decide) (fun c4 => ?_) (fun c4 => ?_)
  · replace h := it c4 h
    refine j_ldc2_w (v := -4611686018427387904) C wd_1436 dX12_odds_41 ?_
    obtain ⟨hv, hs⟩ := s2_inj h
    subst hv
    subst hs
    exact j_lret C e dX12_odds_44
  · replace h := ie c4 h
    refine j_iload_n C 2 dX12_odds_11 rfl ?_
    refine j_iconst (v := 1) C dX12_odds_12 (by decide) ?_
    refine j_bipush (v := 60) C dX12_odds_13 (by decide) ?_
    obtain ⟨r5, s6, hc7, h⟩ := bnd_some h
    refine k_S (v := some (.int r5)) C sb_X12_in (c12_in _ hc7) rfl (by decide) wd_1060 rfl dX12_odds_15 ?_
    show J (ωM α) κ _ _ 18 _ [.int r5] s6
    refine j_if_eq (tgt := 41) C dX12_odds_18 (by decide) (fun c8 => ?_) (fun c8 => ?_)
    · replace h := it c8 h
      refine j_ldc2_w (v := -4611686018427387904) C wd_1436 dX12_odds_41 ?_
      obtain ⟨hv, hs⟩ := s2_inj h
      subst hv
      subst hs
      exact j_lret C e dX12_odds_44
    · replace h := ie c8 h
      refine j_iload_n C 3 dX12_odds_21 rfl ?_
      refine j_iconst (v := 0) C dX12_odds_22 (by decide) ?_
      refine j_bipush (v := 8) C dX12_odds_23 (by decide) ?_
      obtain ⟨r9, s10, hc11, h⟩ := bnd_some h
      refine k_S (v := some (.int r9)) C sb_X12_in (c12_in _ hc11) rfl (by decide) wd_1060 rfl dX12_odds_25 ?_
      show J (ωM α) κ _ _ 28 _ [.int r9] s10
      refine j_if_eq (tgt := 41) C dX12_odds_28 (by decide) (fun c12 => ?_) (fun c12 => ?_)
      · replace h := it c12 h
        refine j_ldc2_w (v := -4611686018427387904) C wd_1436 dX12_odds_41 ?_
        obtain ⟨hv, hs⟩ := s2_inj h
        subst hv
        subst hs
        exact j_lret C e dX12_odds_44
      · replace h := ie c12 h
        refine j_iload C 4 dX12_odds_31 rfl ?_
        refine j_iconst (v := 0) C dX12_odds_33 (by decide) ?_
        refine j_iconst (v := 1) C dX12_odds_34 (by decide) ?_
        obtain ⟨r13, s14, hc15, h⟩ := bnd_some h
        refine k_S (v := some (.int r13)) C sb_X12_in (c12_in _ hc15) rfl (by decide) wd_1060 rfl dX12_odds_35 ?_
        show J (ωM α) κ _ _ 38 _ [.int r13] s14
        refine j_if_ne (tgt := 45) C dX12_odds_38 (by decide) (fun c16 => ?_) (fun c16 => ?_)
        · replace h := ie c16 h
          refine j_lconst (v := 0) C dX12_odds_45 (by decide) ?_
          refine j_lstore (L' := [(5, .long (0 : Int64)), (0, .ref (wad (ωM α) 0)), (1, .int a1), (2, .int a2), (3, .int a3), (4, .int a4)]) C dX12_odds_46 rfl rfl ?_
          refine j_iconst (v := 0) C dX12_odds_48 (by decide) ?_
          refine j_istore (L' := [(7, .int (0 : Int32)), (5, .long (0 : Int64)), (0, .ref (wad (ωM α) 0)), (1, .int a1), (2, .int a2), (3, .int a3), (4, .int a4)]) C dX12_odds_49 rfl rfl ?_
          exact j_sub [2, 3, 4, 5, 6, 1, 0] rfl (b12_odds_51 C e h)
        · replace h := it c16 h
          refine j_ldc2_w (v := -4611686018427387904) C wd_1436 dX12_odds_41 ?_
          obtain ⟨hv, hs⟩ := s2_inj h
          subst hv
          subst hs
          exact j_lret C e dX12_odds_44
set_option maxRecDepth 10000 in
theorem b12_image_33 {α : WA} {κ : KT} {fu : Nat} {v : Int32} {σ' : M2} {x1 : Int32} (C : Cx (ωM α) κ cX12_image 2 "EveryoneWinsModel" (some FieldType.int)) (e : κ.2.2.2.2.2.2.2.2.2 = (some (.int v), σ'))  {σ : M2} (h : F12_image_33 fu x1 σ = some (v, σ')) : J (ωM α) κ 1 2 33 [(0, .ref (wad (ωM α) 0)), (1, .int x1)] [] σ := by
  unfold F12_image_33 at h
  refine wl1_ind (fun x1 σ => J (ωM α) κ 1 2 33 [(0, .ref (wad (ωM α) 0)), (1, .int x1)] [] σ) ?_ fu x1 σ h
  intro k33 hk33 x1 σ h
  try dsimp only at h
  show J (ωM α) κ 1 2 33 [(0, .ref (wad (ωM α) 0)), (1, .int x1)] [] σ
  refine j_iload_n C 1 dX12_image_33 rfl ?_
  refine j_bipush (v := 12) C dX12_image_34 (by decide) ?_
  refine j_icmp_ge (tgt := 60) C dX12_image_36 (by decide) (fun c1 => ?_) (fun c1 => ?_)
  · replace h := it c1 h
    refine j_aload_n C 0 dX12_image_60 rfl ?_
    refine j_getr (o := 0) (j := 14) C inT12 (ci := 11) rfl (by decide) (rfl) rfl rfl wd_1113 dX12_image_61 (o' := 9) rfl ?_
    refine j_iconst (v := 0) C dX12_image_64 (by decide) ?_
    refine j_aload_n C 0 dX12_image_65 rfl ?_
    refine j_geti (o := 0) (j := 2) C inT12 (ci := 11) rfl (by decide) (rfl) rfl rfl wd_1101 dX12_image_66 ?_
    refine j_iastore (N := 3) C (rfl) ((inb_in (by decide))) dX12_image_69 ?_
    refine j_aload_n C 0 dX12_image_70 rfl ?_
    refine j_getr (o := 0) (j := 14) C inT12 (ci := 11) rfl (by decide) (rfl) rfl rfl wd_1113 dX12_image_71 (o' := 9) rfl ?_
    refine j_iconst (v := 1) C dX12_image_74 (by decide) ?_
    refine j_aload_n C 0 dX12_image_75 rfl ?_
    refine j_geti (o := 0) (j := 0) C inT12 (ci := 11) rfl (by decide) (rfl) rfl rfl wd_1099 dX12_image_76 ?_
    refine j_iastore (N := 3) C (rfl) ((inb_in (by decide))) dX12_image_79 ?_
    refine j_aload_n C 0 dX12_image_80 rfl ?_
    refine j_getr (o := 0) (j := 14) C inT12 (ci := 11) rfl (by decide) (rfl) rfl rfl wd_1113 dX12_image_81 (o' := 9) rfl ?_
    refine j_iconst (v := 2) C dX12_image_84 (by decide) ?_
    refine j_aload_n C 0 dX12_image_85 rfl ?_
    refine j_geti (o := 0) (j := 11) C inT12 (ci := 11) rfl (by decide) (rfl) rfl rfl wd_1110 dX12_image_86 ?_
    refine j_iastore (N := 3) C (rfl) ((inb_in (by decide))) dX12_image_89 ?_
    refine j_aload_n C 0 dX12_image_90 rfl ?_
    refine j_geti (o := 0) (j := 2) C inT12 (ci := 11) rfl (by decide) (rfl) rfl rfl wd_1101 dX12_image_91 ?_
    obtain ⟨hv, hs⟩ := s2_inj h
    subst hv
    subst hs
    exact j_iret C e dX12_image_94
  · replace h := ie c1 h
    refine j_aload_n C 0 dX12_image_39 rfl ?_
    refine j_getr (o := 0) (j := 13) C inT12 (ci := 11) rfl (by decide) (rfl) rfl rfl wd_1112 dX12_image_40 (o' := 8) rfl ?_
    refine j_bipush (v := 24) C dX12_image_43 (by decide) ?_
    refine j_iload_n C 1 dX12_image_45 rfl ?_
    refine j_iadd C dX12_image_46 ?_
    refine j_aload_n C 0 dX12_image_47 rfl ?_
    refine j_getr (o := 0) (j := 5) C inT12 (ci := 11) rfl (by decide) (rfl) rfl rfl wd_1104 dX12_image_48 (o' := 4) rfl ?_
    refine j_iload_n C 1 dX12_image_51 rfl ?_
    obtain ⟨g2, h⟩ := gd_some h
    refine j_iaload (N := 12) C (rfl) (inb_in g2) dX12_image_52 ?_
    obtain ⟨g3, h⟩ := gd_some h
    refine j_iastore (N := 36) C (rfl) (inb_in g3) dX12_image_53 ?_
    refine j_iinc (L' := [(1, .int (x1 + 1)), (0, .ref (wad (ωM α) 0))]) C 1 dX12_image_54 rfl rfl rfl rfl ?_
    refine j_goto (tgt := 33) C dX12_image_57 (by decide) ?_
    exact j_sub [1, 0] rfl (hk33 _ _ h)
set_option maxRecDepth 10000 in
theorem b12_image_7 {α : WA} {κ : KT} {fu : Nat} {v : Int32} {σ' : M2} {x1 : Int32} (C : Cx (ωM α) κ cX12_image 2 "EveryoneWinsModel" (some FieldType.int)) (e : κ.2.2.2.2.2.2.2.2.2 = (some (.int v), σ'))  {σ : M2} (h : F12_image_7 fu x1 σ = some (v, σ')) : J (ωM α) κ 1 2 7 [(0, .ref (wad (ωM α) 0)), (1, .int x1)] [] σ := by
  unfold F12_image_7 at h
  refine wl1_ind (fun x1 σ => J (ωM α) κ 1 2 7 [(0, .ref (wad (ωM α) 0)), (1, .int x1)] [] σ) ?_ fu x1 σ h
  intro k7 hk7 x1 σ h
  try dsimp only at h
  show J (ωM α) κ 1 2 7 [(0, .ref (wad (ωM α) 0)), (1, .int x1)] [] σ
  refine j_iload_n C 1 dX12_image_7 rfl ?_
  refine j_bipush (v := 24) C dX12_image_8 (by decide) ?_
  refine j_icmp_ge (tgt := 31) C dX12_image_10 (by decide) (fun c1 => ?_) (fun c1 => ?_)
  · replace h := it c1 h
    refine j_iconst (v := 0) C dX12_image_31 (by decide) ?_
    refine j_istore_n (L' := [(1, .int (0 : Int32)), (0, .ref (wad (ωM α) 0))]) C dX12_image_32 rfl rfl rfl ?_
    exact j_sub [1, 0] rfl (b12_image_33 C e h)
  · replace h := ie c1 h
    refine j_aload_n C 0 dX12_image_13 rfl ?_
    refine j_getr (o := 0) (j := 13) C inT12 (ci := 11) rfl (by decide) (rfl) rfl rfl wd_1112 dX12_image_14 (o' := 8) rfl ?_
    refine j_iload_n C 1 dX12_image_17 rfl ?_
    refine j_aload_n C 0 dX12_image_18 rfl ?_
    refine j_getr (o := 0) (j := 1) C inT12 (ci := 11) rfl (by decide) (rfl) rfl rfl wd_1100 dX12_image_19 (o' := 1) rfl ?_
    refine j_iload_n C 1 dX12_image_22 rfl ?_
    obtain ⟨g2, h⟩ := gd_some h
    refine j_iaload (N := 24) C (rfl) (inb_in g2) dX12_image_23 ?_
    obtain ⟨g3, h⟩ := gd_some h
    refine j_iastore (N := 36) C (rfl) (inb_in g3) dX12_image_24 ?_
    refine j_iinc (L' := [(1, .int (x1 + 1)), (0, .ref (wad (ωM α) 0))]) C 1 dX12_image_25 rfl rfl rfl rfl ?_
    refine j_goto (tgt := 7) C dX12_image_28 (by decide) ?_
    exact j_sub [1, 0] rfl (hk7 _ _ h)
set_option maxRecDepth 10000 in
theorem c12_image (l : Launch) {α : WA} {fu : Nat}  {σ σ' : M2} {v : Int32}  (h : F12_image fu σ = some (v, σ')) : Ct l (ωM α) yX12_image cX12_image 2 (some FieldType.int) 1 [.ref (wad (ωM α) 0)] σ (some (.int v)) σ' := by
  unfold F12_image at h
  refine Ct.of (own := "EveryoneWinsModel") (L := [(0, .ref (wad (ωM α) 0))]) (by decide +kernel) rfl rfl rfl (fun κ hl e C => ?_)
  show J (ωM α) κ 1 2 0 [(0, .ref (wad (ωM α) 0))] [] σ
  refine j_aload_n C 0 dX12_image_0 rfl ?_
  refine j_iconst (v := 1) C dX12_image_1 (by decide) ?_
  refine j_puti (o := 0) (j := 12) C inT12 tyX12_ok nmX12 (ci := 11) rfl (by decide) (rfl) rfl rfl rfl (tyX12_ok 12 (by decide)) rfl rfl wd_1111 dX12_image_2 ?_
  refine j_iconst (v := 0) C dX12_image_5 (by decide) ?_
  refine j_istore_n (L' := [(1, .int (0 : Int32)), (0, .ref (wad (ωM α) 0))]) C dX12_image_6 rfl rfl rfl ?_
  exact j_sub [1, 0] rfl (b12_image_7 C e h)
set_option maxRecDepth 10000 in
theorem b12_back_38 {α : WA} {κ : KT} {fu : Nat} {v : Int32} {σ' : M2} {x1 : Int32} (C : Cx (ωM α) κ cX12_back 2 "EveryoneWinsModel" (some FieldType.int)) (e : κ.2.2.2.2.2.2.2.2.2 = (some (.int v), σ'))  {σ : M2} (h : F12_back_38 fu x1 σ = some (v, σ')) : J (ωM α) κ 1 2 38 [(0, .ref (wad (ωM α) 0)), (1, .int x1)] [] σ := by
  unfold F12_back_38 at h
  refine wl1_ind (fun x1 σ => J (ωM α) κ 1 2 38 [(0, .ref (wad (ωM α) 0)), (1, .int x1)] [] σ) ?_ fu x1 σ h
  intro k38 hk38 x1 σ h
  try dsimp only at h
  show J (ωM α) κ 1 2 38 [(0, .ref (wad (ωM α) 0)), (1, .int x1)] [] σ
  refine j_iload_n C 1 dX12_back_38 rfl ?_
  refine j_bipush (v := 12) C dX12_back_39 (by decide) ?_
  refine j_icmp_ge (tgt := 65) C dX12_back_41 (by decide) (fun c1 => ?_) (fun c1 => ?_)
  · replace h := it c1 h
    refine j_aload_n C 0 dX12_back_65 rfl ?_
    refine j_aload_n C 0 dX12_back_66 rfl ?_
    refine j_getr (o := 0) (j := 14) C inT12 (ci := 11) rfl (by decide) (rfl) rfl rfl wd_1113 dX12_back_67 (o' := 9) rfl ?_
    refine j_iconst (v := 0) C dX12_back_70 (by decide) ?_
    refine j_iaload (N := 3) C (rfl) ((inb_in (by decide))) dX12_back_71 ?_
    refine j_puti (o := 0) (j := 2) C inT12 tyX12_ok nmX12 (ci := 11) rfl (by decide) (rfl) rfl rfl rfl (tyX12_ok 2 (by decide)) rfl rfl wd_1101 dX12_back_72 ?_
    refine j_aload_n C 0 dX12_back_75 rfl ?_
    refine j_aload_n C 0 dX12_back_76 rfl ?_
    refine j_getr (o := 0) (j := 14) C inT12 (ci := 11) rfl (by decide) (rfl) rfl rfl wd_1113 dX12_back_77 (o' := 9) rfl ?_
    refine j_iconst (v := 1) C dX12_back_80 (by decide) ?_
    refine j_iaload (N := 3) C (rfl) ((inb_in (by decide))) dX12_back_81 ?_
    refine j_puti (o := 0) (j := 0) C inT12 tyX12_ok nmX12 (ci := 11) rfl (by decide) (rfl) rfl rfl rfl (tyX12_ok 0 (by decide)) rfl rfl wd_1099 dX12_back_82 ?_
    refine j_aload_n C 0 dX12_back_85 rfl ?_
    refine j_aload_n C 0 dX12_back_86 rfl ?_
    refine j_getr (o := 0) (j := 14) C inT12 (ci := 11) rfl (by decide) (rfl) rfl rfl wd_1113 dX12_back_87 (o' := 9) rfl ?_
    refine j_iconst (v := 2) C dX12_back_90 (by decide) ?_
    refine j_iaload (N := 3) C (rfl) ((inb_in (by decide))) dX12_back_91 ?_
    refine j_puti (o := 0) (j := 11) C inT12 tyX12_ok nmX12 (ci := 11) rfl (by decide) (rfl) rfl rfl rfl (tyX12_ok 11 (by decide)) rfl rfl wd_1110 dX12_back_92 ?_
    refine j_aload_n C 0 dX12_back_95 rfl ?_
    refine j_geti (o := 0) (j := 2) C inT12 (ci := 11) rfl (by decide) (rfl) rfl rfl wd_1101 dX12_back_96 ?_
    obtain ⟨hv, hs⟩ := s2_inj h
    subst hv
    subst hs
    exact j_iret C e dX12_back_99
  · replace h := ie c1 h
    refine j_aload_n C 0 dX12_back_44 rfl ?_
    refine j_getr (o := 0) (j := 5) C inT12 (ci := 11) rfl (by decide) (rfl) rfl rfl wd_1104 dX12_back_45 (o' := 4) rfl ?_
    refine j_iload_n C 1 dX12_back_48 rfl ?_
    refine j_aload_n C 0 dX12_back_49 rfl ?_
    refine j_getr (o := 0) (j := 13) C inT12 (ci := 11) rfl (by decide) (rfl) rfl rfl wd_1112 dX12_back_50 (o' := 8) rfl ?_
    refine j_bipush (v := 24) C dX12_back_53 (by decide) ?_
    refine j_iload_n C 1 dX12_back_55 rfl ?_
    refine j_iadd C dX12_back_56 ?_
    obtain ⟨g2, h⟩ := gd_some h
    refine j_iaload (N := 36) C (rfl) (inb_in g2) dX12_back_57 ?_
    obtain ⟨g3, h⟩ := gd_some h
    refine j_iastore (N := 12) C (rfl) (inb_in g3) dX12_back_58 ?_
    refine j_iinc (L' := [(1, .int (x1 + 1)), (0, .ref (wad (ωM α) 0))]) C 1 dX12_back_59 rfl rfl rfl rfl ?_
    refine j_goto (tgt := 38) C dX12_back_62 (by decide) ?_
    exact j_sub [1, 0] rfl (hk38 _ _ h)
set_option maxRecDepth 10000 in
theorem b12_back_12 {α : WA} {κ : KT} {fu : Nat} {v : Int32} {σ' : M2} {x1 : Int32} (C : Cx (ωM α) κ cX12_back 2 "EveryoneWinsModel" (some FieldType.int)) (e : κ.2.2.2.2.2.2.2.2.2 = (some (.int v), σ'))  {σ : M2} (h : F12_back_12 fu x1 σ = some (v, σ')) : J (ωM α) κ 1 2 12 [(0, .ref (wad (ωM α) 0)), (1, .int x1)] [] σ := by
  unfold F12_back_12 at h
  refine wl1_ind (fun x1 σ => J (ωM α) κ 1 2 12 [(0, .ref (wad (ωM α) 0)), (1, .int x1)] [] σ) ?_ fu x1 σ h
  intro k12 hk12 x1 σ h
  try dsimp only at h
  show J (ωM α) κ 1 2 12 [(0, .ref (wad (ωM α) 0)), (1, .int x1)] [] σ
  refine j_iload_n C 1 dX12_back_12 rfl ?_
  refine j_bipush (v := 24) C dX12_back_13 (by decide) ?_
  refine j_icmp_ge (tgt := 36) C dX12_back_15 (by decide) (fun c1 => ?_) (fun c1 => ?_)
  · replace h := it c1 h
    refine j_iconst (v := 0) C dX12_back_36 (by decide) ?_
    refine j_istore_n (L' := [(1, .int (0 : Int32)), (0, .ref (wad (ωM α) 0))]) C dX12_back_37 rfl rfl rfl ?_
    exact j_sub [1, 0] rfl (b12_back_38 C e h)
  · replace h := ie c1 h
    refine j_aload_n C 0 dX12_back_18 rfl ?_
    refine j_getr (o := 0) (j := 1) C inT12 (ci := 11) rfl (by decide) (rfl) rfl rfl wd_1100 dX12_back_19 (o' := 1) rfl ?_
    refine j_iload_n C 1 dX12_back_22 rfl ?_
    refine j_aload_n C 0 dX12_back_23 rfl ?_
    refine j_getr (o := 0) (j := 13) C inT12 (ci := 11) rfl (by decide) (rfl) rfl rfl wd_1112 dX12_back_24 (o' := 8) rfl ?_
    refine j_iload_n C 1 dX12_back_27 rfl ?_
    obtain ⟨g2, h⟩ := gd_some h
    refine j_iaload (N := 36) C (rfl) (inb_in g2) dX12_back_28 ?_
    obtain ⟨g3, h⟩ := gd_some h
    refine j_iastore (N := 24) C (rfl) (inb_in g3) dX12_back_29 ?_
    refine j_iinc (L' := [(1, .int (x1 + 1)), (0, .ref (wad (ωM α) 0))]) C 1 dX12_back_30 rfl rfl rfl rfl ?_
    refine j_goto (tgt := 12) C dX12_back_33 (by decide) ?_
    exact j_sub [1, 0] rfl (hk12 _ _ h)
set_option maxRecDepth 10000 in
theorem c12_back (l : Launch) {α : WA} {fu : Nat}  {σ σ' : M2} {v : Int32}  (h : F12_back fu σ = some (v, σ')) : Ct l (ωM α) yX12_back cX12_back 2 (some FieldType.int) 1 [.ref (wad (ωM α) 0)] σ (some (.int v)) σ' := by
  unfold F12_back at h
  refine Ct.of (own := "EveryoneWinsModel") (L := [(0, .ref (wad (ωM α) 0))]) (by decide +kernel) rfl rfl rfl (fun κ hl e C => ?_)
  show J (ωM α) κ 1 2 0 [(0, .ref (wad (ωM α) 0))] [] σ
  refine j_aload_n C 0 dX12_back_0 rfl ?_
  refine j_geti (o := 0) (j := 12) C inT12 (ci := 11) rfl (by decide) (rfl) rfl rfl wd_1111 dX12_back_1 ?_
  refine j_if_ne (tgt := 10) C dX12_back_4 (by decide) (fun c1 => ?_) (fun c1 => ?_)
  · replace h := ie c1 h
    refine j_iconst (v := 0) C dX12_back_10 (by decide) ?_
    refine j_istore_n (L' := [(1, .int (0 : Int32)), (0, .ref (wad (ωM α) 0))]) C dX12_back_11 rfl rfl rfl ?_
    exact j_sub [1, 0] rfl (b12_back_12 C e h)
  · replace h := it c1 h
    refine j_bipush (v := -3) C dX12_back_7 (by decide) ?_
    obtain ⟨hv, hs⟩ := s2_inj h
    subst hv
    subst hs
    exact j_iret C e dX12_back_9
set_option maxRecDepth 10000 in
theorem b12_sheet_70 {α : WA} {κ : KT} {fu : Nat} {v : Int32} {σ' : M2} {x1 : Int32} {x4 : Int32} (C : Cx (ωM α) κ cX12_sheet 5 "EveryoneWinsModel" (some FieldType.int)) (e : κ.2.2.2.2.2.2.2.2.2 = (some (.int v), σ'))  {σ : M2} (h : F12_sheet_70 fu x1 x4 σ = some (v, σ')) : J (ωM α) κ 2 5 70 [(0, .ref (wad (ωM α) 0)), (1, .int x1), (4, .int x4)] [] σ := by
  unfold F12_sheet_70 at h
  refine wl1_ind (fun x4 σ => J (ωM α) κ 2 5 70 [(0, .ref (wad (ωM α) 0)), (1, .int x1), (4, .int x4)] [] σ) ?_ fu x4 σ h
  intro k70 hk70 x4 σ h
  try dsimp only at h
  show J (ωM α) κ 2 5 70 [(0, .ref (wad (ωM α) 0)), (1, .int x1), (4, .int x4)] [] σ
  refine j_iload C 2 dX12_sheet_70 rfl ?_
  refine j_bipush (v := 40) C dX12_sheet_72 (by decide) ?_
  refine j_icmp_ge (tgt := 96) C dX12_sheet_74 (by decide) (fun c1 => ?_) (fun c1 => ?_)
  · replace h := it c1 h
    refine j_iconst (v := 1) C dX12_sheet_96 (by decide) ?_
    obtain ⟨hv, hs⟩ := s2_inj h
    subst hv
    subst hs
    exact j_iret C e dX12_sheet_97
  · replace h := ie c1 h
    refine j_aload_n C 0 dX12_sheet_77 rfl ?_
    refine j_getr (o := 0) (j := 17) C inT12 (ci := 11) rfl (by decide) (rfl) rfl rfl wd_1116 dX12_sheet_78 (o' := 12) rfl ?_
    refine j_bipush (v := 40) C dX12_sheet_81 (by decide) ?_
    refine j_iload_n C 1 dX12_sheet_83 rfl ?_
    refine j_imul C dX12_sheet_84 ?_
    refine j_iload C 2 dX12_sheet_85 rfl ?_
    refine j_iadd C dX12_sheet_87 ?_
    refine j_iconst (v := 0) C dX12_sheet_88 (by decide) ?_
    obtain ⟨g2, h⟩ := gd_some h
    refine j_iastore (N := 160) C (rfl) (inb_in g2) dX12_sheet_89 ?_
    refine j_iinc (L' := [(4, .int (x4 + 1)), (0, .ref (wad (ωM α) 0)), (1, .int x1)]) C 2 dX12_sheet_90 rfl rfl rfl rfl ?_
    refine j_goto (tgt := 70) C dX12_sheet_93 (by decide) ?_
    exact j_sub [1, 2, 0] rfl (hk70 _ _ h)
set_option maxRecDepth 10000 in
theorem b12_sheet_66 {α : WA} {κ : KT} {fu : Nat} {v : Int32} {σ' : M2} {x1 : Int32} {y0 : Int32} {y1 : Int32} (C : Cx (ωM α) κ cX12_sheet 5 "EveryoneWinsModel" (some FieldType.int)) (e : κ.2.2.2.2.2.2.2.2.2 = (some (.int v), σ'))  {σ : M2} (h : F12_sheet_66 fu x1 y0 y1 σ = some (v, σ')) : J (ωM α) κ 2 5 66 [(0, .ref (wad (ωM α) 0)), (1, .int x1)] [.int y0, .int y1, .ref (wad (ωM α) 11)] σ := by
  unfold F12_sheet_66 at h
  obtain ⟨g1, h⟩ := gd_some h
  refine j_iastore (N := 4) C (rfl) (inb_in g1) dX12_sheet_66 ?_
  refine j_iconst (v := 0) C dX12_sheet_67 (by decide) ?_
  refine j_istore (L' := [(4, .int (0 : Int32)), (0, .ref (wad (ωM α) 0)), (1, .int x1)]) C dX12_sheet_68 rfl rfl ?_
  exact j_sub [1, 2, 0] rfl (b12_sheet_70 C e h)
