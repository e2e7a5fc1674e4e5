set_option maxRecDepth 10000 in
theorem c12_asksOf (l : Launch) {α : WA} {fu : Nat} {a1 : Int32} {a2 : Int32} {a3 : Int32} {a4 : Int32} {σ σ' : M2} {v : Int32}  (h : F12_asksOf fu a1 a2 a3 a4 σ = some (v, σ')) : Ct l (ωM α) yX12_asksOf cX12_asksOf 5 (some FieldType.int) 3 [.ref (wad (ωM α) 0), .int a1, .int a2, .int a3, .int a4] σ (some (.int v)) σ' := by
  unfold F12_asksOf at h
  refine Ct.of (own := "EveryoneWinsModel") (L := [(0, .ref (wad (ωM α) 0)), (1, .int a1), (2, .int a2), (3, .int a3), (4, .int a4)]) (by decide +kernel) rfl rfl rfl (fun κ hl e C => ?_)
  show J (ωM α) κ 3 5 0 [(0, .ref (wad (ωM α) 0)), (1, .int a1), (2, .int a2), (3, .int a3), (4, .int a4)] [] σ
  refine j_aload_n C 0 dX12_asksOf_0 rfl ?_
  refine j_getr (o := 0) (j := 29) C inT12 (ci := 11) rfl (by decide) (rfl) rfl rfl wd_1128 dX12_asksOf_1 (o' := 17) rfl ?_
  refine j_iconst (v := 0) C dX12_asksOf_4 (by decide) ?_
  refine j_aload_n C 0 dX12_asksOf_5 rfl ?_
  refine j_getr (o := 0) (j := 1) C inT12 (ci := 11) rfl (by decide) (rfl) rfl rfl wd_1100 dX12_asksOf_6 (o' := 1) rfl ?_
  refine j_iconst (v := 3) C dX12_asksOf_9 (by decide) ?_
  refine j_iload_n C 2 dX12_asksOf_10 rfl ?_
  refine j_imul C dX12_asksOf_11 ?_
  obtain ⟨g1, h⟩ := gd_some h
  refine j_iaload (N := 24) C (rfl) (inb_in g1) dX12_asksOf_12 ?_
  refine j_iastore (N := 6) C (rfl) ((inb_in (by decide))) dX12_asksOf_13 ?_
  refine j_aload_n C 0 dX12_asksOf_14 rfl ?_
  refine j_getr (o := 0) (j := 29) C inT12 (ci := 11) rfl (by decide) (rfl) rfl rfl wd_1128 dX12_asksOf_15 (o' := 17) rfl ?_
  refine j_iconst (v := 1) C dX12_asksOf_18 (by decide) ?_
  refine j_aload_n C 0 dX12_asksOf_19 rfl ?_
  refine j_getr (o := 0) (j := 1) C inT12 (ci := 11) rfl (by decide) (rfl) rfl rfl wd_1100 dX12_asksOf_20 (o' := 1) rfl ?_
  refine j_iconst (v := 3) C dX12_asksOf_23 (by decide) ?_
  refine j_iload_n C 2 dX12_asksOf_24 rfl ?_
  refine j_imul C dX12_asksOf_25 ?_
  refine j_iconst (v := 1) C dX12_asksOf_26 (by decide) ?_
  refine j_iadd C dX12_asksOf_27 ?_
  obtain ⟨g2, h⟩ := gd_some h
  refine j_iaload (N := 24) C (rfl) (inb_in g2) dX12_asksOf_28 ?_
  refine j_iastore (N := 6) C (rfl) ((inb_in (by decide))) dX12_asksOf_29 ?_
  refine j_aload_n C 0 dX12_asksOf_30 rfl ?_
  refine j_getr (o := 0) (j := 29) C inT12 (ci := 11) rfl (by decide) (rfl) rfl rfl wd_1128 dX12_asksOf_31 (o' := 17) rfl ?_
  refine j_iconst (v := 2) C dX12_asksOf_34 (by decide) ?_
  refine j_iload C 4 dX12_asksOf_35 rfl ?_
  refine j_iastore (N := 6) C (rfl) ((inb_in (by decide))) dX12_asksOf_37 ?_
  refine j_aload_n C 0 dX12_asksOf_38 rfl ?_
  refine j_getr (o := 0) (j := 29) C inT12 (ci := 11) rfl (by decide) (rfl) rfl rfl wd_1128 dX12_asksOf_39 (o' := 17) rfl ?_
  refine j_iconst (v := 3) C dX12_asksOf_42 (by decide) ?_
  refine j_iload_n C 3 dX12_asksOf_43 rfl ?_
  refine j_iconst (v := -1) C dX12_asksOf_44 (by decide) ?_
  refine j_icmp_ne (tgt := 52) C dX12_asksOf_45 (by decide) (fun c3 => ?_) (fun c3 => ?_)
  · replace h := ie c3 h
    refine j_aload_n C 0 dX12_asksOf_52 rfl ?_
    refine j_getr (o := 0) (j := 4) C inT12 (ci := 11) rfl (by decide) (rfl) rfl rfl wd_1103 dX12_asksOf_53 (o' := 3) rfl ?_
    refine j_iload_n C 3 dX12_asksOf_56 rfl ?_
    refine j_iconst (v := 0) C dX12_asksOf_57 (by decide) ?_
    refine j_iconst (v := 5) C dX12_asksOf_58 (by decide) ?_
    obtain ⟨r4, s5, hc6, h⟩ := bnd_some h
    refine k_S (v := some (.int r4)) C sb_X12_within (c12_within _ hc6) rfl (by decide) wd_1279 rfl dX12_asksOf_59 ?_
    show J (ωM α) κ _ _ 62 _ [.int r4, .ref (wad (ωM α) 3), .int (3 : Int32), .ref (wad (ωM α) 17)] s5
    obtain ⟨g7, h⟩ := gd_some h
    refine j_iaload (N := 6) C (rfl) (inb_in g7) dX12_asksOf_62 ?_
    exact j_sub [0, 1, 3] rfl (b12_asksOf_63 C e h)
  · replace h := it c3 h
    refine j_iconst (v := 0) C dX12_asksOf_48 (by decide) ?_
    refine j_goto (tgt := 63) C dX12_asksOf_49 (by decide) ?_
    exact j_sub [0, 1, 3] rfl (b12_asksOf_63 C e h)
set_option maxRecDepth 10000 in
theorem b12_asks_30 {α : WA} {κ : KT} {fu : Nat} {v : Int32} {σ' : M2} {x1 : Int32} {x2 : Int32} {x3 : Int32} {x4 : Int32} (C : Cx (ωM α) κ cX12_asks 5 "EveryoneWinsModel" (some FieldType.int)) (e : κ.2.2.2.2.2.2.2.2.2 = (some (.int v), σ'))  {σ : M2} (h : F12_asks_30 fu x1 x2 x3 x4 σ = some (v, σ')) : J (ωM α) κ 4 5 30 [(0, .ref (wad (ωM α) 0)), (1, .int x1), (2, .int x2), (3, .int x3), (4, .int x4)] [] σ := by
  unfold F12_asks_30 at h
  refine j_iload C 4 dX12_asks_30 rfl ?_
  refine j_iconst (v := 0) C dX12_asks_32 (by decide) ?_
  refine j_bipush (v := 6) C dX12_asks_33 (by decide) ?_
  obtain ⟨r1, s2, hc3, h⟩ := bnd_some h
  refine k_S (v := some (.int r1)) C sb_X12_in (c12_in _ hc3) rfl (by decide) wd_1060 rfl dX12_asks_35 ?_
  show J (ωM α) κ _ _ 38 _ [.int r1] s2
  refine j_if_eq (tgt := 53) C dX12_asks_38 (by decide) (fun c4 => ?_) (fun c4 => ?_)
  · replace h := it c4 h
    refine j_sipush (v := -1000) C dX12_asks_53 (by decide) ?_
    obtain ⟨hv, hs⟩ := s2_inj h
    subst hv
    subst hs
    exact j_iret C e dX12_asks_56
  · replace h := ie c4 h
    refine j_aload_n C 0 dX12_asks_41 rfl ?_
    refine j_iload_n C 1 dX12_asks_42 rfl ?_
    refine j_iload_n C 2 dX12_asks_43 rfl ?_
    refine j_iload_n C 3 dX12_asks_44 rfl ?_
    refine j_iload C 4 dX12_asks_45 rfl ?_
    obtain ⟨r5, s6, hc7, h⟩ := bnd_some h
    refine k_V (v := some (.int r5)) C vb_X12_asksOf (ci := 11) (T := TX12) (N := 45) rfl (by decide) (c12_asksOf _ hc7) rfl (by decide) wd_1275 (rfl) rfl dX12_asks_47 ?_
    show J (ωM α) κ _ _ 50 _ [.int r5] s6
    refine j_goto (tgt := 56) C dX12_asks_50 (by decide) ?_
    obtain ⟨hv, hs⟩ := s2_inj h
    subst hv
    subst hs
    exact j_iret C e dX12_asks_56
set_option maxRecDepth 10000 in
theorem c12_asks (l : Launch) {α : WA} {fu : Nat} {a1 : Int32} {a2 : Int32} {a3 : Int32} {a4 : Int32} {σ σ' : M2} {v : Int32}  (h : F12_asks fu a1 a2 a3 a4 σ = some (v, σ')) : Ct l (ωM α) yX12_asks cX12_asks 5 (some FieldType.int) 4 [.ref (wad (ωM α) 0), .int a1, .int a2, .int a3, .int a4] σ (some (.int v)) σ' := by
  unfold F12_asks at h
  refine Ct.of (own := "EveryoneWinsModel") (L := [(0, .ref (wad (ωM α) 0)), (1, .int a1), (2, .int a2), (3, .int a3), (4, .int a4)]) (by decide +kernel) rfl rfl rfl (fun κ hl e C => ?_)
  show J (ωM α) κ 4 5 0 [(0, .ref (wad (ωM α) 0)), (1, .int a1), (2, .int a2), (3, .int a3), (4, .int a4)] [] σ
  refine j_iload_n C 1 dX12_asks_0 rfl ?_
  refine j_iconst (v := 0) C dX12_asks_1 (by decide) ?_
  refine j_iconst (v := 2) C dX12_asks_2 (by decide) ?_
  obtain ⟨r1, s2, hc3, h⟩ := bnd_some h
  refine k_S (v := some (.int r1)) C sb_X12_in (c12_in _ hc3) rfl (by decide) wd_1060 rfl dX12_asks_3 ?_
  show J (ωM α) κ _ _ 6 _ [.int r1] s2
  refine j_if_eq (tgt := 53) C dX12_asks_6 (by decide) (fun c4 => ?_) (fun c4 => ?_)
  · replace h := it c4 h
    refine j_sipush (v := -1000) C dX12_asks_53 (by decide) ?_
    obtain ⟨hv, hs⟩ := s2_inj h
    subst hv
    subst hs
    exact j_iret C e dX12_asks_56
  · replace h := ie c4 h
    refine j_aload_n C 0 dX12_asks_9 rfl ?_
    refine j_iload_n C 2 dX12_asks_10 rfl ?_
    obtain ⟨r5, s6, hc7, h⟩ := bnd_some h
    refine k_V (v := some (.int r5)) C vb_X12_isChild (ci := 11) (T := TX12) (N := 45) rfl (by decide) (c12_isChild _ hc7) rfl (by decide) wd_1247 (rfl) rfl dX12_asks_11 ?_
    show J (ωM α) κ _ _ 14 _ [.int r5] s6
    refine j_if_eq (tgt := 53) C dX12_asks_14 (by decide) (fun c8 => ?_) (fun c8 => ?_)
    · replace h := it c8 h
      refine j_sipush (v := -1000) C dX12_asks_53 (by decide) ?_
      obtain ⟨hv, hs⟩ := s2_inj h
      subst hv
      subst hs
      exact j_iret C e dX12_asks_56
    · replace h := ie c8 h
      refine j_iload_n C 3 dX12_asks_17 rfl ?_
      refine j_iconst (v := -1) C dX12_asks_18 (by decide) ?_
      refine j_icmp_eq (tgt := 30) C dX12_asks_19 (by decide) (fun c9 => ?_) (fun c9 => ?_)
      · replace h := it c9 h
        exact (b12_asks_30 C e h)
      · replace h := ie c9 h
        refine j_aload_n C 0 dX12_asks_22 rfl ?_
        refine j_iload_n C 3 dX12_asks_23 rfl ?_
        obtain ⟨r10, s11, hc12, h⟩ := bnd_some h
        refine k_V (v := some (.int r10)) C vb_X12_isRace (ci := 11) (T := TX12) (N := 45) rfl (by decide) (c12_isRace _ hc12) rfl (by decide) wd_1271 (rfl) rfl dX12_asks_24 ?_
        show J (ωM α) κ _ _ 27 _ [.int r10] s11
        refine j_if_eq (tgt := 53) C dX12_asks_27 (by decide) (fun c13 => ?_) (fun c13 => ?_)
        · replace h := it c13 h
          refine j_sipush (v := -1000) C dX12_asks_53 (by decide) ?_
          obtain ⟨hv, hs⟩ := s2_inj h
          subst hv
          subst hs
          exact j_iret C e dX12_asks_56
        · replace h := ie c13 h
          exact (b12_asks_30 C e h)
set_option maxRecDepth 10000 in
theorem c12_areRunners (l : Launch) {α : WA}  {a1 : Int32} {σ σ' : M2} {v : Int32}  (h : F12_areRunners a1 σ = some (v, σ')) : Ct l (ωM α) yX12_areRunners cX12_areRunners 2 (some FieldType.boolean) 2 [.ref (wad (ωM α) 0), .int a1] σ (some (.int v)) σ' := by
  unfold F12_areRunners at h
  refine Ct.of (own := "EveryoneWinsModel") (L := [(0, .ref (wad (ωM α) 0)), (1, .int a1)]) (by decide +kernel) rfl rfl rfl (fun κ hl e C => ?_)
  show J (ωM α) κ 2 2 0 [(0, .ref (wad (ωM α) 0)), (1, .int a1)] [] σ
  refine j_iload_n C 1 dX12_areRunners_0 rfl ?_
  refine j_iconst (v := 0) C dX12_areRunners_1 (by decide) ?_
  refine j_iconst (v := 1) C dX12_areRunners_2 (by decide) ?_
  refine j_aload_n C 0 dX12_areRunners_3 rfl ?_
  refine j_geti (o := 0) (j := 0) C inT12 (ci := 11) rfl (by decide) (rfl) rfl rfl wd_1099 dX12_areRunners_4 ?_
  refine j_ishl C dX12_areRunners_7 ?_
  refine j_iconst (v := 1) C dX12_areRunners_8 (by decide) ?_
  refine j_isub C dX12_areRunners_9 ?_
  obtain ⟨r1, s2, hc3, h⟩ := bnd_some h
  refine k_S (v := some (.int r1)) C sb_X12_in (c12_in _ hc3) rfl (by decide) wd_1060 rfl dX12_areRunners_10 ?_
  show J (ωM α) κ _ _ 13 _ [.int r1] s2
  obtain ⟨g4, h⟩ := gd_some h
  obtain ⟨hv, hs⟩ := s2_inj h
  subst hv
  subst hs
  exact j_zret C e (isZ_n g4) dX12_areRunners_13
set_option maxRecDepth 10000 in
theorem c12_race (l : Launch) {α : WA}  {a1 : Int32} {a2 : Int32} {σ σ' : M2} {v : Int32}  (h : F12_race a1 a2 σ = some (v, σ')) : Ct l (ωM α) yX12_race cX12_race 3 (some FieldType.int) 3 [.ref (wad (ωM α) 0), .int a1, .int a2] σ (some (.int v)) σ' := by
  unfold F12_race at h
  refine Ct.of (own := "EveryoneWinsModel") (L := [(0, .ref (wad (ωM α) 0)), (1, .int a1), (2, .int a2)]) (by decide +kernel) rfl rfl rfl (fun κ hl e C => ?_)
  show J (ωM α) κ 3 3 0 [(0, .ref (wad (ωM α) 0)), (1, .int a1), (2, .int a2)] [] σ
  refine j_iload_n C 1 dX12_race_0 rfl ?_
  refine j_iconst (v := 0) C dX12_race_1 (by decide) ?_
  refine j_bipush (v := 59) C dX12_race_2 (by decide) ?_
  obtain ⟨r1, s2, hc3, h⟩ := bnd_some h
  refine k_S (v := some (.int r1)) C sb_X12_in (c12_in _ hc3) rfl (by decide) wd_1060 rfl dX12_race_4 ?_
  show J (ωM α) κ _ _ 7 _ [.int r1] s2
  refine j_if_eq (tgt := 18) C dX12_race_7 (by decide) (fun c4 => ?_) (fun c4 => ?_)
  · replace h := it c4 h
    refine j_bipush (v := -2) C dX12_race_18 (by decide) ?_
    obtain ⟨hv, hs⟩ := s2_inj h
    subst hv
    subst hs
    exact j_iret C e dX12_race_20
  · replace h := ie c4 h
    refine j_aload_n C 0 dX12_race_10 rfl ?_
    refine j_iload_n C 2 dX12_race_11 rfl ?_
    obtain ⟨r5, s6, hc7, h⟩ := bnd_some h
    refine k_V (v := some (.int r5)) C vb_X12_areRunners (ci := 11) (T := TX12) (N := 45) rfl (by decide) (c12_areRunners _ hc7) rfl (by decide) wd_1296 (rfl) rfl dX12_race_12 ?_
    show J (ωM α) κ _ _ 15 _ [.int r5] s6
    refine j_if_ne (tgt := 21) C dX12_race_15 (by decide) (fun c8 => ?_) (fun c8 => ?_)
    · replace h := ie c8 h
      refine j_aload_n C 0 dX12_race_21 rfl ?_
      refine j_geti (o := 0) (j := 2) C inT12 (ci := 11) rfl (by decide) (rfl) rfl rfl wd_1101 dX12_race_22 ?_
      refine j_bipush (v := 6) C dX12_race_25 (by decide) ?_
      refine j_icmp_ne (tgt := 33) C dX12_race_27 (by decide) (fun c9 => ?_) (fun c9 => ?_)
      · replace h := ie c9 h
        refine j_aload_n C 0 dX12_race_33 rfl ?_
        refine j_getr (o := 0) (j := 3) C inT12 (ci := 11) rfl (by decide) (rfl) rfl rfl wd_1102 dX12_race_34 (o' := 2) rfl ?_
        refine j_aload_n C 0 dX12_race_37 rfl ?_
        refine j_geti (o := 0) (j := 2) C inT12 (ci := 11) rfl (by decide) (rfl) rfl rfl wd_1101 dX12_race_38 ?_
        refine j_iload_n C 1 dX12_race_41 rfl ?_
        refine j_bipush (v := 10) C dX12_race_42 (by decide) ?_
        refine j_idiv C dX12_race_44 (by decide) ?_
        obtain ⟨g10, h⟩ := gd_some h
        refine j_iastore (N := 6) C (rfl) (inb_in g10) dX12_race_45 ?_
        refine j_aload_n C 0 dX12_race_46 rfl ?_
        refine j_getr (o := 0) (j := 4) C inT12 (ci := 11) rfl (by decide) (rfl) rfl rfl wd_1103 dX12_race_47 (o' := 3) rfl ?_
        refine j_aload_n C 0 dX12_race_50 rfl ?_
        refine j_geti (o := 0) (j := 2) C inT12 (ci := 11) rfl (by decide) (rfl) rfl rfl wd_1101 dX12_race_51 ?_
        refine j_iload_n C 1 dX12_race_54 rfl ?_
        refine j_bipush (v := 10) C dX12_race_55 (by decide) ?_
        refine j_irem C dX12_race_57 (by decide) ?_
        obtain ⟨g11, h⟩ := gd_some h
        refine j_iastore (N := 6) C (rfl) (inb_in g11) dX12_race_58 ?_
        refine j_aload_n C 0 dX12_race_59 rfl ?_
        refine j_getr (o := 0) (j := 5) C inT12 (ci := 11) rfl (by decide) (rfl) rfl rfl wd_1104 dX12_race_60 (o' := 4) rfl ?_
        refine j_iconst (v := 2) C dX12_race_63 (by decide) ?_
        refine j_aload_n C 0 dX12_race_64 rfl ?_
        refine j_geti (o := 0) (j := 2) C inT12 (ci := 11) rfl (by decide) (rfl) rfl rfl wd_1101 dX12_race_65 ?_
        refine j_imul C dX12_race_68 ?_
        refine j_iload_n C 2 dX12_race_69 rfl ?_
        obtain ⟨g12, h⟩ := gd_some h
        refine j_iastore (N := 12) C (rfl) (inb_in g12) dX12_race_70 ?_
        refine j_aload_n C 0 dX12_race_71 rfl ?_
        refine j_getr (o := 0) (j := 5) C inT12 (ci := 11) rfl (by decide) (rfl) rfl rfl wd_1104 dX12_race_72 (o' := 4) rfl ?_
        refine j_iconst (v := 2) C dX12_race_75 (by decide) ?_
        refine j_aload_n C 0 dX12_race_76 rfl ?_
        refine j_geti (o := 0) (j := 2) C inT12 (ci := 11) rfl (by decide) (rfl) rfl rfl wd_1101 dX12_race_77 ?_
        refine j_imul C dX12_race_80 ?_
        refine j_iconst (v := 1) C dX12_race_81 (by decide) ?_
        refine j_iadd C dX12_race_82 ?_
        refine j_iconst (v := 1) C dX12_race_83 (by decide) ?_
        obtain ⟨g13, h⟩ := gd_some h
        refine j_iastore (N := 12) C (rfl) (inb_in g13) dX12_race_84 ?_
        refine j_aload_n C 0 dX12_race_85 rfl ?_
        refine j_dup C dX12_race_86 rfl ?_
        refine j_geti (o := 0) (j := 2) C inT12 (ci := 11) rfl (by decide) (rfl) rfl rfl wd_1101 dX12_race_87 ?_
        refine j_iconst (v := 1) C dX12_race_90 (by decide) ?_
        refine j_iadd C dX12_race_91 ?_
        refine j_puti (o := 0) (j := 2) C inT12 tyX12_ok nmX12 (ci := 11) rfl (by decide) (rfl) rfl rfl rfl (tyX12_ok 2 (by decide)) rfl rfl wd_1101 dX12_race_92 ?_
        refine j_aload_n C 0 dX12_race_95 rfl ?_
        refine j_geti (o := 0) (j := 2) C inT12 (ci := 11) rfl (by decide) (rfl) rfl rfl wd_1101 dX12_race_96 ?_
        refine j_iconst (v := 1) C dX12_race_99 (by decide) ?_
        refine j_isub C dX12_race_100 ?_
        obtain ⟨hv, hs⟩ := s2_inj h
        subst hv
        subst hs
        exact j_iret C e dX12_race_101
      · replace h := it c9 h
        refine j_bipush (v := -4) C dX12_race_30 (by decide) ?_
        obtain ⟨hv, hs⟩ := s2_inj h
        subst hv
        subst hs
        exact j_iret C e dX12_race_32
    · replace h := it c8 h
      refine j_bipush (v := -2) C dX12_race_18 (by decide) ?_
      obtain ⟨hv, hs⟩ := s2_inj h
      subst hv
      subst hs
      exact j_iret C e dX12_race_20
set_option maxRecDepth 10000 in
theorem b12_enter_42 {α : WA} {κ : KT}  {v : Int32} {σ' : M2} {x1 : Int32} {x2 : Int32} {x3 : Int32} {y0 : Int32} (C : Cx (ωM α) κ cX12_enter 6 "EveryoneWinsModel" (some FieldType.int)) (e : κ.2.2.2.2.2.2.2.2.2 = (some (.int v), σ'))  {σ : M2} (h : F12_enter_42 x1 x2 x3 y0 σ = some (v, σ')) : J (ωM α) κ 3 6 42 [(0, .ref (wad (ωM α) 0)), (1, .int x1), (2, .int x2), (3, .int x3)] [.int y0] σ := by
  unfold F12_enter_42 at h
  refine j_istore (L' := [(4, .int y0), (0, .ref (wad (ωM α) 0)), (1, .int x1), (2, .int x2), (3, .int x3)]) C dX12_enter_42 rfl rfl ?_
  refine j_iload C 0 dX12_enter_44 rfl ?_
  refine j_if_ne (tgt := 52) C dX12_enter_46 (by decide) (fun c1 => ?_) (fun c1 => ?_)
  · replace h := ie c1 h
    refine j_aload_n C 1 dX12_enter_52 rfl ?_
    refine j_getr (o := 0) (j := 5) C inT12 (ci := 11) rfl (by decide) (rfl) rfl rfl wd_1104 dX12_enter_53 (o' := 4) rfl ?_
    refine j_iconst (v := 2) C dX12_enter_56 (by decide) ?_
    refine j_iload_n C 2 dX12_enter_57 rfl ?_
    refine j_imul C dX12_enter_58 ?_
    refine j_iload_n C 3 dX12_enter_59 rfl ?_
    refine j_iadd C dX12_enter_60 ?_
    obtain ⟨g2, h⟩ := gd_some h
    refine j_iaload (N := 12) C (rfl) (inb_in g2) dX12_enter_61 ?_
    refine j_istore (L' := [(5, .int (σ 4 (((2 : Int32) * x1) + x2).toNatClampNeg)), (4, .int y0), (0, .ref (wad (ωM α) 0)), (1, .int x1), (2, .int x2), (3, .int x3)]) C dX12_enter_62 rfl rfl ?_
    refine j_aload_n C 2 dX12_enter_64 rfl ?_
    refine j_getr (o := 0) (j := 5) C inT12 (ci := 11) rfl (by decide) (rfl) rfl rfl wd_1104 dX12_enter_65 (o' := 4) rfl ?_
    refine j_iconst (v := 2) C dX12_enter_68 (by decide) ?_
    refine j_iload_n C 3 dX12_enter_69 rfl ?_
    refine j_imul C dX12_enter_70 ?_
    refine j_iload_n C 4 dX12_enter_71 rfl ?_
    refine j_iadd C dX12_enter_72 ?_
    refine j_iload_n C 5 dX12_enter_73 rfl ?_
    refine j_iastore (N := 12) C (rfl) (inb_in g2) dX12_enter_74 ?_
    refine j_iload C 0 dX12_enter_75 rfl ?_
    obtain ⟨hv, hs⟩ := s2_inj h
    subst hv
    subst hs
    exact j_iret C e dX12_enter_77
  · replace h := it c1 h
    refine j_bipush (v := -7) C dX12_enter_49 (by decide) ?_
    obtain ⟨hv, hs⟩ := s2_inj h
    subst hv
    subst hs
    exact j_iret C e dX12_enter_51
set_option maxRecDepth 10000 in
theorem b12_enter_41 {α : WA} {κ : KT}  {v : Int32} {σ' : M2} {x1 : Int32} {x2 : Int32} {x3 : Int32} (C : Cx (ωM α) κ cX12_enter 6 "EveryoneWinsModel" (some FieldType.int)) (e : κ.2.2.2.2.2.2.2.2.2 = (some (.int v), σ'))  {σ : M2} (h : F12_enter_41 x1 x2 x3 σ = some (v, σ')) : J (ωM α) κ 3 6 41 [(0, .ref (wad (ωM α) 0)), (1, .int x1), (2, .int x2), (3, .int x3)] [] σ := by
  unfold F12_enter_41 at h
  refine j_iconst (v := 0) C dX12_enter_41 (by decide) ?_
  exact (b12_enter_42 C e h)
set_option maxRecDepth 10000 in
theorem c12_enter (l : Launch) {α : WA}  {a1 : Int32} {a2 : Int32} {a3 : Int32} {σ σ' : M2} {v : Int32}  (h : F12_enter a1 a2 a3 σ = some (v, σ')) : Ct l (ωM α) yX12_enter cX12_enter 6 (some FieldType.int) 3 [.ref (wad (ωM α) 0), .int a1, .int a2, .int a3] σ (some (.int v)) σ' := by
  unfold F12_enter at h
  refine Ct.of (own := "EveryoneWinsModel") (L := [(0, .ref (wad (ωM α) 0)), (1, .int a1), (2, .int a2), (3, .int a3)]) (by decide +kernel) rfl rfl rfl (fun κ hl e C => ?_)
  show J (ωM α) κ 3 6 0 [(0, .ref (wad (ωM α) 0)), (1, .int a1), (2, .int a2), (3, .int a3)] [] σ
  refine j_aload_n C 0 dX12_enter_0 rfl ?_
  refine j_iload_n C 1 dX12_enter_1 rfl ?_
  obtain ⟨r1, s2, hc3, h⟩ := bnd_some h
  refine k_V (v := some (.int r1)) C vb_X12_isRace (ci := 11) (T := TX12) (N := 45) rfl (by decide) (c12_isRace _ hc3) rfl (by decide) wd_1271 (rfl) rfl dX12_enter_2 ?_
  show J (ωM α) κ _ _ 5 _ [.int r1] s2
  refine j_if_ne (tgt := 11) C dX12_enter_5 (by decide) (fun c4 => ?_) (fun c4 => ?_)
  · replace h := ie c4 h
    refine j_iload_n C 2 dX12_enter_11 rfl ?_
    refine j_if_ne (tgt := 23) C dX12_enter_12 (by decide) (fun c5 => ?_) (fun c5 => ?_)
    · replace h := ie c5 h
      refine j_iload_n C 2 dX12_enter_23 rfl ?_
      refine j_iconst (v := 1) C dX12_enter_24 (by decide) ?_
      refine j_icmp_ne (tgt := 41) C dX12_enter_25 (by decide) (fun c6 => ?_) (fun c6 => ?_)
      · replace h := ie c6 h
        exact (b12_enter_41 C e h)
      · replace h := it c6 h
        refine j_iload_n C 3 dX12_enter_28 rfl ?_
        refine j_iconst (v := 0) C dX12_enter_29 (by decide) ?_
        refine j_iconst (v := 3) C dX12_enter_30 (by decide) ?_
        obtain ⟨r7, s8, hc9, h⟩ := bnd_some h
        refine k_S (v := some (.int r7)) C sb_X12_in (c12_in _ hc9) rfl (by decide) wd_1060 rfl dX12_enter_31 ?_
        show J (ωM α) κ _ _ 34 _ [.int r7] s8
        refine j_if_eq (tgt := 41) C dX12_enter_34 (by decide) (fun c10 => ?_) (fun c10 => ?_)
        · replace h := it c10 h
          exact (b12_enter_41 C e h)
        · replace h := ie c10 h
          refine j_iconst (v := 1) C dX12_enter_37 (by decide) ?_
          refine j_goto (tgt := 42) C dX12_enter_38 (by decide) ?_
          exact (b12_enter_42 C e h)
    · replace h := it c5 h
      refine j_aload_n C 0 dX12_enter_15 rfl ?_
      refine j_iload_n C 3 dX12_enter_16 rfl ?_
      obtain ⟨r11, s12, hc13, h⟩ := bnd_some h
      refine k_V (v := some (.int r11)) C vb_X12_areRunners (ci := 11) (T := TX12) (N := 45) rfl (by decide) (c12_areRunners _ hc13) rfl (by decide) wd_1296 (rfl) rfl dX12_enter_17 ?_
      show J (ωM α) κ _ _ 20 _ [.int r11] s12
      refine j_goto (tgt := 42) C dX12_enter_20 (by decide) ?_
      exact (b12_enter_42 C e h)
  · replace h := it c4 h
    refine j_bipush (v := -6) C dX12_enter_8 (by decide) ?_
    obtain ⟨hv, hs⟩ := s2_inj h
    subst hv
    subst hs
    exact j_iret C e dX12_enter_10
set_option maxRecDepth 10000 in
theorem c12_card (l : Launch) {α : WA}  {a1 : Int32} {a2 : Int32} {σ σ' : M2} {v : Int32}  (h : F12_card a1 a2 σ = some (v, σ')) : Ct l (ωM α) yX12_card cX12_card 3 (some FieldType.int) 3 [.ref (wad (ωM α) 0), .int a1, .int a2] σ (some (.int v)) σ' := by
  unfold F12_card at h
  refine Ct.of (own := "EveryoneWinsModel") (L := [(0, .ref (wad (ωM α) 0)), (1, .int a1), (2, .int a2)]) (by decide +kernel) rfl rfl rfl (fun κ hl e C => ?_)
  show J (ωM α) κ 3 3 0 [(0, .ref (wad (ωM α) 0)), (1, .int a1), (2, .int a2)] [] σ
  refine j_aload_n C 0 dX12_card_0 rfl ?_
  refine j_iload_n C 1 dX12_card_1 rfl ?_
  obtain ⟨r1, s2, hc3, h⟩ := bnd_some h
  refine k_V (v := some (.int r1)) C vb_X12_isRace (ci := 11) (T := TX12) (N := 45) rfl (by decide) (c12_isRace _ hc3) rfl (by decide) wd_1271 (rfl) rfl dX12_card_2 ?_
  show J (ωM α) κ _ _ 5 _ [.int r1] s2
  refine j_if_ne (tgt := 11) C dX12_card_5 (by decide) (fun c4 => ?_) (fun c4 => ?_)
  · replace h := ie c4 h
    refine j_iload_n C 2 dX12_card_11 rfl ?_
    refine j_if_ne (tgt := 24) C dX12_card_12 (by decide) (fun c5 => ?_) (fun c5 => ?_)
    · replace h := ie c5 h
      refine j_iload_n C 2 dX12_card_24 rfl ?_
      refine j_iconst (v := 1) C dX12_card_25 (by decide) ?_
      refine j_icmp_ne (tgt := 38) C dX12_card_26 (by decide) (fun c6 => ?_) (fun c6 => ?_)
      · replace h := ie c6 h
        refine j_iload_n C 2 dX12_card_38 rfl ?_
        refine j_iconst (v := 2) C dX12_card_39 (by decide) ?_
        refine j_iconst (v := 3) C dX12_card_40 (by decide) ?_
        obtain ⟨r7, s8, hc9, h⟩ := bnd_some h
        refine k_S (v := some (.int r7)) C sb_X12_in (c12_in _ hc9) rfl (by decide) wd_1060 rfl dX12_card_41 ?_
        show J (ωM α) κ _ _ 44 _ [.int r7] s8
        refine j_if_eq (tgt := 62) C dX12_card_44 (by decide) (fun c10 => ?_) (fun c10 => ?_)
        · replace h := it c10 h
          refine j_bipush (v := -7) C dX12_card_62 (by decide) ?_
          obtain ⟨hv, hs⟩ := s2_inj h
          subst hv
          subst hs
          exact j_iret C e dX12_card_64
        · replace h := ie c10 h
          refine j_aload_n C 0 dX12_card_47 rfl ?_
          refine j_getr (o := 0) (j := 5) C inT12 (ci := 11) rfl (by decide) (rfl) rfl rfl wd_1104 dX12_card_48 (o' := 4) rfl ?_
          refine j_iconst (v := 2) C dX12_card_51 (by decide) ?_
          refine j_iload_n C 1 dX12_card_52 rfl ?_
          refine j_imul C dX12_card_53 ?_
          refine j_iload_n C 2 dX12_card_54 rfl ?_
          refine j_iadd C dX12_card_55 ?_
          refine j_iconst (v := 2) C dX12_card_56 (by decide) ?_
          refine j_isub C dX12_card_57 ?_
          obtain ⟨g11, h⟩ := gd_some h
          refine j_iaload (N := 12) C (rfl) (inb_in g11) dX12_card_58 ?_
          refine j_goto (tgt := 64) C dX12_card_59 (by decide) ?_
          obtain ⟨hv, hs⟩ := s2_inj h
          subst hv
          subst hs
          exact j_iret C e dX12_card_64
      · replace h := it c6 h
        refine j_aload_n C 0 dX12_card_29 rfl ?_
        refine j_getr (o := 0) (j := 4) C inT12 (ci := 11) rfl (by decide) (rfl) rfl rfl wd_1103 dX12_card_30 (o' := 3) rfl ?_
        refine j_iload_n C 1 dX12_card_33 rfl ?_
        obtain ⟨g12, h⟩ := gd_some h
        refine j_iaload (N := 6) C (rfl) (inb_in g12) dX12_card_34 ?_
        refine j_goto (tgt := 64) C dX12_card_35 (by decide) ?_
        obtain ⟨hv, hs⟩ := s2_inj h
        subst hv
        subst hs
        exact j_iret C e dX12_card_64
    · replace h := it c5 h
      refine j_aload_n C 0 dX12_card_15 rfl ?_
      refine j_getr (o := 0) (j := 3) C inT12 (ci := 11) rfl (by decide) (rfl) rfl rfl wd_1102 dX12_card_16 (o' := 2) rfl ?_
      refine j_iload_n C 1 dX12_card_19 rfl ?_
      obtain ⟨g13, h⟩ := gd_some h
      refine j_iaload (N := 6) C (rfl) (inb_in g13) dX12_card_20 ?_
      refine j_goto (tgt := 64) C dX12_card_21 (by decide) ?_
      obtain ⟨hv, hs⟩ := s2_inj h
      subst hv
      subst hs
      exact j_iret C e dX12_card_64
  · replace h := it c4 h
    refine j_bipush (v := -6) C dX12_card_8 (by decide) ?_
    obtain ⟨hv, hs⟩ := s2_inj h
    subst hv
    subst hs
    exact j_iret C e dX12_card_10
set_option maxRecDepth 10000 in
theorem c12_scoreOf (l : Launch) {α : WA} {fu : Nat} {a1 : Int32} {a2 : Int32} {σ σ' : M2} {v : Int32}  (h : F12_scoreOf fu a1 a2 σ = some (v, σ')) : Ct l (ωM α) yX12_scoreOf cX12_scoreOf 7 (some FieldType.int) 4 [.ref (wad (ωM α) 0), .int a1, .int a2] σ (some (.int v)) σ' := by
  unfold F12_scoreOf at h
  refine Ct.of (own := "EveryoneWinsModel") (L := [(0, .ref (wad (ωM α) 0)), (1, .int a1), (2, .int a2)]) (by decide +kernel) rfl rfl rfl (fun κ hl e C => ?_)
  show J (ωM α) κ 4 7 0 [(0, .ref (wad (ωM α) 0)), (1, .int a1), (2, .int a2)] [] σ
  refine j_aload_n C 0 dX12_scoreOf_0 rfl ?_
  refine j_getr (o := 0) (j := 1) C inT12 (ci := 11) rfl (by decide) (rfl) rfl rfl wd_1100 dX12_scoreOf_1 (o' := 1) rfl ?_
  refine j_iconst (v := 3) C dX12_scoreOf_4 (by decide) ?_
  refine j_iload_n C 1 dX12_scoreOf_5 rfl ?_
  refine j_imul C dX12_scoreOf_6 ?_
  obtain ⟨g1, h⟩ := gd_some h
  refine j_iaload (N := 24) C (rfl) (inb_in g1) dX12_scoreOf_7 ?_
  refine j_istore_n (L' := [(3, .int (σ 1 ((3 : Int32) * a1).toNatClampNeg)), (0, .ref (wad (ωM α) 0)), (1, .int a1), (2, .int a2)]) C dX12_scoreOf_8 rfl rfl rfl ?_
  refine j_aload_n C 1 dX12_scoreOf_9 rfl ?_
  refine j_getr (o := 0) (j := 1) C inT12 (ci := 11) rfl (by decide) (rfl) rfl rfl wd_1100 dX12_scoreOf_10 (o' := 1) rfl ?_
  refine j_iconst (v := 3) C dX12_scoreOf_13 (by decide) ?_
  refine j_iload_n C 2 dX12_scoreOf_14 rfl ?_
  refine j_imul C dX12_scoreOf_15 ?_
  refine j_iconst (v := 1) C dX12_scoreOf_16 (by decide) ?_
  refine j_iadd C dX12_scoreOf_17 ?_
  obtain ⟨g2, h⟩ := gd_some h
  refine j_iaload (N := 24) C (rfl) (inb_in g2) dX12_scoreOf_18 ?_
  refine j_istore (L' := [(4, .int (σ 1 (((3 : Int32) * a1) + (1 : Int32)).toNatClampNeg)), (3, .int (σ 1 ((3 : Int32) * a1).toNatClampNeg)), (0, .ref (wad (ωM α) 0)), (1, .int a1), (2, .int a2)]) C dX12_scoreOf_19 rfl rfl ?_
  refine j_aload_n C 2 dX12_scoreOf_21 rfl ?_
  refine j_getr (o := 0) (j := 4) C inT12 (ci := 11) rfl (by decide) (rfl) rfl rfl wd_1103 dX12_scoreOf_22 (o' := 3) rfl ?_
  refine j_iload_n C 4 dX12_scoreOf_25 rfl ?_
  obtain ⟨g3, h⟩ := gd_some h
  refine j_iaload (N := 6) C (rfl) (inb_in g3) dX12_scoreOf_26 ?_
  refine j_istore (L' := [(5, .int (σ 3 a2.toNatClampNeg)), (4, .int (σ 1 (((3 : Int32) * a1) + (1 : Int32)).toNatClampNeg)), (3, .int (σ 1 ((3 : Int32) * a1).toNatClampNeg)), (0, .ref (wad (ωM α) 0)), (1, .int a1), (2, .int a2)]) C dX12_scoreOf_27 rfl rfl ?_
  refine j_aload_n C 3 dX12_scoreOf_29 rfl ?_
  refine j_iconst (v := 0) C dX12_scoreOf_30 (by decide) ?_
  refine j_iload_n C 4 dX12_scoreOf_31 rfl ?_
  refine j_iload_n C 5 dX12_scoreOf_32 rfl ?_
  refine j_aload_n C 3 dX12_scoreOf_33 rfl ?_
  refine j_getr (o := 0) (j := 30) C inT12 (ci := 11) rfl (by decide) (rfl) rfl rfl wd_1129 dX12_scoreOf_34 (o' := 18) rfl ?_
  refine j_iload_n C 4 dX12_scoreOf_37 rfl ?_
  obtain ⟨g4, h⟩ := gd_some h
  refine j_iaload (N := 8) C (rfl) (inb_in g4) dX12_scoreOf_38 ?_
  obtain ⟨r5, s6, hc7, h⟩ := bnd_some h
  refine k_V (v := some (.int r5)) C vb_X12_asksOf (ci := 11) (T := TX12) (N := 45) rfl (by decide) (c12_asksOf _ hc7) rfl (by decide) wd_1275 (rfl) rfl dX12_scoreOf_39 ?_
  show J (ωM α) κ _ _ 42 _ [.int r5] s6
  refine j_aload_n C 3 dX12_scoreOf_42 rfl ?_
  refine j_getr (o := 0) (j := 1) C inT12 (ci := 11) rfl (by decide) (rfl) rfl rfl wd_1100 dX12_scoreOf_43 (o' := 1) rfl ?_
  refine j_iconst (v := 3) C dX12_scoreOf_46 (by decide) ?_
  refine j_iload_n C 4 dX12_scoreOf_47 rfl ?_
  refine j_imul C dX12_scoreOf_48 ?_
  refine j_iconst (v := 2) C dX12_scoreOf_49 (by decide) ?_
  refine j_iadd C dX12_scoreOf_50 ?_
  obtain ⟨g8, h⟩ := gd_some h
  refine j_iaload (N := 24) C (rfl) (inb_in g8) dX12_scoreOf_51 ?_
  refine j_iadd C dX12_scoreOf_52 ?_
  refine j_iconst (v := 0) C dX12_scoreOf_53 (by decide) ?_
  refine j_bipush (v := 99) C dX12_scoreOf_54 (by decide) ?_
  obtain ⟨r9, s10, hc11, h⟩ := bnd_some h
  refine k_S (v := some (.int r9)) C sb_X12_within (c12_within _ hc11) rfl (by decide) wd_1279 rfl dX12_scoreOf_56 ?_
  show J (ωM α) κ _ _ 59 _ [.int r9] s10
  refine j_istore (L' := [(6, .int r9), (5, .int (σ 3 a2.toNatClampNeg)), (4, .int (σ 1 (((3 : Int32) * a1) + (1 : Int32)).toNatClampNeg)), (3, .int (σ 1 ((3 : Int32) * a1).toNatClampNeg)), (0, .ref (wad (ωM α) 0)), (1, .int a1), (2, .int a2)]) C dX12_scoreOf_59 rfl rfl ?_
  refine j_aload_n C 4 dX12_scoreOf_61 rfl ?_
  refine j_getr (o := 0) (j := 3) C inT12 (ci := 11) rfl (by decide) (rfl) rfl rfl wd_1102 dX12_scoreOf_62 (o' := 2) rfl ?_
  refine j_iload_n C 6 dX12_scoreOf_65 rfl ?_
  refine j_iaload (N := 6) C (rfl) (inb_in g3) dX12_scoreOf_66 ?_
  by_cases c12 : (s10 2 a2.toNatClampNeg) = (1 : Int32)
  · replace h := it c12 h
    refine j_tabEq (tgt := 100) C dX12_scoreOf_67 c12 (by decide) (by decide) rfl (by decide) ?_
    refine j_iload_n C 3 dX12_scoreOf_100 rfl ?_
    refine j_iconst (v := 2) C dX12_scoreOf_101 (by decide) ?_
    refine j_idiv C dX12_scoreOf_102 (by decide) ?_
    refine j_iload C 2 dX12_scoreOf_103 rfl ?_
    refine j_iadd C dX12_scoreOf_105 ?_
    refine j_iload C 0 dX12_scoreOf_106 rfl ?_
    refine j_iadd C dX12_scoreOf_108 ?_
    obtain ⟨hv, hs⟩ := s2_inj h
    subst hv
    subst hs
    exact j_iret C e dX12_scoreOf_109
  replace h := ie c12 h
  by_cases c13 : (s10 2 a2.toNatClampNeg) = (2 : Int32)
  · replace h := it c13 h
    refine j_tabEq (tgt := 110) C dX12_scoreOf_67 c13 (by decide) (by decide) rfl (by decide) ?_
    refine j_iload C 2 dX12_scoreOf_110 rfl ?_
    refine j_iload C 1 dX12_scoreOf_112 rfl ?_
    refine j_iadd C dX12_scoreOf_114 ?_
    refine j_iload C 0 dX12_scoreOf_115 rfl ?_
    refine j_iadd C dX12_scoreOf_117 ?_
    obtain ⟨hv, hs⟩ := s2_inj h
    subst hv
    subst hs
    exact j_iret C e dX12_scoreOf_118
  replace h := ie c13 h
  by_cases c14 : (s10 2 a2.toNatClampNeg) = (3 : Int32)
  · replace h := it c14 h
    refine j_tabEq (tgt := 119) C dX12_scoreOf_67 c14 (by decide) (by decide) rfl (by decide) ?_
    refine j_bipush (v := 99) C dX12_scoreOf_119 (by decide) ?_
    refine j_iload_n C 3 dX12_scoreOf_121 rfl ?_
    refine j_iconst (v := 2) C dX12_scoreOf_122 (by decide) ?_
    refine j_idiv C dX12_scoreOf_123 (by decide) ?_
    refine j_iload C 2 dX12_scoreOf_124 rfl ?_
    refine j_iadd C dX12_scoreOf_126 ?_
    refine j_isub C dX12_scoreOf_127 ?_
    refine j_iload C 0 dX12_scoreOf_128 rfl ?_
    refine j_iload C 1 dX12_scoreOf_130 rfl ?_
    refine j_imul C dX12_scoreOf_132 ?_
    refine j_iconst (v := 2) C dX12_scoreOf_133 (by decide) ?_
    refine j_idiv C dX12_scoreOf_134 (by decide) ?_
    refine j_iadd C dX12_scoreOf_135 ?_
    obtain ⟨hv, hs⟩ := s2_inj h
    subst hv
    subst hs
    exact j_iret C e dX12_scoreOf_136
  replace h := ie c14 h
  by_cases c15 : (s10 2 a2.toNatClampNeg) = (4 : Int32)
  · replace h := it c15 h
    refine j_tabEq (tgt := 137) C dX12_scoreOf_67 c15 (by decide) (by decide) rfl (by decide) ?_
    refine j_iload C 2 dX12_scoreOf_137 rfl ?_
    refine j_iload C 1 dX12_scoreOf_139 rfl ?_
    refine j_iadd C dX12_scoreOf_141 ?_
    refine j_iload_n C 3 dX12_scoreOf_142 rfl ?_
    refine j_isub C dX12_scoreOf_143 ?_
    refine j_iload C 0 dX12_scoreOf_144 rfl ?_
    refine j_isub C dX12_scoreOf_146 ?_
    obtain ⟨hv, hs⟩ := s2_inj h
    subst hv
    subst hs
    exact j_iret C e dX12_scoreOf_147
  replace h := ie c15 h
  by_cases c16 : (s10 2 a2.toNatClampNeg) = (5 : Int32)
  · replace h := it c16 h
    refine j_tabEq (tgt := 148) C dX12_scoreOf_67 c16 (by decide) (by decide) rfl (by decide) ?_
    refine j_bipush (v := 7) C dX12_scoreOf_148 (by decide) ?_
    refine j_iload_n C 3 dX12_scoreOf_150 rfl ?_
    refine j_imul C dX12_scoreOf_151 ?_
    refine j_iconst (v := 3) C dX12_scoreOf_152 (by decide) ?_
    refine j_iload C 2 dX12_scoreOf_153 rfl ?_
    refine j_imul C dX12_scoreOf_155 ?_
    refine j_iadd C dX12_scoreOf_156 ?_
    refine j_iload C 1 dX12_scoreOf_157 rfl ?_
    refine j_iadd C dX12_scoreOf_159 ?_
    refine j_bipush (v := 31) C dX12_scoreOf_160 (by decide) ?_
    refine j_irem C dX12_scoreOf_162 (by decide) ?_
    refine j_iload C 0 dX12_scoreOf_163 rfl ?_
    refine j_iadd C dX12_scoreOf_165 ?_
    obtain ⟨hv, hs⟩ := s2_inj h
    subst hv
    subst hs
    exact j_iret C e dX12_scoreOf_166
  replace h := ie c16 h
  refine j_tableOut (tgt := 167) C dX12_scoreOf_67 (by have q0 := ne_ti c12 (z := 1) (by decide); have q1 := ne_ti c13 (z := 2) (by decide); have q2 := ne_ti c14 (z := 3) (by decide); have q3 := ne_ti c15 (z := 4) (by decide); have q4 := ne_ti c16 (z := 5) (by decide); omega) (by decide) ?_
  refine j_iload_n C 3 dX12_scoreOf_167 rfl ?_
  refine j_iload C 0 dX12_scoreOf_168 rfl ?_
  refine j_iadd C dX12_scoreOf_170 ?_
  obtain ⟨hv, hs⟩ := s2_inj h
  subst hv
  subst hs
  exact j_iret C e dX12_scoreOf_171
set_option maxRecDepth 10000 in
theorem b12_forMany_81 {α : WA} {κ : KT} {fu : Nat} {v : Int32} {σ' : M2} {x2 : Int32} {x3 : Int32} (C : Cx (ωM α) κ cX12_forMany 4 "EveryoneWinsModel" (some FieldType.int)) (e : κ.2.2.2.2.2.2.2.2.2 = (some (.int v), σ'))  {σ : M2} (h : F12_forMany_81 fu x2 x3 σ = some (v, σ')) : J (ωM α) κ 2 4 81 [(2, .int x2), (3, .int x3)] [] σ := by
  unfold F12_forMany_81 at h
  refine j_iload_n C 1 dX12_forMany_81 rfl ?_
  refine j_iload_n C 0 dX12_forMany_82 rfl ?_
  refine j_icmp_le (tgt := 90) C dX12_forMany_83 (by decide) (fun c1 => ?_) (fun c1 => ?_)
  · replace h := it c1 h
    refine j_iload_n C 1 dX12_forMany_90 rfl ?_
    obtain ⟨hv, hs⟩ := s2_inj h
    subst hv
    subst hs
    exact j_iret C e dX12_forMany_91
  · replace h := ie c1 h
    refine j_iload_n C 0 dX12_forMany_86 rfl ?_
    refine j_goto (tgt := 91) C dX12_forMany_87 (by decide) ?_
    obtain ⟨hv, hs⟩ := s2_inj h
    subst hv
    subst hs
    exact j_iret C e dX12_forMany_91
set_option maxRecDepth 10000 in
theorem b12_forMany_70 {α : WA} {κ : KT} {fu : Nat} {v : Int32} {σ' : M2} {x2 : Int32} {y0 : Int32} (C : Cx (ωM α) κ cX12_forMany 4 "EveryoneWinsModel" (some FieldType.int)) (e : κ.2.2.2.2.2.2.2.2.2 = (some (.int v), σ'))  {σ : M2} (h : F12_forMany_70 fu x2 y0 σ = some (v, σ')) : J (ωM α) κ 2 4 70 [(2, .int x2)] [.int y0] σ := by
  unfold F12_forMany_70 at h
  refine j_istore_n (L' := [(3, .int y0), (2, .int x2)]) C dX12_forMany_70 rfl rfl rfl ?_
  refine j_goto (tgt := 81) C dX12_forMany_71 (by decide) ?_
  exact j_sub [1, 0] rfl (b12_forMany_81 C e h)
set_option maxRecDepth 10000 in
theorem b12_forMany_60 {α : WA} {κ : KT} {fu : Nat} {v : Int32} {σ' : M2} {x2 : Int32} {x3 : Int32} (C : Cx (ωM α) κ cX12_forMany 4 "EveryoneWinsModel" (some FieldType.int)) (e : κ.2.2.2.2.2.2.2.2.2 = (some (.int v), σ'))  {σ : M2} (h : F12_forMany_60 fu x2 x3 σ = some (v, σ')) : J (ωM α) κ 2 4 60 [(2, .int x2), (3, .int x3)] [] σ := by
  unfold F12_forMany_60 at h
  refine j_iload_n C 0 dX12_forMany_60 rfl ?_
  refine j_iconst (v := 3) C dX12_forMany_61 (by decide) ?_
  refine j_icmp_ge (tgt := 69) C dX12_forMany_62 (by decide) (fun c1 => ?_) (fun c1 => ?_)
  · replace h := it c1 h
    refine j_iload_n C 1 dX12_forMany_69 rfl ?_
    exact j_sub [0] rfl (b12_forMany_70 C e h)
  · replace h := ie c1 h
    refine j_iconst (v := 1) C dX12_forMany_65 (by decide) ?_
    refine j_goto (tgt := 70) C dX12_forMany_66 (by decide) ?_
    exact j_sub [0] rfl (b12_forMany_70 C e h)
set_option maxRecDepth 10000 in
theorem c12_forMany (l : Launch) {α : WA} {fu : Nat} {a1 : Int32} {σ σ' : M2} {v : Int32}  (h : F12_forMany fu a1 σ = some (v, σ')) : Ct l (ωM α) yX12_forMany cX12_forMany 4 (some FieldType.int) 2 [.ref (wad (ωM α) 0), .int a1] σ (some (.int v)) σ' := by
  unfold F12_forMany at h
  refine Ct.of (own := "EveryoneWinsModel") (L := [(0, .ref (wad (ωM α) 0)), (1, .int a1)]) (by decide +kernel) rfl rfl rfl (fun κ hl e C => ?_)
  show J (ωM α) κ 2 4 0 [(0, .ref (wad (ωM α) 0)), (1, .int a1)] [] σ
  refine j_aload_n C 0 dX12_forMany_0 rfl ?_
  refine j_getr (o := 0) (j := 5) C inT12 (ci := 11) rfl (by decide) (rfl) rfl rfl wd_1104 dX12_forMany_1 (o' := 4) rfl ?_
  refine j_iconst (v := 2) C dX12_forMany_4 (by decide) ?_
  refine j_iload_n C 1 dX12_forMany_5 rfl ?_
  refine j_imul C dX12_forMany_6 ?_
  obtain ⟨g1, h⟩ := gd_some h
  refine j_iaload (N := 12) C (rfl) (inb_in g1) dX12_forMany_7 ?_
  obtain ⟨r2, s3, hc4, h⟩ := bnd_some h
  refine k_S (v := some (.int r2)) C sb_X12_ones (c12_ones _ hc4) rfl (by decide) wd_1282 rfl dX12_forMany_8 ?_
  show J (ωM α) κ _ _ 11 _ [.int r2] s3
  refine j_istore_n (L' := [(2, .int r2), (0, .ref (wad (ωM α) 0)), (1, .int a1)]) C dX12_forMany_11 rfl rfl rfl ?_
  refine j_aload_n C 1 dX12_forMany_12 rfl ?_
  refine j_getr (o := 0) (j := 5) C inT12 (ci := 11) rfl (by decide) (rfl) rfl rfl wd_1104 dX12_forMany_13 (o' := 4) rfl ?_
  refine j_iconst (v := 2) C dX12_forMany_16 (by decide) ?_
  refine j_iload_n C 2 dX12_forMany_17 rfl ?_
  refine j_imul C dX12_forMany_18 ?_
  refine j_iconst (v := 1) C dX12_forMany_19 (by decide) ?_
  refine j_iadd C dX12_forMany_20 ?_
  obtain ⟨g5, h⟩ := gd_some h
  refine j_iaload (N := 12) C (rfl) (inb_in g5) dX12_forMany_21 ?_
  refine j_istore_n (L' := [(3, .int (s3 4 (((2 : Int32) * a1) + (1 : Int32)).toNatClampNeg)), (2, .int r2), (0, .ref (wad (ωM α) 0)), (1, .int a1)]) C dX12_forMany_22 rfl rfl rfl ?_
  refine j_aload_n C 2 dX12_forMany_23 rfl ?_
  refine j_getr (o := 0) (j := 3) C inT12 (ci := 11) rfl (by decide) (rfl) rfl rfl wd_1102 dX12_forMany_24 (o' := 2) rfl ?_
  refine j_iload_n C 3 dX12_forMany_27 rfl ?_
  obtain ⟨g6, h⟩ := gd_some h
  refine j_iaload (N := 6) C (rfl) (inb_in g6) dX12_forMany_28 ?_
  by_cases c7 : (s3 2 a1.toNatClampNeg) = (2 : Int32)
  · replace h := it c7 h
    refine j_tabEq (tgt := 60) C dX12_forMany_29 c7 (by decide) (by decide) rfl (by decide) ?_
    exact j_sub [1, 0] rfl (b12_forMany_60 C e h)
  replace h := ie c7 h
  by_cases c8 : (s3 2 a1.toNatClampNeg) = (3 : Int32)
  · replace h := it c8 h
    refine j_tabEq (tgt := 81) C dX12_forMany_29 c8 (by decide) (by decide) rfl (by decide) ?_
    exact j_sub [1, 0] rfl (b12_forMany_81 C e h)
  replace h := ie c8 h
  by_cases c9 : (s3 2 a1.toNatClampNeg) = (4 : Int32)
  · replace h := it c9 h
    refine j_tabEq (tgt := 60) C dX12_forMany_29 c9 (by decide) (by decide) rfl (by decide) ?_
    exact j_sub [1, 0] rfl (b12_forMany_60 C e h)
  replace h := ie c9 h
  by_cases c10 : (s3 2 a1.toNatClampNeg) = (5 : Int32)
  · replace h := it c10 h
    refine j_tabEq (tgt := 74) C dX12_forMany_29 c10 (by decide) (by decide) rfl (by decide) ?_
    refine j_iload_n C 1 dX12_forMany_74 rfl ?_
    refine j_iconst (v := 2) C dX12_forMany_75 (by decide) ?_
    refine j_idiv C dX12_forMany_76 (by decide) ?_
    refine j_istore_n (L' := [(3, .int (r2 / (2 : Int32))), (2, .int r2), (0, .ref (wad (ωM α) 0)), (1, .int a1)]) C dX12_forMany_77 rfl rfl rfl ?_
    refine j_goto (tgt := 81) C dX12_forMany_78 (by decide) ?_
    exact j_sub [1, 0] rfl (b12_forMany_81 C e h)
  replace h := ie c10 h
  refine j_tableOut (tgt := 81) C dX12_forMany_29 (by have q0 := ne_ti c7 (z := 2) (by decide); have q1 := ne_ti c8 (z := 3) (by decide); have q2 := ne_ti c9 (z := 4) (by decide); have q3 := ne_ti c10 (z := 5) (by decide); omega) (by decide) ?_
  exact j_sub [1, 0] rfl (b12_forMany_81 C e h)
set_option maxRecDepth 10000 in
theorem b12_runs_111 {α : WA} {κ : KT} {fu : Nat} {σ' : M2} {x1 : Int32} {x2 : Int32} (C : Cx (ωM α) κ cX12_runs 4 "EveryoneWinsModel" (none)) (e : κ.2.2.2.2.2.2.2.2.2 = (none, σ')) {k7 : Int32 → M2 → Option (Unit × M2)} (hk7 : ∀ (x2' : Int32) (σ : M2), k7 x2' σ = some ((), σ') → J (ωM α) κ 5 4 7 [(0, .ref (wad (ωM α) 0)), (1, .int x1), (2, .int x2')] [] σ) {σ : M2} (h : F12_runs_111 fu k7 x1 x2 σ = some ((), σ')) : J (ωM α) κ 5 4 111 [(0, .ref (wad (ωM α) 0)), (1, .int x1), (2, .int x2)] [] σ := by
  unfold F12_runs_111 at h
  refine j_iinc (L' := [(2, .int (x2 + 1)), (0, .ref (wad (ωM α) 0)), (1, .int x1)]) C 2 dX12_runs_111 rfl rfl rfl rfl ?_
  refine j_goto (tgt := 7) C dX12_runs_114 (by decide) ?_
  exact j_sub [1, 2, 0] rfl (hk7 _ _ h)
set_option maxRecDepth 10000 in
theorem b12_runs_94 {α : WA} {κ : KT} {fu : Nat} {σ' : M2} {x1 : Int32} {x2 : Int32} {x3 : Int32} (C : Cx (ωM α) κ cX12_runs 4 "EveryoneWinsModel" (none)) (e : κ.2.2.2.2.2.2.2.2.2 = (none, σ')) {k7 : Int32 → M2 → Option (Unit × M2)} (hk7 : ∀ (x2' : Int32) (σ : M2), k7 x2' σ = some ((), σ') → J (ωM α) κ 5 4 7 [(0, .ref (wad (ωM α) 0)), (1, .int x1), (2, .int x2')] [] σ) {σ : M2} (h : F12_runs_94 fu k7 x1 x2 x3 σ = some ((), σ')) : J (ωM α) κ 5 4 94 [(0, .ref (wad (ωM α) 0)), (1, .int x1), (2, .int x2), (3, .int x3)] [] σ := by
  unfold F12_runs_94 at h
  refine j_aload_n C 0 dX12_runs_94 rfl ?_
  refine j_getr (o := 0) (j := 32) C inT12 (ci := 11) rfl (by decide) (rfl) rfl rfl wd_1131 dX12_runs_95 (o' := 20) rfl ?_
  refine j_iload_n C 3 dX12_runs_98 rfl ?_
  refine j_iload_n C 2 dX12_runs_99 rfl ?_
  obtain ⟨g1, h⟩ := gd_some h
  refine j_iastore (N := 8) C (rfl) (inb_in g1) dX12_runs_100 ?_
  refine j_aload_n C 0 dX12_runs_101 rfl ?_
  refine j_dup C dX12_runs_102 rfl ?_
  refine j_geti (o := 0) (j := 33) C inT12 (ci := 11) rfl (by decide) (rfl) rfl rfl wd_1132 dX12_runs_103 ?_
  refine j_iconst (v := 1) C dX12_runs_106 (by decide) ?_
  refine j_iadd C dX12_runs_107 ?_
  refine j_puti (o := 0) (j := 33) C inT12 tyX12_ok nmX12 (ci := 11) rfl (by decide) (rfl) rfl rfl rfl (tyX12_ok 33 (by decide)) rfl rfl wd_1132 dX12_runs_108 ?_
  exact j_sub [0, 1, 2] rfl (b12_runs_111 C e hk7 h)
set_option maxRecDepth 10000 in
theorem b12_runs_48 {α : WA} {κ : KT} {fu : Nat} {σ' : M2} {x1 : Int32} {x2 : Int32} {x3 : Int32} (C : Cx (ωM α) κ cX12_runs 4 "EveryoneWinsModel" (none)) (e : κ.2.2.2.2.2.2.2.2.2 = (none, σ')) {k7 : Int32 → M2 → Option (Unit × M2)} (hk7 : ∀ (x2' : Int32) (σ : M2), k7 x2' σ = some ((), σ') → J (ωM α) κ 5 4 7 [(0, .ref (wad (ωM α) 0)), (1, .int x1), (2, .int x2')] [] σ) {σ : M2} (h : F12_runs_48 fu k7 x1 x2 x3 σ = some ((), σ')) : J (ωM α) κ 5 4 48 [(0, .ref (wad (ωM α) 0)), (1, .int x1), (2, .int x2), (3, .int x3)] [] σ := by
  unfold F12_runs_48 at h
  refine wl1_ind (fun x3 σ => J (ωM α) κ 5 4 48 [(0, .ref (wad (ωM α) 0)), (1, .int x1), (2, .int x2), (3, .int x3)] [] σ) ?_ fu x3 σ h
  intro k48 hk48 x3 σ h
  try dsimp only at h
  show J (ωM α) κ 5 4 48 [(0, .ref (wad (ωM α) 0)), (1, .int x1), (2, .int x2), (3, .int x3)] [] σ
  refine j_iload_n C 3 dX12_runs_48 rfl ?_
  refine j_if_le (tgt := 94) C dX12_runs_49 (by decide) (fun c1 => ?_) (fun c1 => ?_)
  · replace h := it c1 h
    exact (b12_runs_94 C e hk7 h)
  · replace h := ie c1 h
    refine j_aload_n C 0 dX12_runs_52 rfl ?_
    refine j_getr (o := 0) (j := 31) C inT12 (ci := 11) rfl (by decide) (rfl) rfl rfl wd_1130 dX12_runs_53 (o' := 19) rfl ?_
    refine j_aload_n C 0 dX12_runs_56 rfl ?_
    refine j_getr (o := 0) (j := 32) C inT12 (ci := 11) rfl (by decide) (rfl) rfl rfl wd_1131 dX12_runs_57 (o' := 20) rfl ?_
    refine j_iload_n C 3 dX12_runs_60 rfl ?_
    refine j_iconst (v := 1) C dX12_runs_61 (by decide) ?_
    refine j_isub C dX12_runs_62 ?_
    obtain ⟨g2, h⟩ := gd_some h
    refine j_iaload (N := 8) C (rfl) (inb_in g2) dX12_runs_63 ?_
    obtain ⟨g3, h⟩ := gd_some h
    refine j_iaload (N := 8) C (rfl) (inb_in g3) dX12_runs_64 ?_
    refine j_aload_n C 0 dX12_runs_65 rfl ?_
    refine j_getr (o := 0) (j := 31) C inT12 (ci := 11) rfl (by decide) (rfl) rfl rfl wd_1130 dX12_runs_66 (o' := 19) rfl ?_
    refine j_iload_n C 2 dX12_runs_69 rfl ?_
    obtain ⟨g4, h⟩ := gd_some h
    refine j_iaload (N := 8) C (rfl) (inb_in g4) dX12_runs_70 ?_
    refine j_icmp_ge (tgt := 94) C dX12_runs_71 (by decide) (fun c5 => ?_) (fun c5 => ?_)
    · replace h := it c5 h
      exact (b12_runs_94 C e hk7 h)
    · replace h := ie c5 h
      refine j_aload_n C 0 dX12_runs_74 rfl ?_
      refine j_getr (o := 0) (j := 32) C inT12 (ci := 11) rfl (by decide) (rfl) rfl rfl wd_1131 dX12_runs_75 (o' := 20) rfl ?_
      refine j_iload_n C 3 dX12_runs_78 rfl ?_
      refine j_aload_n C 0 dX12_runs_79 rfl ?_
      refine j_getr (o := 0) (j := 32) C inT12 (ci := 11) rfl (by decide) (rfl) rfl rfl wd_1131 dX12_runs_80 (o' := 20) rfl ?_
      refine j_iload_n C 3 dX12_runs_83 rfl ?_
      refine j_iconst (v := 1) C dX12_runs_84 (by decide) ?_
      refine j_isub C dX12_runs_85 ?_
      refine j_iaload (N := 8) C (rfl) (inb_in g2) dX12_runs_86 ?_
      obtain ⟨g6, h⟩ := gd_some h
      refine j_iastore (N := 8) C (rfl) (inb_in g6) dX12_runs_87 ?_
      refine j_iinc (L' := [(3, .int (x3 + (-1))), (0, .ref (wad (ωM α) 0)), (1, .int x1), (2, .int x2)]) C 3 dX12_runs_88 rfl rfl rfl rfl ?_
      refine j_goto (tgt := 48) C dX12_runs_91 (by decide) ?_
      exact j_sub [1, 2, 3, 0] rfl (hk48 _ _ h)
set_option maxRecDepth 10000 in
theorem b12_runs_7 {α : WA} {κ : KT} {fu : Nat} {σ' : M2} {x1 : Int32} {x2 : Int32} (C : Cx (ωM α) κ cX12_runs 4 "EveryoneWinsModel" (none)) (e : κ.2.2.2.2.2.2.2.2.2 = (none, σ'))  {σ : M2} (h : F12_runs_7 fu x1 x2 σ = some ((), σ')) : J (ωM α) κ 5 4 7 [(0, .ref (wad (ωM α) 0)), (1, .int x1), (2, .int x2)] [] σ := by
  unfold F12_runs_7 at h
  refine wl1_ind (fun x2 σ => J (ωM α) κ 5 4 7 [(0, .ref (wad (ωM α) 0)), (1, .int x1), (2, .int x2)] [] σ) ?_ fu x2 σ h
  intro k7 hk7 x2 σ h
  try dsimp only at h
  show J (ωM α) κ 5 4 7 [(0, .ref (wad (ωM α) 0)), (1, .int x1), (2, .int x2)] [] σ
  refine j_iload_n C 2 dX12_runs_7 rfl ?_
  refine j_aload_n C 0 dX12_runs_8 rfl ?_
  refine j_geti (o := 0) (j := 0) C inT12 (ci := 11) rfl (by decide) (rfl) rfl rfl wd_1099 dX12_runs_9 ?_
  refine j_icmp_ge (tgt := 117) C dX12_runs_12 (by decide) (fun c1 => ?_) (fun c1 => ?_)
  · replace h := it c1 h
    obtain ⟨-, hs⟩ := s2_inj h
    subst hs
    exact j_vret C e dX12_runs_117
  · replace h := ie c1 h
    refine j_aload_n C 0 dX12_runs_15 rfl ?_
    refine j_getr (o := 0) (j := 5) C inT12 (ci := 11) rfl (by decide) (rfl) rfl rfl wd_1104 dX12_runs_16 (o' := 4) rfl ?_
    refine j_iconst (v := 2) C dX12_runs_19 (by decide) ?_
    refine j_iload_n C 1 dX12_runs_20 rfl ?_
    refine j_imul C dX12_runs_21 ?_
    obtain ⟨g2, h⟩ := gd_some h
    refine j_iaload (N := 12) C (rfl) (inb_in g2) dX12_runs_22 ?_
    refine j_iload_n C 2 dX12_runs_23 rfl ?_
    refine j_ishr C dX12_runs_24 ?_
    refine j_iconst (v := 1) C dX12_runs_25 (by decide) ?_
    refine j_iand C dX12_runs_26 ?_
    refine j_iconst (v := 1) C dX12_runs_27 (by decide) ?_
    refine j_icmp_ne (tgt := 111) C dX12_runs_28 (by decide) (fun c3 => ?_) (fun c3 => ?_)
    · replace h := ie c3 h
      exact (b12_runs_111 C e hk7 h)
    · replace h := it c3 h
      refine j_aload_n C 0 dX12_runs_31 rfl ?_
      refine j_getr (o := 0) (j := 31) C inT12 (ci := 11) rfl (by decide) (rfl) rfl rfl wd_1130 dX12_runs_32 (o' := 19) rfl ?_
      refine j_iload_n C 2 dX12_runs_35 rfl ?_
      refine j_aload_n C 0 dX12_runs_36 rfl ?_
      refine j_iload_n C 2 dX12_runs_37 rfl ?_
      refine j_iload_n C 1 dX12_runs_38 rfl ?_
      obtain ⟨r4, s5, hc6, h⟩ := bnd_some h
      refine k_V (v := some (.int r4)) C vb_X12_scoreOf (ci := 11) (T := TX12) (N := 45) rfl (by decide) (c12_scoreOf _ hc6) rfl (by decide) wd_1320 (rfl) rfl dX12_runs_39 ?_
      show J (ωM α) κ _ _ 42 _ [.int r4, .int x2, .ref (wad (ωM α) 19)] s5
      obtain ⟨g7, h⟩ := gd_some h
      refine j_iastore (N := 8) C (rfl) (inb_in g7) dX12_runs_42 ?_
      refine j_aload_n C 0 dX12_runs_43 rfl ?_
      refine j_geti (o := 0) (j := 33) C inT12 (ci := 11) rfl (by decide) (rfl) rfl rfl wd_1132 dX12_runs_44 ?_
      refine j_istore_n (L' := [(3, .int ((up s5 19 x2.toNatClampNeg r4) 0 33)), (0, .ref (wad (ωM α) 0)), (1, .int x1), (2, .int x2)]) C dX12_runs_47 rfl rfl rfl ?_
      exact j_sub [1, 2, 3, 0] rfl (b12_runs_48 C e hk7 h)
set_option maxRecDepth 10000 in
theorem c12_runs (l : Launch) {α : WA} {fu : Nat} {a1 : Int32} {σ σ' : M2}  (h : F12_runs fu a1 σ = some ((), σ')) : Ct l (ωM α) yX12_runs cX12_runs 4 (none) 5 [.ref (wad (ωM α) 0), .int a1] σ (none) σ' := by
  unfold F12_runs at h
  refine Ct.of (own := "EveryoneWinsModel") (L := [(0, .ref (wad (ωM α) 0)), (1, .int a1)]) (by decide +kernel) rfl rfl rfl (fun κ hl e C => ?_)
  show J (ωM α) κ 5 4 0 [(0, .ref (wad (ωM α) 0)), (1, .int a1)] [] σ
  refine j_aload_n C 0 dX12_runs_0 rfl ?_
  refine j_iconst (v := 0) C dX12_runs_1 (by decide) ?_
  refine j_puti (o := 0) (j := 33) C inT12 tyX12_ok nmX12 (ci := 11) rfl (by decide) (rfl) rfl rfl rfl (tyX12_ok 33 (by decide)) rfl rfl wd_1132 dX12_runs_2 ?_
  refine j_iconst (v := 0) C dX12_runs_5 (by decide) ?_
  refine j_istore_n (L' := [(2, .int (0 : Int32)), (0, .ref (wad (ωM α) 0)), (1, .int a1)]) C dX12_runs_6 rfl rfl rfl ?_
  exact j_sub [1, 2, 0] rfl (b12_runs_7 C e h)
set_option maxRecDepth 10000 in
theorem b12_begins_2 {α : WA} {κ : KT} {fu : Nat} {σ' : M2} {x1 : Int32} (C : Cx (ωM α) κ cX12_begins 2 "EveryoneWinsModel" (none)) (e : κ.2.2.2.2.2.2.2.2.2 = (none, σ'))  {σ : M2} (h : F12_begins_2 fu x1 σ = some ((), σ')) : J (ωM α) κ 1 2 2 [(0, .ref (wad (ωM α) 0)), (1, .int x1)] [] σ := by
  unfold F12_begins_2 at h
  refine wl1_ind (fun x1 σ => J (ωM α) κ 1 2 2 [(0, .ref (wad (ωM α) 0)), (1, .int x1)] [] σ) ?_ fu x1 σ h
  intro k2 hk2 x1 σ h
  try dsimp only at h
  show J (ωM α) κ 1 2 2 [(0, .ref (wad (ωM α) 0)), (1, .int x1)] [] σ
  refine j_iload_n C 1 dX12_begins_2 rfl ?_
  refine j_bipush (v := 8) C dX12_begins_3 (by decide) ?_
  refine j_icmp_ge (tgt := 21) C dX12_begins_5 (by decide) (fun c1 => ?_) (fun c1 => ?_)
  · replace h := it c1 h
    obtain ⟨-, hs⟩ := s2_inj h
    subst hs
    exact j_vret C e dX12_begins_21
  · replace h := ie c1 h
    refine j_aload_n C 0 dX12_begins_8 rfl ?_
    refine j_getr (o := 0) (j := 30) C inT12 (ci := 11) rfl (by decide) (rfl) rfl rfl wd_1129 dX12_begins_9 (o' := 18) rfl ?_
    refine j_iload_n C 1 dX12_begins_12 rfl ?_
    refine j_iconst (v := 0) C dX12_begins_13 (by decide) ?_
    obtain ⟨g2, h⟩ := gd_some h
    refine j_iastore (N := 8) C (rfl) (inb_in g2) dX12_begins_14 ?_
    refine j_iinc (L' := [(1, .int (x1 + 1)), (0, .ref (wad (ωM α) 0))]) C 1 dX12_begins_15 rfl rfl rfl rfl ?_
    refine j_goto (tgt := 2) C dX12_begins_18 (by decide) ?_
    exact j_sub [1, 0] rfl (hk2 _ _ h)
set_option maxRecDepth 10000 in
theorem c12_begins (l : Launch) {α : WA} {fu : Nat}  {σ σ' : M2}  (h : F12_begins fu σ = some ((), σ')) : Ct l (ωM α) yX12_begins cX12_begins 2 (none) 1 [.ref (wad (ωM α) 0)] σ (none) σ' := by
  unfold F12_begins at h
  refine Ct.of (own := "EveryoneWinsModel") (L := [(0, .ref (wad (ωM α) 0))]) (by decide +kernel) rfl rfl rfl (fun κ hl e C => ?_)
  show J (ωM α) κ 1 2 0 [(0, .ref (wad (ωM α) 0))] [] σ
  refine j_iconst (v := 0) C dX12_begins_0 (by decide) ?_
  refine j_istore_n (L' := [(1, .int (0 : Int32)), (0, .ref (wad (ωM α) 0))]) C dX12_begins_1 rfl rfl rfl ?_
  exact j_sub [1, 0] rfl (b12_begins_2 C e h)
set_option maxRecDepth 10000 in
theorem c12_comes (l : Launch) {α : WA} {fu : Nat} {a1 : Int32} {a2 : Int32} {σ σ' : M2} {v : Int32}  (h : F12_comes fu a1 a2 σ = some (v, σ')) : Ct l (ωM α) yX12_comes cX12_comes 3 (some FieldType.int) 6 [.ref (wad (ωM α) 0), .int a1, .int a2] σ (some (.int v)) σ' := by
  unfold F12_comes at h
  refine Ct.of (own := "EveryoneWinsModel") (L := [(0, .ref (wad (ωM α) 0)), (1, .int a1), (2, .int a2)]) (by decide +kernel) rfl rfl rfl (fun κ hl e C => ?_)
  show J (ωM α) κ 6 3 0 [(0, .ref (wad (ωM α) 0)), (1, .int a1), (2, .int a2)] [] σ
  refine j_aload_n C 0 dX12_comes_0 rfl ?_
  refine j_iload_n C 1 dX12_comes_1 rfl ?_
  obtain ⟨r1, s2, hc3, h⟩ := bnd_some h
  refine k_V (v := some (.int r1)) C vb_X12_isRace (ci := 11) (T := TX12) (N := 45) rfl (by decide) (c12_isRace _ hc3) rfl (by decide) wd_1271 (rfl) rfl dX12_comes_2 ?_
  show J (ωM α) κ _ _ 5 _ [.int r1] s2
  refine j_if_ne (tgt := 11) C dX12_comes_5 (by decide) (fun c4 => ?_) (fun c4 => ?_)
  · replace h := ie c4 h
    refine j_iload_n C 2 dX12_comes_11 rfl ?_
    refine j_iconst (v := 0) C dX12_comes_12 (by decide) ?_
    refine j_bipush (v := 7) C dX12_comes_13 (by decide) ?_
    obtain ⟨r5, s6, hc7, h⟩ := bnd_some h
    refine k_S (v := some (.int r5)) C sb_X12_in (c12_in _ hc7) rfl (by decide) wd_1060 rfl dX12_comes_15 ?_
    show J (ωM α) κ _ _ 18 _ [.int r5] s6
    refine j_if_ne (tgt := 24) C dX12_comes_18 (by decide) (fun c8 => ?_) (fun c8 => ?_)
    · replace h := ie c8 h
      refine j_aload_n C 0 dX12_comes_24 rfl ?_
      obtain ⟨r9, s10, hc11, h⟩ := bnd_some h
      refine k_V (v := none) C vb_X12_begins (ci := 11) (T := TX12) (N := 45) rfl (by decide) (c12_begins _ hc11) rfl (by decide) wd_1312 (rfl) rfl dX12_comes_25 ?_
      show J (ωM α) κ _ _ 28 _ [] s10
      refine j_aload_n C 0 dX12_comes_28 rfl ?_
      refine j_iload_n C 1 dX12_comes_29 rfl ?_
      obtain ⟨r12, s13, hc14, h⟩ := bnd_some h
      refine k_V (v := none) C vb_X12_runs (ci := 11) (T := TX12) (N := 45) rfl (by decide) (c12_runs _ hc14) rfl (by decide) wd_1316 (rfl) rfl dX12_comes_30 ?_
      show J (ωM α) κ _ _ 33 _ [] s13
      refine j_iload_n C 2 dX12_comes_33 rfl ?_
      refine j_aload_n C 0 dX12_comes_34 rfl ?_
      refine j_geti (o := 0) (j := 33) C inT12 (ci := 11) rfl (by decide) (rfl) rfl rfl wd_1132 dX12_comes_35 ?_
      refine j_icmp_ge (tgt := 50) C dX12_comes_38 (by decide) (fun c15 => ?_) (fun c15 => ?_)
      · replace h := it c15 h
        refine j_iconst (v := -1) C dX12_comes_50 (by decide) ?_
        obtain ⟨hv, hs⟩ := s2_inj h
        subst hv
        subst hs
        exact j_iret C e dX12_comes_51
      · replace h := ie c15 h
        refine j_aload_n C 0 dX12_comes_41 rfl ?_
        refine j_getr (o := 0) (j := 32) C inT12 (ci := 11) rfl (by decide) (rfl) rfl rfl wd_1131 dX12_comes_42 (o' := 20) rfl ?_
        refine j_iload_n C 2 dX12_comes_45 rfl ?_
        obtain ⟨g16, h⟩ := gd_some h
        refine j_iaload (N := 8) C (rfl) (inb_in g16) dX12_comes_46 ?_
        refine j_goto (tgt := 51) C dX12_comes_47 (by decide) ?_
        obtain ⟨hv, hs⟩ := s2_inj h
        subst hv
        subst hs
        exact j_iret C e dX12_comes_51
    · replace h := it c8 h
      refine j_bipush (v := -7) C dX12_comes_21 (by decide) ?_
      obtain ⟨hv, hs⟩ := s2_inj h
      subst hv
      subst hs
      exact j_iret C e dX12_comes_23
  · replace h := it c4 h
    refine j_bipush (v := -6) C dX12_comes_8 (by decide) ?_
    obtain ⟨hv, hs⟩ := s2_inj h
    subst hv
    subst hs
    exact j_iret C e dX12_comes_10
set_option maxRecDepth 10000 in
theorem c12_does (l : Launch) {α : WA} {fu : Nat} {a1 : Int32} {a2 : Int32} {σ σ' : M2} {v : Int32}  (h : F12_does fu a1 a2 σ = some (v, σ')) : Ct l (ωM α) yX12_does cX12_does 3 (some FieldType.int) 5 [.ref (wad (ωM α) 0), .int a1, .int a2] σ (some (.int v)) σ' := by
  unfold F12_does at h
  refine Ct.of (own := "EveryoneWinsModel") (L := [(0, .ref (wad (ωM α) 0)), (1, .int a1), (2, .int a2)]) (by decide +kernel) rfl rfl rfl (fun κ hl e C => ?_)
  show J (ωM α) κ 5 3 0 [(0, .ref (wad (ωM α) 0)), (1, .int a1), (2, .int a2)] [] σ
  refine j_aload_n C 0 dX12_does_0 rfl ?_
  refine j_iload_n C 1 dX12_does_1 rfl ?_
  obtain ⟨r1, s2, hc3, h⟩ := bnd_some h
  refine k_V (v := some (.int r1)) C vb_X12_isChild (ci := 11) (T := TX12) (N := 45) rfl (by decide) (c12_isChild _ hc3) rfl (by decide) wd_1247 (rfl) rfl dX12_does_2 ?_
  show J (ωM α) κ _ _ 5 _ [.int r1] s2
  refine j_if_ne (tgt := 12) C dX12_does_5 (by decide) (fun c4 => ?_) (fun c4 => ?_)
  · replace h := ie c4 h
    refine j_aload_n C 0 dX12_does_12 rfl ?_
    refine j_iload_n C 2 dX12_does_13 rfl ?_
    obtain ⟨r5, s6, hc7, h⟩ := bnd_some h
    refine k_V (v := some (.int r5)) C vb_X12_isRace (ci := 11) (T := TX12) (N := 45) rfl (by decide) (c12_isRace _ hc7) rfl (by decide) wd_1271 (rfl) rfl dX12_does_14 ?_
    show J (ωM α) κ _ _ 17 _ [.int r5] s6
    refine j_if_ne (tgt := 24) C dX12_does_17 (by decide) (fun c8 => ?_) (fun c8 => ?_)
    · replace h := ie c8 h
      refine j_aload_n C 0 dX12_does_24 rfl ?_
      obtain ⟨r9, s10, hc11, h⟩ := bnd_some h
      refine k_V (v := none) C vb_X12_begins (ci := 11) (T := TX12) (N := 45) rfl (by decide) (c12_begins _ hc11) rfl (by decide) wd_1312 (rfl) rfl dX12_does_25 ?_
      show J (ωM α) κ _ _ 28 _ [] s10
      refine j_aload_n C 0 dX12_does_28 rfl ?_
      refine j_iload_n C 1 dX12_does_29 rfl ?_
      refine j_iload_n C 2 dX12_does_30 rfl ?_
      obtain ⟨r12, s13, hc14, h⟩ := bnd_some h
      refine k_V (v := some (.int r12)) C vb_X12_scoreOf (ci := 11) (T := TX12) (N := 45) rfl (by decide) (c12_scoreOf _ hc14) rfl (by decide) wd_1320 (rfl) rfl dX12_does_31 ?_
      show J (ωM α) κ _ _ 34 _ [.int r12] s13
      obtain ⟨hv, hs⟩ := s2_inj h
      subst hv
      subst hs
      exact j_iret C e dX12_does_34
    · replace h := it c8 h
      refine j_sipush (v := -1006) C dX12_does_20 (by decide) ?_
      obtain ⟨hv, hs⟩ := s2_inj h
      subst hv
      subst hs
      exact j_iret C e dX12_does_23
  · replace h := it c4 h
    refine j_sipush (v := -1005) C dX12_does_8 (by decide) ?_
    obtain ⟨hv, hs⟩ := s2_inj h
    subst hv
    subst hs
    exact j_iret C e dX12_does_11
set_option maxRecDepth 10000 in
theorem b12_raceOf_20 {α : WA} {κ : KT} {fu : Nat} {σ' : M2} {x1 : Int32} {x2 : Int32} {x3 : Int32} (C : Cx (ωM α) κ cX12_raceOf 5 "EveryoneWinsModel" (none)) (e : κ.2.2.2.2.2.2.2.2.2 = (none, σ'))  {σ : M2} (h : F12_raceOf_20 fu x1 x2 x3 σ = some ((), σ')) : J (ωM α) κ 6 5 20 [(0, .ref (wad (ωM α) 0)), (1, .int x1), (2, .int x2), (3, .int x3)] [] σ := by
  unfold F12_raceOf_20 at h
  refine wl1_ind (fun x3 σ => J (ωM α) κ 6 5 20 [(0, .ref (wad (ωM α) 0)), (1, .int x1), (2, .int x2), (3, .int x3)] [] σ) ?_ fu x3 σ h
  intro k20 hk20 x3 σ h
  try dsimp only at h
  show J (ωM α) κ 6 5 20 [(0, .ref (wad (ωM α) 0)), (1, .int x1), (2, .int x2), (3, .int x3)] [] σ
  refine j_iload_n C 3 dX12_raceOf_20 rfl ?_
  refine j_iload_n C 2 dX12_raceOf_21 rfl ?_
  refine j_icmp_ge (tgt := 97) C dX12_raceOf_22 (by decide) (fun c1 => ?_) (fun c1 => ?_)
  · replace h := it c1 h
    obtain ⟨-, hs⟩ := s2_inj h
    subst hs
    exact j_vret C e dX12_raceOf_97
  · replace h := ie c1 h
    refine j_aload_n C 0 dX12_raceOf_25 rfl ?_
    refine j_getr (o := 0) (j := 32) C inT12 (ci := 11) rfl (by decide) (rfl) rfl rfl wd_1131 dX12_raceOf_26 (o' := 20) rfl ?_
    refine j_iload_n C 3 dX12_raceOf_29 rfl ?_
    obtain ⟨g2, h⟩ := gd_some h
    refine j_iaload (N := 8) C (rfl) (inb_in g2) dX12_raceOf_30 ?_
    refine j_istore (L' := [(4, .int (σ 20 x3.toNatClampNeg)), (0, .ref (wad (ωM α) 0)), (1, .int x1), (2, .int x2), (3, .int x3)]) C dX12_raceOf_31 rfl rfl ?_
    refine j_aload_n C 1 dX12_raceOf_33 rfl ?_
    refine j_dup C dX12_raceOf_34 rfl ?_
    refine j_geti (o := 0) (j := 34) C inT12 (ci := 11) rfl (by decide) (rfl) rfl rfl wd_1133 dX12_raceOf_35 ?_
    refine j_aload_n C 1 dX12_raceOf_38 rfl ?_
    refine j_iconst (v := 1) C dX12_raceOf_39 (by decide) ?_
    refine j_iload C 0 dX12_raceOf_40 rfl ?_
    refine j_iload_n C 2 dX12_raceOf_42 rfl ?_
    refine j_aload_n C 1 dX12_raceOf_43 rfl ?_
    refine j_getr (o := 0) (j := 30) C inT12 (ci := 11) rfl (by decide) (rfl) rfl rfl wd_1129 dX12_raceOf_44 (o' := 18) rfl ?_
    refine j_iload C 0 dX12_raceOf_47 rfl ?_
    obtain ⟨g3, h⟩ := gd_some h
    refine j_iaload (N := 8) C (rfl) (inb_in g3) dX12_raceOf_49 ?_
    obtain ⟨r4, s5, hc6, h⟩ := bnd_some h
    refine k_V (v := some (.int r4)) C vb_X12_asksOf (ci := 11) (T := TX12) (N := 45) rfl (by decide) (c12_asksOf _ hc6) rfl (by decide) wd_1275 (rfl) rfl dX12_raceOf_50 ?_
    show J (ωM α) κ _ _ 53 _ [.int r4, .int (σ 0 34), .ref (wad (ωM α) 0)] s5
    refine j_iadd C dX12_raceOf_53 ?_
    refine j_puti (o := 0) (j := 34) C inT12 tyX12_ok nmX12 (ci := 11) rfl (by decide) (rfl) rfl rfl rfl (tyX12_ok 34 (by decide)) rfl rfl wd_1133 dX12_raceOf_54 ?_
    refine j_aload_n C 1 dX12_raceOf_57 rfl ?_
    refine j_getr (o := 0) (j := 30) C inT12 (ci := 11) rfl (by decide) (rfl) rfl rfl wd_1129 dX12_raceOf_58 (o' := 18) rfl ?_
    refine j_iload C 0 dX12_raceOf_61 rfl ?_
    refine j_dup2 C dX12_raceOf_63 rfl rfl ?_
    refine j_iaload (N := 8) C (rfl) (inb_in g3) dX12_raceOf_64 ?_
    refine j_iconst (v := 1) C dX12_raceOf_65 (by decide) ?_
    refine j_iadd C dX12_raceOf_66 ?_
    refine j_iastore (N := 8) C (rfl) (inb_in g3) dX12_raceOf_67 ?_
    refine j_aload_n C 1 dX12_raceOf_68 rfl ?_
    refine j_getr (o := 0) (j := 37) C inT12 (ci := 11) rfl (by decide) (rfl) rfl rfl wd_1136 dX12_raceOf_69 (o' := 21) rfl ?_
    refine j_iload_n C 2 dX12_raceOf_72 rfl ?_
    refine j_dup2 C dX12_raceOf_73 rfl rfl ?_
    obtain ⟨g7, h⟩ := gd_some h
    refine j_iaload (N := 6) C (rfl) (inb_in g7) dX12_raceOf_74 ?_
    refine j_iconst (v := 1) C dX12_raceOf_75 (by decide) ?_
    refine j_iload C 0 dX12_raceOf_76 rfl ?_
    refine j_ishl C dX12_raceOf_78 ?_
    refine j_ior C dX12_raceOf_79 ?_
    refine j_iastore (N := 6) C (rfl) (inb_in g7) dX12_raceOf_80 ?_
    refine j_aload_n C 1 dX12_raceOf_81 rfl ?_
    refine j_dup C dX12_raceOf_82 rfl ?_
    refine j_geti (o := 0) (j := 36) C inT12 (ci := 11) rfl (by decide) (rfl) rfl rfl wd_1135 dX12_raceOf_83 ?_
    refine j_iconst (v := 1) C dX12_raceOf_86 (by decide) ?_
    refine j_iadd C dX12_raceOf_87 ?_
    refine j_puti (o := 0) (j := 36) C inT12 tyX12_ok nmX12 (ci := 11) rfl (by decide) (rfl) rfl rfl rfl (tyX12_ok 36 (by decide)) rfl rfl wd_1135 dX12_raceOf_88 ?_
    refine j_iinc (L' := [(3, .int (x3 + 1)), (4, .int (σ 20 x3.toNatClampNeg)), (0, .ref (wad (ωM α) 0)), (1, .int x1), (2, .int x2)]) C 4 dX12_raceOf_91 rfl rfl rfl rfl ?_
    refine j_goto (tgt := 20) C dX12_raceOf_94 (by decide) ?_
    exact j_sub [2, 3, 4, 0] rfl (hk20 _ _ h)
set_option maxRecDepth 10000 in
theorem c12_raceOf (l : Launch) {α : WA} {fu : Nat} {a1 : Int32} {σ σ' : M2}  (h : F12_raceOf fu a1 σ = some ((), σ')) : Ct l (ωM α) yX12_raceOf cX12_raceOf 5 (none) 6 [.ref (wad (ωM α) 0), .int a1] σ (none) σ' := by
  unfold F12_raceOf at h
  refine Ct.of (own := "EveryoneWinsModel") (L := [(0, .ref (wad (ωM α) 0)), (1, .int a1)]) (by decide +kernel) rfl rfl rfl (fun κ hl e C => ?_)
  show J (ωM α) κ 6 5 0 [(0, .ref (wad (ωM α) 0)), (1, .int a1)] [] σ
  refine j_aload_n C 0 dX12_raceOf_0 rfl ?_
  refine j_iload_n C 1 dX12_raceOf_1 rfl ?_
  obtain ⟨r1, s2, hc3, h⟩ := bnd_some h
  refine k_V (v := none) C vb_X12_runs (ci := 11) (T := TX12) (N := 45) rfl (by decide) (c12_runs _ hc3) rfl (by decide) wd_1316 (rfl) rfl dX12_raceOf_2 ?_
  show J (ωM α) κ _ _ 5 _ [] s2
  refine j_aload_n C 0 dX12_raceOf_5 rfl ?_
  refine j_getr (o := 0) (j := 37) C inT12 (ci := 11) rfl (by decide) (rfl) rfl rfl wd_1136 dX12_raceOf_6 (o' := 21) rfl ?_
  refine j_iload_n C 1 dX12_raceOf_9 rfl ?_
  refine j_iconst (v := 0) C dX12_raceOf_10 (by decide) ?_
  obtain ⟨g4, h⟩ := gd_some h
  refine j_iastore (N := 6) C (rfl) (inb_in g4) dX12_raceOf_11 ?_
  refine j_aload_n C 0 dX12_raceOf_12 rfl ?_
  refine j_iload_n C 1 dX12_raceOf_13 rfl ?_
  obtain ⟨r5, s6, hc7, h⟩ := bnd_some h
  refine k_V (v := some (.int r5)) C vb_X12_forMany (ci := 11) (T := TX12) (N := 45) rfl (by decide) (c12_forMany _ hc7) rfl (by decide) wd_1340 (rfl) rfl dX12_raceOf_14 ?_
  show J (ωM α) κ _ _ 17 _ [.int r5] s6
  refine j_istore_n (L' := [(2, .int r5), (0, .ref (wad (ωM α) 0)), (1, .int a1)]) C dX12_raceOf_17 rfl rfl rfl ?_
  refine j_iconst (v := 0) C dX12_raceOf_18 (by decide) ?_
  refine j_istore_n (L' := [(3, .int (0 : Int32)), (2, .int r5), (0, .ref (wad (ωM α) 0)), (1, .int a1)]) C dX12_raceOf_19 rfl rfl rfl ?_
  exact j_sub [2, 3, 1, 0] rfl (b12_raceOf_20 C e h)
set_option maxRecDepth 10000 in
theorem b12_goes_104 {α : WA} {κ : KT} {fu : Nat} {σ' : M2} {x1 : Int32} (C : Cx (ωM α) κ cX12_goes 2 "EveryoneWinsModel" (none)) (e : κ.2.2.2.2.2.2.2.2.2 = (none, σ')) {k60 : Int32 → M2 → Option (Unit × M2)} (hk60 : ∀ (x1' : Int32) (σ : M2), k60 x1' σ = some ((), σ') → J (ωM α) κ 7 2 60 [(0, .ref (wad (ωM α) 0)), (1, .int x1')] [] σ) {σ : M2} (h : F12_goes_104 fu k60 x1 σ = some ((), σ')) : J (ωM α) κ 7 2 104 [(0, .ref (wad (ωM α) 0)), (1, .int x1)] [] σ := by
  unfold F12_goes_104 at h
  refine j_iinc (L' := [(1, .int (x1 + 1)), (0, .ref (wad (ωM α) 0))]) C 1 dX12_goes_104 rfl rfl rfl rfl ?_
  refine j_goto (tgt := 60) C dX12_goes_107 (by decide) ?_
  exact j_sub [1, 0] rfl (hk60 _ _ h)
set_option maxRecDepth 10000 in
theorem b12_goes_60 {α : WA} {κ : KT} {fu : Nat} {σ' : M2} {x1 : Int32} (C : Cx (ωM α) κ cX12_goes 2 "EveryoneWinsModel" (none)) (e : κ.2.2.2.2.2.2.2.2.2 = (none, σ'))  {σ : M2} (h : F12_goes_60 fu x1 σ = some ((), σ')) : J (ωM α) κ 7 2 60 [(0, .ref (wad (ωM α) 0)), (1, .int x1)] [] σ := by
  unfold F12_goes_60 at h
  refine wl1_ind (fun x1 σ => J (ωM α) κ 7 2 60 [(0, .ref (wad (ωM α) 0)), (1, .int x1)] [] σ) ?_ fu x1 σ h
  intro k60 hk60 x1 σ h
  try dsimp only at h
  show J (ωM α) κ 7 2 60 [(0, .ref (wad (ωM α) 0)), (1, .int x1)] [] σ
  refine j_iload_n C 1 dX12_goes_60 rfl ?_
  refine j_aload_n C 0 dX12_goes_61 rfl ?_
  refine j_geti (o := 0) (j := 0) C inT12 (ci := 11) rfl (by decide) (rfl) rfl rfl wd_1099 dX12_goes_62 ?_
  refine j_icmp_ge (tgt := 110) C dX12_goes_65 (by decide) (fun c1 => ?_) (fun c1 => ?_)
  · replace h := it c1 h
    obtain ⟨-, hs⟩ := s2_inj h
    subst hs
    exact j_vret C e dX12_goes_110
  · replace h := ie c1 h
    refine j_aload_n C 0 dX12_goes_68 rfl ?_
    refine j_getr (o := 0) (j := 30) C inT12 (ci := 11) rfl (by decide) (rfl) rfl rfl wd_1129 dX12_goes_69 (o' := 18) rfl ?_
    refine j_iload_n C 1 dX12_goes_72 rfl ?_
    obtain ⟨g2, h⟩ := gd_some h
    refine j_iaload (N := 8) C (rfl) (inb_in g2) dX12_goes_73 ?_
    refine j_if_ne (tgt := 104) C dX12_goes_74 (by decide) (fun c3 => ?_) (fun c3 => ?_)
    · replace h := ie c3 h
      exact (b12_goes_104 C e hk60 h)
    · replace h := it c3 h
      refine j_aload_n C 0 dX12_goes_77 rfl ?_
      refine j_dup C dX12_goes_78 rfl ?_
      refine j_geti (o := 0) (j := 35) C inT12 (ci := 11) rfl (by decide) (rfl) rfl rfl wd_1134 dX12_goes_79 ?_
      refine j_iconst (v := 1) C dX12_goes_82 (by decide) ?_
      refine j_iadd C dX12_goes_83 ?_
      refine j_puti (o := 0) (j := 35) C inT12 tyX12_ok nmX12 (ci := 11) rfl (by decide) (rfl) rfl rfl rfl (tyX12_ok 35 (by decide)) rfl rfl wd_1134 dX12_goes_84 ?_
      refine j_aload_n C 0 dX12_goes_87 rfl ?_
      refine j_dup C dX12_goes_88 rfl ?_
      refine j_geti (o := 0) (j := 34) C inT12 (ci := 11) rfl (by decide) (rfl) rfl rfl wd_1133 dX12_goes_89 ?_
      refine j_aload_n C 0 dX12_goes_92 rfl ?_
      refine j_iconst (v := 2) C dX12_goes_93 (by decide) ?_
      refine j_iload_n C 1 dX12_goes_94 rfl ?_
      refine j_iconst (v := -1) C dX12_goes_95 (by decide) ?_
      refine j_iconst (v := 0) C dX12_goes_96 (by decide) ?_
      obtain ⟨r4, s5, hc6, h⟩ := bnd_some h
      refine k_V (v := some (.int r4)) C vb_X12_asksOf (ci := 11) (T := TX12) (N := 45) rfl (by decide) (c12_asksOf _ hc6) rfl (by decide) wd_1275 (rfl) rfl dX12_goes_97 ?_
      show J (ωM α) κ _ _ 100 _ [.int r4, .int ((up σ 0 35 ((σ 0 35) + (1 : Int32))) 0 34), .ref (wad (ωM α) 0)] s5
      refine j_iadd C dX12_goes_100 ?_
      refine j_puti (o := 0) (j := 34) C inT12 tyX12_ok nmX12 (ci := 11) rfl (by decide) (rfl) rfl rfl rfl (tyX12_ok 34 (by decide)) rfl rfl wd_1133 dX12_goes_101 ?_
      exact (b12_goes_104 C e hk60 h)
set_option maxRecDepth 10000 in
theorem b12_goes_52 {α : WA} {κ : KT} {fu : Nat} {σ' : M2} {x1 : Int32} (C : Cx (ωM α) κ cX12_goes 2 "EveryoneWinsModel" (none)) (e : κ.2.2.2.2.2.2.2.2.2 = (none, σ')) {k21 : Int32 → M2 → Option (Unit × M2)} (hk21 : ∀ (x1' : Int32) (σ : M2), k21 x1' σ = some ((), σ') → J (ωM α) κ 7 2 21 [(0, .ref (wad (ωM α) 0)), (1, .int x1')] [] σ) {σ : M2} (h : F12_goes_52 fu k21 x1 σ = some ((), σ')) : J (ωM α) κ 7 2 52 [(0, .ref (wad (ωM α) 0)), (1, .int x1)] [] σ := by
  unfold F12_goes_52 at h
  refine j_iinc (L' := [(1, .int (x1 + 1)), (0, .ref (wad (ωM α) 0))]) C 1 dX12_goes_52 rfl rfl rfl rfl ?_
  refine j_goto (tgt := 21) C dX12_goes_55 (by decide) ?_
  exact j_sub [1, 0] rfl (hk21 _ _ h)
set_option maxRecDepth 10000 in
theorem b12_goes_21 {α : WA} {κ : KT} {fu : Nat} {σ' : M2} {x1 : Int32} (C : Cx (ωM α) κ cX12_goes 2 "EveryoneWinsModel" (none)) (e : κ.2.2.2.2.2.2.2.2.2 = (none, σ'))  {σ : M2} (h : F12_goes_21 fu x1 σ = some ((), σ')) : J (ωM α) κ 7 2 21 [(0, .ref (wad (ωM α) 0)), (1, .int x1)] [] σ := by
  unfold F12_goes_21 at h
  refine wl1_ind (fun x1 σ => J (ωM α) κ 7 2 21 [(0, .ref (wad (ωM α) 0)), (1, .int x1)] [] σ) ?_ fu x1 σ h
  intro k21 hk21 x1 σ h
  try dsimp only at h
  show J (ωM α) κ 7 2 21 [(0, .ref (wad (ωM α) 0)), (1, .int x1)] [] σ
  refine j_iload_n C 1 dX12_goes_21 rfl ?_
  refine j_aload_n C 0 dX12_goes_22 rfl ?_
  refine j_geti (o := 0) (j := 2) C inT12 (ci := 11) rfl (by decide) (rfl) rfl rfl wd_1101 dX12_goes_23 ?_
  refine j_icmp_ge (tgt := 58) C dX12_goes_26 (by decide) (fun c1 => ?_) (fun c1 => ?_)
  · replace h := it c1 h
    refine j_iconst (v := 0) C dX12_goes_58 (by decide) ?_
    refine j_istore_n (L' := [(1, .int (0 : Int32)), (0, .ref (wad (ωM α) 0))]) C dX12_goes_59 rfl rfl rfl ?_
    exact j_sub [1, 0] rfl (b12_goes_60 C e h)
  · replace h := ie c1 h
    refine j_aload_n C 0 dX12_goes_29 rfl ?_
    refine j_getr (o := 0) (j := 38) C inT12 (ci := 11) rfl (by decide) (rfl) rfl rfl wd_1137 dX12_goes_30 (o' := 22) rfl ?_
    refine j_iload_n C 1 dX12_goes_33 rfl ?_
    obtain ⟨g2, h⟩ := gd_some h
    refine j_iaload (N := 6) C (rfl) (inb_in g2) dX12_goes_34 ?_
    refine j_aload_n C 0 dX12_goes_35 rfl ?_
    refine j_geti (o := 0) (j := 39) C inT12 (ci := 11) rfl (by decide) (rfl) rfl rfl wd_1138 dX12_goes_36 ?_
    refine j_icmp_eq (tgt := 52) C dX12_goes_39 (by decide) (fun c3 => ?_) (fun c3 => ?_)
    · replace h := it c3 h
      exact (b12_goes_52 C e hk21 h)
    · replace h := ie c3 h
      refine j_aload_n C 0 dX12_goes_42 rfl ?_
      refine j_aload_n C 0 dX12_goes_43 rfl ?_
      refine j_getr (o := 0) (j := 38) C inT12 (ci := 11) rfl (by decide) (rfl) rfl rfl wd_1137 dX12_goes_44 (o' := 22) rfl ?_
      refine j_iload_n C 1 dX12_goes_47 rfl ?_
      refine j_iaload (N := 6) C (rfl) (inb_in g2) dX12_goes_48 ?_
      obtain ⟨r4, s5, hc6, h⟩ := bnd_some h
      refine k_V (v := none) C vb_X12_raceOf (ci := 11) (T := TX12) (N := 45) rfl (by decide) (c12_raceOf _ hc6) rfl (by decide) wd_1336 (rfl) rfl dX12_goes_49 ?_
      show J (ωM α) κ _ _ 52 _ [] s5
      exact (b12_goes_52 C e hk21 h)
set_option maxRecDepth 10000 in
theorem c12_goes (l : Launch) {α : WA} {fu : Nat}  {σ σ' : M2}  (h : F12_goes fu σ = some ((), σ')) : Ct l (ωM α) yX12_goes cX12_goes 2 (none) 7 [.ref (wad (ωM α) 0)] σ (none) σ' := by
  unfold F12_goes at h
  refine Ct.of (own := "EveryoneWinsModel") (L := [(0, .ref (wad (ωM α) 0))]) (by decide +kernel) rfl rfl rfl (fun κ hl e C => ?_)
  show J (ωM α) κ 7 2 0 [(0, .ref (wad (ωM α) 0))] [] σ
  refine j_aload_n C 0 dX12_goes_0 rfl ?_
  obtain ⟨r1, s2, hc3, h⟩ := bnd_some h
  refine k_V (v := none) C vb_X12_begins (ci := 11) (T := TX12) (N := 45) rfl (by decide) (c12_begins _ hc3) rfl (by decide) wd_1312 (rfl) rfl dX12_goes_1 ?_
  show J (ωM α) κ _ _ 4 _ [] s2
  refine j_aload_n C 0 dX12_goes_4 rfl ?_
  refine j_iconst (v := 0) C dX12_goes_5 (by decide) ?_
  refine j_puti (o := 0) (j := 34) C inT12 tyX12_ok nmX12 (ci := 11) rfl (by decide) (rfl) rfl rfl rfl (tyX12_ok 34 (by decide)) rfl rfl wd_1133 dX12_goes_6 ?_
  refine j_aload_n C 0 dX12_goes_9 rfl ?_
  refine j_iconst (v := 0) C dX12_goes_10 (by decide) ?_
  refine j_puti (o := 0) (j := 35) C inT12 tyX12_ok nmX12 (ci := 11) rfl (by decide) (rfl) rfl rfl rfl (tyX12_ok 35 (by decide)) rfl rfl wd_1134 dX12_goes_11 ?_
  refine j_aload_n C 0 dX12_goes_14 rfl ?_
  refine j_iconst (v := 0) C dX12_goes_15 (by decide) ?_
  refine j_puti (o := 0) (j := 36) C inT12 tyX12_ok nmX12 (ci := 11) rfl (by decide) (rfl) rfl rfl rfl (tyX12_ok 36 (by decide)) rfl rfl wd_1135 dX12_goes_16 ?_
  refine j_iconst (v := 0) C dX12_goes_19 (by decide) ?_
  refine j_istore_n (L' := [(1, .int (0 : Int32)), (0, .ref (wad (ωM α) 0))]) C dX12_goes_20 rfl rfl rfl ?_
  exact j_sub [1, 0] rfl (b12_goes_21 C e h)
set_option maxRecDepth 10000 in
theorem b12_noneWon_29 {α : WA} {κ : KT} {fu : Nat} {v : Int32} {σ' : M2} {x2 : Int32} {y0 : Int32} {y1 : Int32} (C : Cx (ωM α) κ cX12_noneWon 3 "EveryoneWinsModel" (some FieldType.int)) (e : κ.2.2.2.2.2.2.2.2.2 = (some (.int v), σ')) {k4 : Int32 → Int32 → M2 → Option (Int32 × M2)} (hk4 : ∀ (x1' : Int32) (x2' : Int32) (σ : M2), k4 x1' x2' σ = some (v, σ') → J (ωM α) κ 1 3 4 [(0, .ref (wad (ωM α) 0)), (1, .int x1'), (2, .int x2')] [] σ) {σ : M2} (h : F12_noneWon_29 fu k4 x2 y0 y1 σ = some (v, σ')) : J (ωM α) κ 1 3 29 [(0, .ref (wad (ωM α) 0)), (2, .int x2)] [.int y0, .int y1] σ := by
  unfold F12_noneWon_29 at h
  refine j_ior C dX12_noneWon_29 ?_
  refine j_istore_n (L' := [(1, .int (y1 ||| y0)), (0, .ref (wad (ωM α) 0)), (2, .int x2)]) C dX12_noneWon_30 rfl rfl rfl ?_
  refine j_iinc (L' := [(2, .int (x2 + 1)), (1, .int (y1 ||| y0)), (0, .ref (wad (ωM α) 0))]) C 2 dX12_noneWon_31 rfl rfl rfl rfl ?_
  refine j_goto (tgt := 4) C dX12_noneWon_34 (by decide) ?_
  exact j_sub [2, 1, 0] rfl (hk4 _ _ _ h)
set_option maxRecDepth 10000 in
theorem b12_noneWon_4 {α : WA} {κ : KT} {fu : Nat} {v : Int32} {σ' : M2} {x1 : Int32} {x2 : Int32} (C : Cx (ωM α) κ cX12_noneWon 3 "EveryoneWinsModel" (some FieldType.int)) (e : κ.2.2.2.2.2.2.2.2.2 = (some (.int v), σ'))  {σ : M2} (h : F12_noneWon_4 fu x1 x2 σ = some (v, σ')) : J (ωM α) κ 1 3 4 [(0, .ref (wad (ωM α) 0)), (1, .int x1), (2, .int x2)] [] σ := by
  unfold F12_noneWon_4 at h
  refine wl2_ind (fun x1 x2 σ => J (ωM α) κ 1 3 4 [(0, .ref (wad (ωM α) 0)), (1, .int x1), (2, .int x2)] [] σ) ?_ fu x1 x2 σ h
  intro k4 hk4 x1 x2 σ h
  try dsimp only at h
  show J (ωM α) κ 1 3 4 [(0, .ref (wad (ωM α) 0)), (1, .int x1), (2, .int x2)] [] σ
  refine j_iload_n C 2 dX12_noneWon_4 rfl ?_
  refine j_aload_n C 0 dX12_noneWon_5 rfl ?_
  refine j_geti (o := 0) (j := 0) C inT12 (ci := 11) rfl (by decide) (rfl) rfl rfl wd_1099 dX12_noneWon_6 ?_
  refine j_icmp_ge (tgt := 37) C dX12_noneWon_9 (by decide) (fun c1 => ?_) (fun c1 => ?_)
  · replace h := it c1 h
    refine j_iload_n C 1 dX12_noneWon_37 rfl ?_
    obtain ⟨hv, hs⟩ := s2_inj h
    subst hv
    subst hs
    exact j_iret C e dX12_noneWon_38
  · replace h := ie c1 h
    refine j_iload_n C 1 dX12_noneWon_12 rfl ?_
    refine j_aload_n C 0 dX12_noneWon_13 rfl ?_
    refine j_getr (o := 0) (j := 30) C inT12 (ci := 11) rfl (by decide) (rfl) rfl rfl wd_1129 dX12_noneWon_14 (o' := 18) rfl ?_
    refine j_iload_n C 2 dX12_noneWon_17 rfl ?_
    obtain ⟨g2, h⟩ := gd_some h
    refine j_iaload (N := 8) C (rfl) (inb_in g2) dX12_noneWon_18 ?_
    refine j_if_ne (tgt := 28) C dX12_noneWon_19 (by decide) (fun c3 => ?_) (fun c3 => ?_)
    · replace h := ie c3 h
      refine j_iconst (v := 0) C dX12_noneWon_28 (by decide) ?_
      exact j_sub [0, 2] rfl (b12_noneWon_29 C e hk4 h)
    · replace h := it c3 h
      refine j_iconst (v := 1) C dX12_noneWon_22 (by decide) ?_
      refine j_iload_n C 2 dX12_noneWon_23 rfl ?_
      refine j_ishl C dX12_noneWon_24 ?_
      refine j_goto (tgt := 29) C dX12_noneWon_25 (by decide) ?_
      exact j_sub [0, 2] rfl (b12_noneWon_29 C e hk4 h)
set_option maxRecDepth 10000 in
theorem c12_noneWon (l : Launch) {α : WA} {fu : Nat}  {σ σ' : M2} {v : Int32}  (h : F12_noneWon fu σ = some (v, σ')) : Ct l (ωM α) yX12_noneWon cX12_noneWon 3 (some FieldType.int) 1 [.ref (wad (ωM α) 0)] σ (some (.int v)) σ' := by
  unfold F12_noneWon at h
  refine Ct.of (own := "EveryoneWinsModel") (L := [(0, .ref (wad (ωM α) 0))]) (by decide +kernel) rfl rfl rfl (fun κ hl e C => ?_)
  show J (ωM α) κ 1 3 0 [(0, .ref (wad (ωM α) 0))] [] σ
  refine j_iconst (v := 0) C dX12_noneWon_0 (by decide) ?_
  refine j_istore_n (L' := [(1, .int (0 : Int32)), (0, .ref (wad (ωM α) 0))]) C dX12_noneWon_1 rfl rfl rfl ?_
  refine j_iconst (v := 0) C dX12_noneWon_2 (by decide) ?_
  refine j_istore_n (L' := [(2, .int (0 : Int32)), (1, .int (0 : Int32)), (0, .ref (wad (ωM α) 0))]) C dX12_noneWon_3 rfl rfl rfl ?_
  exact j_sub [2, 1, 0] rfl (b12_noneWon_4 C e h)
set_option maxRecDepth 10000 in
theorem b12_day_29 {α : WA} {κ : KT} {fu : Nat} {v : Int32} {σ' : M2} {x1 : Int32} (C : Cx (ωM α) κ cX12_day 2 "EveryoneWinsModel" (some FieldType.int)) (e : κ.2.2.2.2.2.2.2.2.2 = (some (.int v), σ'))  {σ : M2} (h : F12_day_29 fu x1 σ = some (v, σ')) : J (ωM α) κ 8 2 29 [(0, .ref (wad (ωM α) 0)), (1, .int x1)] [] σ := by
  unfold F12_day_29 at h
  refine j_aload_n C 0 dX12_day_29 rfl ?_
  obtain ⟨r1, s2, hc3, h⟩ := bnd_some h
  refine k_V (v := none) C vb_X12_goes (ci := 11) (T := TX12) (N := 45) rfl (by decide) (c12_goes _ hc3) rfl (by decide) wd_1332 (rfl) rfl dX12_day_30 ?_
  show J (ωM α) κ _ _ 33 _ [] s2
  refine j_iload_n C 1 dX12_day_33 rfl ?_
  by_cases c4 : x1 = (0 : Int32)
  · replace h := it c4 h
    refine j_tabEq (tgt := 64) C dX12_day_34 c4 (by decide) (by decide) rfl (by decide) ?_
    refine j_aload_n C 0 dX12_day_64 rfl ?_
    obtain ⟨r5, s6, hc7, h⟩ := bnd_some h
    refine k_V (v := some (.int r5)) C vb_X12_noneWon (ci := 11) (T := TX12) (N := 45) rfl (by decide) (c12_noneWon _ hc7) rfl (by decide) wd_1344 (rfl) rfl dX12_day_65 ?_
    show J (ωM α) κ _ _ 68 _ [.int r5] s6
    obtain ⟨hv, hs⟩ := s2_inj h
    subst hv
    subst hs
    exact j_iret C e dX12_day_68
  replace h := ie c4 h
  by_cases c8 : x1 = (1 : Int32)
  · replace h := it c8 h
    refine j_tabEq (tgt := 69) C dX12_day_34 c8 (by decide) (by decide) rfl (by decide) ?_
    refine j_aload_n C 0 dX12_day_69 rfl ?_
    refine j_geti (o := 0) (j := 35) C inT12 (ci := 11) rfl (by decide) (rfl) rfl rfl wd_1134 dX12_day_70 ?_
    obtain ⟨hv, hs⟩ := s2_inj h
    subst hv
    subst hs
    exact j_iret C e dX12_day_73
  replace h := ie c8 h
  by_cases c9 : x1 = (2 : Int32)
  · replace h := it c9 h
    refine j_tabEq (tgt := 74) C dX12_day_34 c9 (by decide) (by decide) rfl (by decide) ?_
    refine j_aload_n C 0 dX12_day_74 rfl ?_
    refine j_geti (o := 0) (j := 34) C inT12 (ci := 11) rfl (by decide) (rfl) rfl rfl wd_1133 dX12_day_75 ?_
    obtain ⟨hv, hs⟩ := s2_inj h
    subst hv
    subst hs
    exact j_iret C e dX12_day_78
  replace h := ie c9 h
  by_cases c10 : x1 = (3 : Int32)
  · replace h := it c10 h
    refine j_tabEq (tgt := 79) C dX12_day_34 c10 (by decide) (by decide) rfl (by decide) ?_
    refine j_aload_n C 0 dX12_day_79 rfl ?_
    refine j_geti (o := 0) (j := 36) C inT12 (ci := 11) rfl (by decide) (rfl) rfl rfl wd_1135 dX12_day_80 ?_
    obtain ⟨hv, hs⟩ := s2_inj h
    subst hv
    subst hs
    exact j_iret C e dX12_day_83
  replace h := ie c10 h
  refine j_tableOut (tgt := 84) C dX12_day_34 (by have q0 := ne_ti c4 (z := 0) (by decide); have q1 := ne_ti c8 (z := 1) (by decide); have q2 := ne_ti c9 (z := 2) (by decide); have q3 := ne_ti c10 (z := 3) (by decide); omega) (by decide) ?_
  refine j_aload_n C 0 dX12_day_84 rfl ?_
  refine j_getr (o := 0) (j := 30) C inT12 (ci := 11) rfl (by decide) (rfl) rfl rfl wd_1129 dX12_day_85 (o' := 18) rfl ?_
  refine j_iload_n C 1 dX12_day_88 rfl ?_
  refine j_bipush (v := 10) C dX12_day_89 (by decide) ?_
  refine j_isub C dX12_day_91 ?_
  obtain ⟨g11, h⟩ := gd_some h
  refine j_iaload (N := 8) C (rfl) (inb_in g11) dX12_day_92 ?_
  obtain ⟨hv, hs⟩ := s2_inj h
  subst hv
  subst hs
  exact j_iret C e dX12_day_93
set_option maxRecDepth 10000 in
theorem c12_day (l : Launch) {α : WA} {fu : Nat} {a1 : Int32} {σ σ' : M2} {v : Int32}  (h : F12_day fu a1 σ = some (v, σ')) : Ct l (ωM α) yX12_day cX12_day 2 (some FieldType.int) 8 [.ref (wad (ωM α) 0), .int a1] σ (some (.int v)) σ' := by
  unfold F12_day at h
  refine Ct.of (own := "EveryoneWinsModel") (L := [(0, .ref (wad (ωM α) 0)), (1, .int a1)]) (by decide +kernel) rfl rfl rfl (fun κ hl e C => ?_)
  show J (ωM α) κ 8 2 0 [(0, .ref (wad (ωM α) 0)), (1, .int a1)] [] σ
  refine j_iload_n C 1 dX12_day_0 rfl ?_
  refine j_iconst (v := 0) C dX12_day_1 (by decide) ?_
  refine j_iconst (v := 3) C dX12_day_2 (by decide) ?_
  obtain ⟨r1, s2, hc3, h⟩ := bnd_some h
  refine k_S (v := some (.int r1)) C sb_X12_in (c12_in _ hc3) rfl (by decide) wd_1060 rfl dX12_day_3 ?_
  show J (ωM α) κ _ _ 6 _ [.int r1] s2
  refine j_if_ne (tgt := 29) C dX12_day_6 (by decide) (fun c4 => ?_) (fun c4 => ?_)
  · replace h := ie c4 h
    exact (b12_day_29 C e h)
  · replace h := it c4 h
    refine j_iload_n C 1 dX12_day_9 rfl ?_
    refine j_bipush (v := 10) C dX12_day_10 (by decide) ?_
    refine j_bipush (v := 9) C dX12_day_12 (by decide) ?_
    refine j_aload_n C 0 dX12_day_14 rfl ?_
    refine j_geti (o := 0) (j := 0) C inT12 (ci := 11) rfl (by decide) (rfl) rfl rfl wd_1099 dX12_day_15 ?_
    refine j_iadd C dX12_day_18 ?_
    obtain ⟨r5, s6, hc7, h⟩ := bnd_some h
    refine k_S (v := some (.int r5)) C sb_X12_in (c12_in _ hc7) rfl (by decide) wd_1060 rfl dX12_day_19 ?_
    show J (ωM α) κ _ _ 22 _ [.int r5] s6
    refine j_if_ne (tgt := 29) C dX12_day_22 (by decide) (fun c8 => ?_) (fun c8 => ?_)
    · replace h := ie c8 h
      exact (b12_day_29 C e h)
    · replace h := it c8 h
      refine j_sipush (v := -1000) C dX12_day_25 (by decide) ?_
      obtain ⟨hv, hs⟩ := s2_inj h
      subst hv
      subst hs
      exact j_iret C e dX12_day_28
set_option maxRecDepth 10000 in
theorem c12_asItIs (l : Launch) {α : WA} {fu : Nat}  {σ σ' : M2}  (h : F12_asItIs fu σ = some ((), σ')) : Ct l (ωM α) yX12_asItIs cX12_asItIs 1 (none) 8 [.ref (wad (ωM α) 0)] σ (none) σ' := by
  unfold F12_asItIs at h
  refine Ct.of (own := "EveryoneWinsModel") (L := [(0, .ref (wad (ωM α) 0))]) (by decide +kernel) rfl rfl rfl (fun κ hl e C => ?_)
  show J (ωM α) κ 8 1 0 [(0, .ref (wad (ωM α) 0))] [] σ
  refine j_aload_n C 0 dX12_asItIs_0 rfl ?_
  obtain ⟨r1, s2, hc3, h⟩ := bnd_some h
  refine k_V (v := none) C vb_X12_goes (ci := 11) (T := TX12) (N := 45) rfl (by decide) (c12_goes _ hc3) rfl (by decide) wd_1332 (rfl) rfl dX12_asItIs_1 ?_
  show J (ωM α) κ _ _ 4 _ [] s2
  refine j_aload_n C 0 dX12_asItIs_4 rfl ?_
  refine j_iconst (v := -1) C dX12_asItIs_5 (by decide) ?_
  refine j_puti (o := 0) (j := 40) C inT12 tyX12_ok nmX12 (ci := 11) rfl (by decide) (rfl) rfl rfl rfl (tyX12_ok 40 (by decide)) rfl rfl wd_1139 dX12_asItIs_6 ?_
  refine j_aload_n C 0 dX12_asItIs_9 rfl ?_
  refine j_aload_n C 0 dX12_asItIs_10 rfl ?_
  refine j_geti (o := 0) (j := 35) C inT12 (ci := 11) rfl (by decide) (rfl) rfl rfl wd_1134 dX12_asItIs_11 ?_
  refine j_puti (o := 0) (j := 41) C inT12 tyX12_ok nmX12 (ci := 11) rfl (by decide) (rfl) rfl rfl rfl (tyX12_ok 41 (by decide)) rfl rfl wd_1140 dX12_asItIs_14 ?_
  refine j_aload_n C 0 dX12_asItIs_17 rfl ?_
  refine j_aload_n C 0 dX12_asItIs_18 rfl ?_
  refine j_geti (o := 0) (j := 34) C inT12 (ci := 11) rfl (by decide) (rfl) rfl rfl wd_1133 dX12_asItIs_19 ?_
  refine j_puti (o := 0) (j := 42) C inT12 tyX12_ok nmX12 (ci := 11) rfl (by decide) (rfl) rfl rfl rfl (tyX12_ok 42 (by decide)) rfl rfl wd_1141 dX12_asItIs_22 ?_
  obtain ⟨-, hs⟩ := s2_inj h
  subst hs
  exact j_vret C e dX12_asItIs_25
set_option maxRecDepth 10000 in
theorem b12_tried_37 {α : WA} {κ : KT} {fu : Nat} {σ' : M2} {x1 : Int32} (C : Cx (ωM α) κ cX12_tried 2 "EveryoneWinsModel" (none)) (e : κ.2.2.2.2.2.2.2.2.2 = (none, σ'))  {σ : M2} (h : F12_tried_37 fu x1 σ = some ((), σ')) : J (ωM α) κ 8 2 37 [(0, .ref (wad (ωM α) 0)), (1, .int x1)] [] σ := by
  unfold F12_tried_37 at h
  refine j_aload_n C 0 dX12_tried_37 rfl ?_
  refine j_iload_n C 1 dX12_tried_38 rfl ?_
  refine j_puti (o := 0) (j := 40) C inT12 tyX12_ok nmX12 (ci := 11) rfl (by decide) (rfl) rfl rfl rfl (tyX12_ok 40 (by decide)) rfl rfl wd_1139 dX12_tried_39 ?_
  refine j_aload_n C 0 dX12_tried_42 rfl ?_
  refine j_aload_n C 0 dX12_tried_43 rfl ?_
  refine j_geti (o := 0) (j := 35) C inT12 (ci := 11) rfl (by decide) (rfl) rfl rfl wd_1134 dX12_tried_44 ?_
  refine j_puti (o := 0) (j := 41) C inT12 tyX12_ok nmX12 (ci := 11) rfl (by decide) (rfl) rfl rfl rfl (tyX12_ok 41 (by decide)) rfl rfl wd_1140 dX12_tried_47 ?_
  refine j_aload_n C 0 dX12_tried_50 rfl ?_
  refine j_aload_n C 0 dX12_tried_51 rfl ?_
  refine j_geti (o := 0) (j := 34) C inT12 (ci := 11) rfl (by decide) (rfl) rfl rfl wd_1133 dX12_tried_52 ?_
  refine j_puti (o := 0) (j := 42) C inT12 tyX12_ok nmX12 (ci := 11) rfl (by decide) (rfl) rfl rfl rfl (tyX12_ok 42 (by decide)) rfl rfl wd_1141 dX12_tried_55 ?_
  obtain ⟨-, hs⟩ := s2_inj h
  subst hs
  exact j_vret C e dX12_tried_58
set_option maxRecDepth 10000 in
theorem c12_tried (l : Launch) {α : WA} {fu : Nat} {a1 : Int32} {σ σ' : M2}  (h : F12_tried fu a1 σ = some ((), σ')) : Ct l (ωM α) yX12_tried cX12_tried 2 (none) 8 [.ref (wad (ωM α) 0), .int a1] σ (none) σ' := by
  unfold F12_tried at h
  refine Ct.of (own := "EveryoneWinsModel") (L := [(0, .ref (wad (ωM α) 0)), (1, .int a1)]) (by decide +kernel) rfl rfl rfl (fun κ hl e C => ?_)
  show J (ωM α) κ 8 2 0 [(0, .ref (wad (ωM α) 0)), (1, .int a1)] [] σ
  refine j_aload_n C 0 dX12_tried_0 rfl ?_
  obtain ⟨r1, s2, hc3, h⟩ := bnd_some h
  refine k_V (v := none) C vb_X12_goes (ci := 11) (T := TX12) (N := 45) rfl (by decide) (c12_goes _ hc3) rfl (by decide) wd_1332 (rfl) rfl dX12_tried_1 ?_
  show J (ωM α) κ _ _ 4 _ [] s2
  refine j_aload_n C 0 dX12_tried_4 rfl ?_
  refine j_geti (o := 0) (j := 35) C inT12 (ci := 11) rfl (by decide) (rfl) rfl rfl wd_1134 dX12_tried_5 ?_
  refine j_aload_n C 0 dX12_tried_8 rfl ?_
  refine j_geti (o := 0) (j := 41) C inT12 (ci := 11) rfl (by decide) (rfl) rfl rfl wd_1140 dX12_tried_9 ?_
  refine j_icmp_lt (tgt := 37) C dX12_tried_12 (by decide) (fun c4 => ?_) (fun c4 => ?_)
  · replace h := it c4 h
    exact (b12_tried_37 C e h)
  · replace h := ie c4 h
    refine j_aload_n C 0 dX12_tried_15 rfl ?_
    refine j_geti (o := 0) (j := 35) C inT12 (ci := 11) rfl (by decide) (rfl) rfl rfl wd_1134 dX12_tried_16 ?_
    refine j_aload_n C 0 dX12_tried_19 rfl ?_
    refine j_geti (o := 0) (j := 41) C inT12 (ci := 11) rfl (by decide) (rfl) rfl rfl wd_1140 dX12_tried_20 ?_
    refine j_icmp_ne (tgt := 58) C dX12_tried_23 (by decide) (fun c5 => ?_) (fun c5 => ?_)
    · replace h := ie c5 h
      obtain ⟨-, hs⟩ := s2_inj h
      subst hs
      exact j_vret C e dX12_tried_58
    · replace h := it c5 h
      refine j_aload_n C 0 dX12_tried_26 rfl ?_
      refine j_geti (o := 0) (j := 34) C inT12 (ci := 11) rfl (by decide) (rfl) rfl rfl wd_1133 dX12_tried_27 ?_
      refine j_aload_n C 0 dX12_tried_30 rfl ?_
      refine j_geti (o := 0) (j := 42) C inT12 (ci := 11) rfl (by decide) (rfl) rfl rfl wd_1141 dX12_tried_31 ?_
      refine j_icmp_le (tgt := 58) C dX12_tried_34 (by decide) (fun c6 => ?_) (fun c6 => ?_)
      · replace h := it c6 h
        obtain ⟨-, hs⟩ := s2_inj h
        subst hs
        exact j_vret C e dX12_tried_58
      · replace h := ie c6 h
        exact (b12_tried_37 C e h)
set_option maxRecDepth 10000 in
theorem c12_toldBest (l : Launch) {α : WA}  {a1 : Int32} {σ σ' : M2} {v : Int32}  (h : F12_toldBest a1 σ = some (v, σ')) : Ct l (ωM α) yX12_toldBest cX12_toldBest 2 (some FieldType.int) 1 [.ref (wad (ωM α) 0), .int a1] σ (some (.int v)) σ' := by
  unfold F12_toldBest at h
  refine Ct.of (own := "EveryoneWinsModel") (L := [(0, .ref (wad (ωM α) 0)), (1, .int a1)]) (by decide +kernel) rfl rfl rfl (fun κ hl e C => ?_)
  show J (ωM α) κ 1 2 0 [(0, .ref (wad (ωM α) 0)), (1, .int a1)] [] σ
  refine j_iload_n C 1 dX12_toldBest_0 rfl ?_
  refine j_if_ne (tgt := 11) C dX12_toldBest_1 (by decide) (fun c1 => ?_) (fun c1 => ?_)
  · replace h := ie c1 h
    refine j_iload_n C 1 dX12_toldBest_11 rfl ?_
    refine j_iconst (v := 1) C dX12_toldBest_12 (by decide) ?_
    refine j_icmp_ne (tgt := 23) C dX12_toldBest_13 (by decide) (fun c2 => ?_) (fun c2 => ?_)
    · replace h := ie c2 h
      refine j_aload_n C 0 dX12_toldBest_23 rfl ?_
      refine j_geti (o := 0) (j := 42) C inT12 (ci := 11) rfl (by decide) (rfl) rfl rfl wd_1141 dX12_toldBest_24 ?_
      obtain ⟨hv, hs⟩ := s2_inj h
      subst hv
      subst hs
      exact j_iret C e dX12_toldBest_27
    · replace h := it c2 h
      refine j_aload_n C 0 dX12_toldBest_16 rfl ?_
      refine j_geti (o := 0) (j := 41) C inT12 (ci := 11) rfl (by decide) (rfl) rfl rfl wd_1140 dX12_toldBest_17 ?_
      refine j_goto (tgt := 27) C dX12_toldBest_20 (by decide) ?_
      obtain ⟨hv, hs⟩ := s2_inj h
      subst hv
      subst hs
      exact j_iret C e dX12_toldBest_27
  · replace h := it c1 h
    refine j_aload_n C 0 dX12_toldBest_4 rfl ?_
    refine j_geti (o := 0) (j := 40) C inT12 (ci := 11) rfl (by decide) (rfl) rfl rfl wd_1139 dX12_toldBest_5 ?_
    refine j_goto (tgt := 27) C dX12_toldBest_8 (by decide) ?_
    obtain ⟨hv, hs⟩ := s2_inj h
    subst hv
    subst hs
    exact j_iret C e dX12_toldBest_27
set_option maxRecDepth 10000 in
theorem b12_changed_78 {α : WA} {κ : KT} {fu : Nat} {σ' : M2} {x1 : Int32} {x2 : Int32} {x3 : Int32} {x4 : Int32} (C : Cx (ωM α) κ cX12_changed 5 "EveryoneWinsModel" (none)) (e : κ.2.2.2.2.2.2.2.2.2 = (none, σ')) {k6 : Int32 → M2 → Option (Unit × M2)} (hk6 : ∀ (x2' : Int32) (σ : M2), k6 x2' σ = some ((), σ') → J (ωM α) κ 9 5 6 [(0, .ref (wad (ωM α) 0)), (1, .int x1), (2, .int x2')] [] σ) {k26 : Int32 → M2 → Option (Unit × M2)} (hk26 : ∀ (x4' : Int32) (σ : M2), k26 x4' σ = some ((), σ') → J (ωM α) κ 9 5 26 [(0, .ref (wad (ωM α) 0)), (1, .int x1), (2, .int x2), (3, .int x3), (4, .int x4')] [] σ) {σ : M2} (h : F12_changed_78 fu k6 k26 x1 x2 x3 x4 σ = some ((), σ')) : J (ωM α) κ 9 5 78 [(0, .ref (wad (ωM α) 0)), (1, .int x1), (2, .int x2), (3, .int x3), (4, .int x4)] [] σ := by
  unfold F12_changed_78 at h
  refine j_iinc (L' := [(4, .int (x4 + 1)), (0, .ref (wad (ωM α) 0)), (1, .int x1), (2, .int x2), (3, .int x3)]) C 4 dX12_changed_78 rfl rfl rfl rfl ?_
  refine j_goto (tgt := 26) C dX12_changed_81 (by decide) ?_
  exact j_sub [1, 2, 3, 4, 0] rfl (hk26 _ _ h)
set_option maxRecDepth 10000 in
theorem b12_changed_50 {α : WA} {κ : KT} {fu : Nat} {σ' : M2} {x1 : Int32} {x2 : Int32} {x3 : Int32} {x4 : Int32} {y0 : Int32} {y1 : Int32} (C : Cx (ωM α) κ cX12_changed 5 "EveryoneWinsModel" (none)) (e : κ.2.2.2.2.2.2.2.2.2 = (none, σ')) {k6 : Int32 → M2 → Option (Unit × M2)} (hk6 : ∀ (x2' : Int32) (σ : M2), k6 x2' σ = some ((), σ') → J (ωM α) κ 9 5 6 [(0, .ref (wad (ωM α) 0)), (1, .int x1), (2, .int x2')] [] σ) {k26 : Int32 → M2 → Option (Unit × M2)} (hk26 : ∀ (x4' : Int32) (σ : M2), k26 x4' σ = some ((), σ') → J (ωM α) κ 9 5 26 [(0, .ref (wad (ωM α) 0)), (1, .int x1), (2, .int x2), (3, .int x3), (4, .int x4')] [] σ) {σ : M2} (h : F12_changed_50 fu k6 k26 x1 x2 x3 x4 y0 y1 σ = some ((), σ')) : J (ωM α) κ 9 5 50 [(0, .ref (wad (ωM α) 0)), (1, .int x1), (2, .int x2), (3, .int x3), (4, .int x4)] [.int y0, .int y1] σ := by
  unfold F12_changed_50 at h
  refine j_icmp_ne (tgt := 78) C dX12_changed_50 (by decide) (fun c1 => ?_) (fun c1 => ?_)
  · replace h := ie c1 h
    exact (b12_changed_78 C e hk6 hk26 h)
  · replace h := it c1 h
    refine j_aload_n C 0 dX12_changed_53 rfl ?_
    refine j_getr (o := 0) (j := 5) C inT12 (ci := 11) rfl (by decide) (rfl) rfl rfl wd_1104 dX12_changed_54 (o' := 4) rfl ?_
    refine j_iconst (v := 2) C dX12_changed_57 (by decide) ?_
    refine j_iload_n C 2 dX12_changed_58 rfl ?_
    refine j_imul C dX12_changed_59 ?_
    refine j_iload_n C 3 dX12_changed_60 rfl ?_
    refine j_iconst (v := 1) C dX12_changed_61 (by decide) ?_
    refine j_iload C 4 dX12_changed_62 rfl ?_
    refine j_ishl C dX12_changed_64 ?_
    refine j_ixor C dX12_changed_65 ?_
    obtain ⟨g2, h⟩ := gd_some h
    refine j_iastore (N := 12) C (rfl) (inb_in g2) dX12_changed_66 ?_
    refine j_aload_n C 0 dX12_changed_67 rfl ?_
    refine j_bipush (v := 10) C dX12_changed_68 (by decide) ?_
    refine j_iload_n C 2 dX12_changed_70 rfl ?_
    refine j_imul C dX12_changed_71 ?_
    refine j_iload C 4 dX12_changed_72 rfl ?_
    refine j_iadd C dX12_changed_74 ?_
    obtain ⟨r3, s4, hc5, h⟩ := bnd_some h
    refine k_V (v := none) C vb_X12_tried (ci := 11) (T := TX12) (N := 45) rfl (by decide) (c12_tried _ hc5) rfl (by decide) wd_1360 (rfl) rfl dX12_changed_75 ?_
    show J (ωM α) κ _ _ 78 _ [] s4
    exact (b12_changed_78 C e hk6 hk26 h)
set_option maxRecDepth 10000 in
theorem b12_changed_26 {α : WA} {κ : KT} {fu : Nat} {σ' : M2} {x1 : Int32} {x2 : Int32} {x3 : Int32} {x4 : Int32} (C : Cx (ωM α) κ cX12_changed 5 "EveryoneWinsModel" (none)) (e : κ.2.2.2.2.2.2.2.2.2 = (none, σ')) {k6 : Int32 → M2 → Option (Unit × M2)} (hk6 : ∀ (x2' : Int32) (σ : M2), k6 x2' σ = some ((), σ') → J (ωM α) κ 9 5 6 [(0, .ref (wad (ωM α) 0)), (1, .int x1), (2, .int x2')] [] σ) {σ : M2} (h : F12_changed_26 fu k6 x1 x2 x3 x4 σ = some ((), σ')) : J (ωM α) κ 9 5 26 [(0, .ref (wad (ωM α) 0)), (1, .int x1), (2, .int x2), (3, .int x3), (4, .int x4)] [] σ := by
  unfold F12_changed_26 at h
  refine wl1_ind (fun x4 σ => J (ωM α) κ 9 5 26 [(0, .ref (wad (ωM α) 0)), (1, .int x1), (2, .int x2), (3, .int x3), (4, .int x4)] [] σ) ?_ fu x4 σ h
  intro k26 hk26 x4 σ h
  try dsimp only at h
  show J (ωM α) κ 9 5 26 [(0, .ref (wad (ωM α) 0)), (1, .int x1), (2, .int x2), (3, .int x3), (4, .int x4)] [] σ
  refine j_iload C 4 dX12_changed_26 rfl ?_
  refine j_aload_n C 0 dX12_changed_28 rfl ?_
  refine j_geti (o := 0) (j := 0) C inT12 (ci := 11) rfl (by decide) (rfl) rfl rfl wd_1099 dX12_changed_29 ?_
  refine j_icmp_ge (tgt := 84) C dX12_changed_32 (by decide) (fun c1 => ?_) (fun c1 => ?_)
  · replace h := it c1 h
    refine j_aload_n C 0 dX12_changed_84 rfl ?_
    refine j_getr (o := 0) (j := 5) C inT12 (ci := 11) rfl (by decide) (rfl) rfl rfl wd_1104 dX12_changed_85 (o' := 4) rfl ?_
    refine j_iconst (v := 2) C dX12_changed_88 (by decide) ?_
    refine j_iload_n C 2 dX12_changed_89 rfl ?_
    refine j_imul C dX12_changed_90 ?_
    refine j_iload_n C 3 dX12_changed_91 rfl ?_
    obtain ⟨g2, h⟩ := gd_some h
    refine j_iastore (N := 12) C (rfl) (inb_in g2) dX12_changed_92 ?_
    refine j_iinc (L' := [(2, .int (x2 + 1)), (0, .ref (wad (ωM α) 0)), (1, .int x1), (3, .int x3), (4, .int x4)]) C 2 dX12_changed_93 rfl rfl rfl rfl ?_
    refine j_goto (tgt := 6) C dX12_changed_96 (by decide) ?_
    exact j_sub [1, 2, 0] rfl (hk6 _ _ h)
  · replace h := ie c1 h
    refine j_iload_n C 3 dX12_changed_35 rfl ?_
    refine j_iload C 4 dX12_changed_36 rfl ?_
    refine j_ishr C dX12_changed_38 ?_
    refine j_iconst (v := 1) C dX12_changed_39 (by decide) ?_
    refine j_iand C dX12_changed_40 ?_
    refine j_iload_n C 1 dX12_changed_41 rfl ?_
    refine j_if_eq (tgt := 49) C dX12_changed_42 (by decide) (fun c3 => ?_) (fun c3 => ?_)
    · replace h := it c3 h
      refine j_iconst (v := 1) C dX12_changed_49 (by decide) ?_
      exact (b12_changed_50 C e hk6 hk26 h)
    · replace h := ie c3 h
      refine j_iconst (v := 0) C dX12_changed_45 (by decide) ?_
      refine j_goto (tgt := 50) C dX12_changed_46 (by decide) ?_
      exact (b12_changed_50 C e hk6 hk26 h)
set_option maxRecDepth 10000 in
theorem b12_changed_6 {α : WA} {κ : KT} {fu : Nat} {σ' : M2} {x1 : Int32} {x2 : Int32} (C : Cx (ωM α) κ cX12_changed 5 "EveryoneWinsModel" (none)) (e : κ.2.2.2.2.2.2.2.2.2 = (none, σ'))  {σ : M2} (h : F12_changed_6 fu x1 x2 σ = some ((), σ')) : J (ωM α) κ 9 5 6 [(0, .ref (wad (ωM α) 0)), (1, .int x1), (2, .int x2)] [] σ := by
  unfold F12_changed_6 at h
  refine wl1_ind (fun x2 σ => J (ωM α) κ 9 5 6 [(0, .ref (wad (ωM α) 0)), (1, .int x1), (2, .int x2)] [] σ) ?_ fu x2 σ h
  intro k6 hk6 x2 σ h
  try dsimp only at h
  show J (ωM α) κ 9 5 6 [(0, .ref (wad (ωM α) 0)), (1, .int x1), (2, .int x2)] [] σ
  refine j_iload_n C 2 dX12_changed_6 rfl ?_
  refine j_aload_n C 0 dX12_changed_7 rfl ?_
  refine j_geti (o := 0) (j := 2) C inT12 (ci := 11) rfl (by decide) (rfl) rfl rfl wd_1101 dX12_changed_8 ?_
  refine j_icmp_ge (tgt := 99) C dX12_changed_11 (by decide) (fun c1 => ?_) (fun c1 => ?_)
  · replace h := it c1 h
    obtain ⟨-, hs⟩ := s2_inj h
    subst hs
    exact j_vret C e dX12_changed_99
  · replace h := ie c1 h
    refine j_aload_n C 0 dX12_changed_14 rfl ?_
    refine j_getr (o := 0) (j := 5) C inT12 (ci := 11) rfl (by decide) (rfl) rfl rfl wd_1104 dX12_changed_15 (o' := 4) rfl ?_
    refine j_iconst (v := 2) C dX12_changed_18 (by decide) ?_
    refine j_iload_n C 2 dX12_changed_19 rfl ?_
    refine j_imul C dX12_changed_20 ?_
    obtain ⟨g2, h⟩ := gd_some h
    refine j_iaload (N := 12) C (rfl) (inb_in g2) dX12_changed_21 ?_
    refine j_istore_n (L' := [(3, .int (σ 4 ((2 : Int32) * x2).toNatClampNeg)), (0, .ref (wad (ωM α) 0)), (1, .int x1), (2, .int x2)]) C dX12_changed_22 rfl rfl rfl ?_
    refine j_iconst (v := 0) C dX12_changed_23 (by decide) ?_
    refine j_istore (L' := [(4, .int (0 : Int32)), (3, .int (σ 4 ((2 : Int32) * x2).toNatClampNeg)), (0, .ref (wad (ωM α) 0)), (1, .int x1), (2, .int x2)]) C dX12_changed_24 rfl rfl ?_
    exact j_sub [2, 3, 4, 1, 0] rfl (b12_changed_26 C e hk6 h)
set_option maxRecDepth 10000 in
theorem c12_changed (l : Launch) {α : WA} {fu : Nat} {a1 : Int32} {σ σ' : M2}  (h : F12_changed fu a1 σ = some ((), σ')) : Ct l (ωM α) yX12_changed cX12_changed 5 (none) 9 [.ref (wad (ωM α) 0), .int a1] σ (none) σ' := by
  unfold F12_changed at h
  refine Ct.of (own := "EveryoneWinsModel") (L := [(0, .ref (wad (ωM α) 0)), (1, .int a1)]) (by decide +kernel) rfl rfl rfl (fun κ hl e C => ?_)
  show J (ωM α) κ 9 5 0 [(0, .ref (wad (ωM α) 0)), (1, .int a1)] [] σ
  refine j_aload_n C 0 dX12_changed_0 rfl ?_
  obtain ⟨r1, s2, hc3, h⟩ := bnd_some h
  refine k_V (v := none) C vb_X12_asItIs (ci := 11) (T := TX12) (N := 45) rfl (by decide) (c12_asItIs _ hc3) rfl (by decide) wd_1356 (rfl) rfl dX12_changed_1 ?_
  show J (ωM α) κ _ _ 4 _ [] s2
  refine j_iconst (v := 0) C dX12_changed_4 (by decide) ?_
  refine j_istore_n (L' := [(2, .int (0 : Int32)), (0, .ref (wad (ωM α) 0)), (1, .int a1)]) C dX12_changed_5 rfl rfl rfl ?_
  exact j_sub [1, 2, 0] rfl (b12_changed_6 C e h)
set_option maxRecDepth 10000 in
theorem c12_let (l : Launch) {α : WA} {fu : Nat} {a1 : Int32} {σ σ' : M2} {v : Int32}  (h : F12_let fu a1 σ = some (v, σ')) : Ct l (ωM α) yX12_let cX12_let 2 (some FieldType.int) 10 [.ref (wad (ωM α) 0), .int a1] σ (some (.int v)) σ' := by
  unfold F12_let at h
  refine Ct.of (own := "EveryoneWinsModel") (L := [(0, .ref (wad (ωM α) 0)), (1, .int a1)]) (by decide +kernel) rfl rfl rfl (fun κ hl e C => ?_)
  show J (ωM α) κ 10 2 0 [(0, .ref (wad (ωM α) 0)), (1, .int a1)] [] σ
  refine j_iload_n C 1 dX12_let_0 rfl ?_
  refine j_iconst (v := 0) C dX12_let_1 (by decide) ?_
  refine j_iconst (v := 2) C dX12_let_2 (by decide) ?_
  obtain ⟨r1, s2, hc3, h⟩ := bnd_some h
  refine k_S (v := some (.int r1)) C sb_X12_in (c12_in _ hc3) rfl (by decide) wd_1060 rfl dX12_let_3 ?_
  show J (ωM α) κ _ _ 6 _ [.int r1] s2
  refine j_if_ne (tgt := 13) C dX12_let_6 (by decide) (fun c4 => ?_) (fun c4 => ?_)
  · replace h := ie c4 h
    refine j_aload_n C 0 dX12_let_13 rfl ?_
    refine j_iconst (v := 1) C dX12_let_14 (by decide) ?_
    obtain ⟨r5, s6, hc7, h⟩ := bnd_some h
    refine k_V (v := none) C vb_X12_changed (ci := 11) (T := TX12) (N := 45) rfl (by decide) (c12_changed _ hc7) rfl (by decide) wd_1352 (rfl) rfl dX12_let_15 ?_
    show J (ωM α) κ _ _ 18 _ [] s6
    refine j_aload_n C 0 dX12_let_18 rfl ?_
    refine j_iload_n C 1 dX12_let_19 rfl ?_
    obtain ⟨r8, s9, hc10, h⟩ := bnd_some h
    refine k_V (v := some (.int r8)) C vb_X12_toldBest (ci := 11) (T := TX12) (N := 45) rfl (by decide) (c12_toldBest _ hc10) rfl (by decide) wd_1364 (rfl) rfl dX12_let_20 ?_
    show J (ωM α) κ _ _ 23 _ [.int r8] s9
    obtain ⟨hv, hs⟩ := s2_inj h
    subst hv
    subst hs
    exact j_iret C e dX12_let_23
  · replace h := it c4 h
    refine j_sipush (v := -1000) C dX12_let_9 (by decide) ?_
    obtain ⟨hv, hs⟩ := s2_inj h
    subst hv
    subst hs
    exact j_iret C e dX12_let_12
set_option maxRecDepth 10000 in
theorem c12_spare (l : Launch) {α : WA} {fu : Nat} {a1 : Int32} {σ σ' : M2} {v : Int32}  (h : F12_spare fu a1 σ = some (v, σ')) : Ct l (ωM α) yX12_spare cX12_spare 2 (some FieldType.int) 10 [.ref (wad (ωM α) 0), .int a1] σ (some (.int v)) σ' := by
  unfold F12_spare at h
  refine Ct.of (own := "EveryoneWinsModel") (L := [(0, .ref (wad (ωM α) 0)), (1, .int a1)]) (by decide +kernel) rfl rfl rfl (fun κ hl e C => ?_)
  show J (ωM α) κ 10 2 0 [(0, .ref (wad (ωM α) 0)), (1, .int a1)] [] σ
  refine j_iload_n C 1 dX12_spare_0 rfl ?_
  refine j_iconst (v := 0) C dX12_spare_1 (by decide) ?_
  refine j_iconst (v := 2) C dX12_spare_2 (by decide) ?_
  obtain ⟨r1, s2, hc3, h⟩ := bnd_some h
  refine k_S (v := some (.int r1)) C sb_X12_in (c12_in _ hc3) rfl (by decide) wd_1060 rfl dX12_spare_3 ?_
  show J (ωM α) κ _ _ 6 _ [.int r1] s2
  refine j_if_ne (tgt := 13) C dX12_spare_6 (by decide) (fun c4 => ?_) (fun c4 => ?_)
  · replace h := ie c4 h
    refine j_aload_n C 0 dX12_spare_13 rfl ?_
    refine j_iconst (v := 0) C dX12_spare_14 (by decide) ?_
    obtain ⟨r5, s6, hc7, h⟩ := bnd_some h
    refine k_V (v := none) C vb_X12_changed (ci := 11) (T := TX12) (N := 45) rfl (by decide) (c12_changed _ hc7) rfl (by decide) wd_1352 (rfl) rfl dX12_spare_15 ?_
    show J (ωM α) κ _ _ 18 _ [] s6
    refine j_aload_n C 0 dX12_spare_18 rfl ?_
    refine j_iload_n C 1 dX12_spare_19 rfl ?_
    obtain ⟨r8, s9, hc10, h⟩ := bnd_some h
    refine k_V (v := some (.int r8)) C vb_X12_toldBest (ci := 11) (T := TX12) (N := 45) rfl (by decide) (c12_toldBest _ hc10) rfl (by decide) wd_1364 (rfl) rfl dX12_spare_20 ?_
    show J (ωM α) κ _ _ 23 _ [.int r8] s9
    obtain ⟨hv, hs⟩ := s2_inj h
    subst hv
    subst hs
    exact j_iret C e dX12_spare_23
  · replace h := it c4 h
    refine j_sipush (v := -1000) C dX12_spare_9 (by decide) ?_
    obtain ⟨hv, hs⟩ := s2_inj h
    subst hv
    subst hs
    exact j_iret C e dX12_spare_12
set_option maxRecDepth 10000 in
theorem b12_drop_19 {α : WA} {κ : KT} {fu : Nat} {v : Int32} {σ' : M2} {x1 : Int32} {x2 : Int32} (C : Cx (ωM α) κ cX12_drop 3 "EveryoneWinsModel" (some FieldType.int)) (e : κ.2.2.2.2.2.2.2.2.2 = (some (.int v), σ'))  {σ : M2} (h : F12_drop_19 fu x1 x2 σ = some (v, σ')) : J (ωM α) κ 9 3 19 [(0, .ref (wad (ωM α) 0)), (1, .int x1), (2, .int x2)] [] σ := by
  unfold F12_drop_19 at h
  refine wl1_ind (fun x2 σ => J (ωM α) κ 9 3 19 [(0, .ref (wad (ωM α) 0)), (1, .int x1), (2, .int x2)] [] σ) ?_ fu x2 σ h
  intro k19 hk19 x2 σ h
  try dsimp only at h
  show J (ωM α) κ 9 3 19 [(0, .ref (wad (ωM α) 0)), (1, .int x1), (2, .int x2)] [] σ
  refine j_iload_n C 2 dX12_drop_19 rfl ?_
  refine j_aload_n C 0 dX12_drop_20 rfl ?_
  refine j_geti (o := 0) (j := 2) C inT12 (ci := 11) rfl (by decide) (rfl) rfl rfl wd_1101 dX12_drop_21 ?_
  refine j_icmp_ge (tgt := 43) C dX12_drop_24 (by decide) (fun c1 => ?_) (fun c1 => ?_)
  · replace h := it c1 h
    refine j_aload_n C 0 dX12_drop_43 rfl ?_
    refine j_iconst (v := -1) C dX12_drop_44 (by decide) ?_
    refine j_puti (o := 0) (j := 39) C inT12 tyX12_ok nmX12 (ci := 11) rfl (by decide) (rfl) rfl rfl rfl (tyX12_ok 39 (by decide)) rfl rfl wd_1138 dX12_drop_45 ?_
    refine j_aload_n C 0 dX12_drop_48 rfl ?_
    refine j_iload_n C 1 dX12_drop_49 rfl ?_
    obtain ⟨r2, s3, hc4, h⟩ := bnd_some h
    refine k_V (v := some (.int r2)) C vb_X12_toldBest (ci := 11) (T := TX12) (N := 45) rfl (by decide) (c12_toldBest _ hc4) rfl (by decide) wd_1364 (rfl) rfl dX12_drop_50 ?_
    show J (ωM α) κ _ _ 53 _ [.int r2] s3
    obtain ⟨hv, hs⟩ := s2_inj h
    subst hv
    subst hs
    exact j_iret C e dX12_drop_53
  · replace h := ie c1 h
    refine j_aload_n C 0 dX12_drop_27 rfl ?_
    refine j_iload_n C 2 dX12_drop_28 rfl ?_
    refine j_puti (o := 0) (j := 39) C inT12 tyX12_ok nmX12 (ci := 11) rfl (by decide) (rfl) rfl rfl rfl (tyX12_ok 39 (by decide)) rfl rfl wd_1138 dX12_drop_29 ?_
    refine j_aload_n C 0 dX12_drop_32 rfl ?_
    refine j_iload_n C 2 dX12_drop_33 rfl ?_
    obtain ⟨r5, s6, hc7, h⟩ := bnd_some h
    refine k_V (v := none) C vb_X12_tried (ci := 11) (T := TX12) (N := 45) rfl (by decide) (c12_tried _ hc7) rfl (by decide) wd_1360 (rfl) rfl dX12_drop_34 ?_
    show J (ωM α) κ _ _ 37 _ [] s6
    refine j_iinc (L' := [(2, .int (x2 + 1)), (0, .ref (wad (ωM α) 0)), (1, .int x1)]) C 2 dX12_drop_37 rfl rfl rfl rfl ?_
    refine j_goto (tgt := 19) C dX12_drop_40 (by decide) ?_
    exact j_sub [1, 2, 0] rfl (hk19 _ _ h)
set_option maxRecDepth 10000 in
theorem c12_drop (l : Launch) {α : WA} {fu : Nat} {a1 : Int32} {σ σ' : M2} {v : Int32}  (h : F12_drop fu a1 σ = some (v, σ')) : Ct l (ωM α) yX12_drop cX12_drop 3 (some FieldType.int) 9 [.ref (wad (ωM α) 0), .int a1] σ (some (.int v)) σ' := by
  unfold F12_drop at h
  refine Ct.of (own := "EveryoneWinsModel") (L := [(0, .ref (wad (ωM α) 0)), (1, .int a1)]) (by decide +kernel) rfl rfl rfl (fun κ hl e C => ?_)
  show J (ωM α) κ 9 3 0 [(0, .ref (wad (ωM α) 0)), (1, .int a1)] [] σ
  refine j_iload_n C 1 dX12_drop_0 rfl ?_
  refine j_iconst (v := 0) C dX12_drop_1 (by decide) ?_
  refine j_iconst (v := 2) C dX12_drop_2 (by decide) ?_
  obtain ⟨r1, s2, hc3, h⟩ := bnd_some h
  refine k_S (v := some (.int r1)) C sb_X12_in (c12_in _ hc3) rfl (by decide) wd_1060 rfl dX12_drop_3 ?_
  show J (ωM α) κ _ _ 6 _ [.int r1] s2
  refine j_if_ne (tgt := 13) C dX12_drop_6 (by decide) (fun c4 => ?_) (fun c4 => ?_)
  · replace h := ie c4 h
    refine j_aload_n C 0 dX12_drop_13 rfl ?_
    obtain ⟨r5, s6, hc7, h⟩ := bnd_some h
    refine k_V (v := none) C vb_X12_asItIs (ci := 11) (T := TX12) (N := 45) rfl (by decide) (c12_asItIs _ hc7) rfl (by decide) wd_1356 (rfl) rfl dX12_drop_14 ?_
    show J (ωM α) κ _ _ 17 _ [] s6
    refine j_iconst (v := 0) C dX12_drop_17 (by decide) ?_
    refine j_istore_n (L' := [(2, .int (0 : Int32)), (0, .ref (wad (ωM α) 0)), (1, .int a1)]) C dX12_drop_18 rfl rfl rfl ?_
    exact j_sub [1, 2, 0] rfl (b12_drop_19 C e h)
  · replace h := it c4 h
    refine j_sipush (v := -1000) C dX12_drop_9 (by decide) ?_
    obtain ⟨hv, hs⟩ := s2_inj h
    subst hv
    subst hs
    exact j_iret C e dX12_drop_12
set_option maxRecDepth 10000 in
theorem b12_tells_20 {α : WA} {κ : KT} {fu : Nat} {v : Int32} {σ' : M2} {x2 : Int32} {x3 : Int32} {x4 : Int32} {x5 : Int32} (C : Cx (ωM α) κ cX12_tells 6 "EveryoneWinsModel" (some FieldType.boolean)) (e : κ.2.2.2.2.2.2.2.2.2 = (some (.int v), σ'))  {σ : M2} (h : F12_tells_20 fu x2 x3 x4 x5 σ = some (v, σ')) : J (ωM α) κ 1 6 20 [(0, .ref (wad (ωM α) 0)), (2, .int x2), (3, .int x3), (4, .int x4), (5, .int x5)] [] σ := by
  unfold F12_tells_20 at h
  refine wl4_ind (fun x2 x3 x4 x5 σ => J (ωM α) κ 1 6 20 [(0, .ref (wad (ωM α) 0)), (2, .int x2), (3, .int x3), (4, .int x4), (5, .int x5)] [] σ) ?_ fu x2 x3 x4 x5 σ h
  intro k20 hk20 x2 x3 x4 x5 σ h
  try dsimp only at h
  show J (ωM α) κ 1 6 20 [(0, .ref (wad (ωM α) 0)), (2, .int x2), (3, .int x3), (4, .int x4), (5, .int x5)] [] σ
  refine j_iload C 4 dX12_tells_20 rfl ?_
  refine j_if_lt (tgt := 91) C dX12_tells_22 (by decide) (fun c1 => ?_) (fun c1 => ?_)
  · replace h := it c1 h
    refine j_iload_n C 2 dX12_tells_91 rfl ?_
    refine j_iconst (v := 1) C dX12_tells_92 (by decide) ?_
    refine j_aload_n C 0 dX12_tells_93 rfl ?_
    refine j_geti (o := 0) (j := 2) C inT12 (ci := 11) rfl (by decide) (rfl) rfl rfl wd_1101 dX12_tells_94 ?_
    refine j_ishl C dX12_tells_97 ?_
    refine j_iconst (v := 1) C dX12_tells_98 (by decide) ?_
    refine j_isub C dX12_tells_99 ?_
    refine j_icmp_ne (tgt := 107) C dX12_tells_100 (by decide) (fun c2 => ?_) (fun c2 => ?_)
    · replace h := ie c2 h
      refine j_iconst (v := 0) C dX12_tells_107 (by decide) ?_
      obtain ⟨hv, hs⟩ := s2_inj h
      subst hv
      subst hs
      exact j_zret C e rfl dX12_tells_108
    · replace h := it c2 h
      refine j_iconst (v := 1) C dX12_tells_103 (by decide) ?_
      refine j_goto (tgt := 108) C dX12_tells_104 (by decide) ?_
      obtain ⟨hv, hs⟩ := s2_inj h
      subst hv
      subst hs
      exact j_zret C e rfl dX12_tells_108
  · replace h := ie c1 h
    refine j_aload_n C 0 dX12_tells_25 rfl ?_
    refine j_getr (o := 0) (j := 38) C inT12 (ci := 11) rfl (by decide) (rfl) rfl rfl wd_1137 dX12_tells_26 (o' := 22) rfl ?_
    refine j_iload C 4 dX12_tells_29 rfl ?_
    refine j_iload_n C 1 dX12_tells_31 rfl ?_
    refine j_aload_n C 0 dX12_tells_32 rfl ?_
    refine j_geti (o := 0) (j := 2) C inT12 (ci := 11) rfl (by decide) (rfl) rfl rfl wd_1101 dX12_tells_33 ?_
    obtain ⟨g3, h⟩ := gd_some h
    refine j_irem C dX12_tells_36 (of_decide_eq_true g3) ?_
    obtain ⟨g4, h⟩ := gd_some h
    refine j_iastore (N := 6) C (rfl) (inb_in g4) dX12_tells_37 ?_
    refine j_iload_n C 1 dX12_tells_38 rfl ?_
    refine j_aload_n C 0 dX12_tells_39 rfl ?_
    refine j_geti (o := 0) (j := 2) C inT12 (ci := 11) rfl (by decide) (rfl) rfl rfl wd_1101 dX12_tells_40 ?_
    obtain ⟨g5, h⟩ := gd_some h
    refine j_idiv C dX12_tells_43 (of_decide_eq_true g5) ?_
    refine j_istore_n (L' := [(2, .int (x2 / ((up σ 22 x5.toNatClampNeg (x2 - x2 / (σ 0 2) * (σ 0 2))) 0 2))), (0, .ref (wad (ωM α) 0)), (3, .int x3), (4, .int x4), (5, .int x5)]) C dX12_tells_44 rfl rfl rfl ?_
    refine j_iload_n C 2 dX12_tells_45 rfl ?_
    refine j_iconst (v := 1) C dX12_tells_46 (by decide) ?_
    refine j_aload_n C 1 dX12_tells_47 rfl ?_
    refine j_getr (o := 0) (j := 38) C inT12 (ci := 11) rfl (by decide) (rfl) rfl rfl wd_1137 dX12_tells_48 (o' := 22) rfl ?_
    refine j_iload C 4 dX12_tells_51 rfl ?_
    refine j_iaload (N := 6) C (rfl) (inb_in g4) dX12_tells_53 ?_
    refine j_ishl C dX12_tells_54 ?_
    refine j_ior C dX12_tells_55 ?_
    refine j_istore_n (L' := [(3, .int (x3 ||| ((1 : Int32) <<< (((up σ 22 x5.toNatClampNeg (x2 - x2 / (σ 0 2) * (σ 0 2))) 22 x5.toNatClampNeg) &&& 31)))), (2, .int (x2 / ((up σ 22 x5.toNatClampNeg (x2 - x2 / (σ 0 2) * (σ 0 2))) 0 2))), (0, .ref (wad (ωM α) 0)), (4, .int x4), (5, .int x5)]) C dX12_tells_56 rfl rfl rfl ?_
    refine j_aload_n C 2 dX12_tells_57 rfl ?_
    refine j_dup C dX12_tells_58 rfl ?_
    refine j_geti (o := 0) (j := 43) C inT12 (ci := 11) rfl (by decide) (rfl) rfl rfl wd_1142 dX12_tells_59 ?_
    refine j_iload C 3 dX12_tells_62 rfl ?_
    refine j_aload_n C 2 dX12_tells_64 rfl ?_
    refine j_getr (o := 0) (j := 38) C inT12 (ci := 11) rfl (by decide) (rfl) rfl rfl wd_1137 dX12_tells_65 (o' := 22) rfl ?_
    refine j_iload C 4 dX12_tells_68 rfl ?_
    refine j_iaload (N := 6) C (rfl) (inb_in g4) dX12_tells_70 ?_
    refine j_iconst (v := 1) C dX12_tells_71 (by decide) ?_
    refine j_iadd C dX12_tells_72 ?_
    refine j_imul C dX12_tells_73 ?_
    refine j_iadd C dX12_tells_74 ?_
    refine j_puti (o := 0) (j := 43) C inT12 tyX12_ok nmX12 (ci := 11) rfl (by decide) (rfl) rfl rfl rfl (tyX12_ok 43 (by decide)) rfl rfl wd_1142 dX12_tells_75 ?_
    refine j_iload C 3 dX12_tells_78 rfl ?_
    refine j_bipush (v := 10) C dX12_tells_80 (by decide) ?_
    refine j_imul C dX12_tells_82 ?_
    refine j_istore (L' := [(4, .int (x4 * (10 : Int32))), (3, .int (x3 ||| ((1 : Int32) <<< (((up σ 22 x5.toNatClampNeg (x2 - x2 / (σ 0 2) * (σ 0 2))) 22 x5.toNatClampNeg) &&& 31)))), (2, .int (x2 / ((up σ 22 x5.toNatClampNeg (x2 - x2 / (σ 0 2) * (σ 0 2))) 0 2))), (0, .ref (wad (ωM α) 0)), (5, .int x5)]) C dX12_tells_83 rfl rfl ?_
    refine j_iinc (L' := [(5, .int (x5 + (-1))), (4, .int (x4 * (10 : Int32))), (3, .int (x3 ||| ((1 : Int32) <<< (((up σ 22 x5.toNatClampNeg (x2 - x2 / (σ 0 2) * (σ 0 2))) 22 x5.toNatClampNeg) &&& 31)))), (2, .int (x2 / ((up σ 22 x5.toNatClampNeg (x2 - x2 / (σ 0 2) * (σ 0 2))) 0 2))), (0, .ref (wad (ωM α) 0))]) C 4 dX12_tells_85 rfl rfl rfl rfl ?_
    refine j_goto (tgt := 20) C dX12_tells_88 (by decide) ?_
    exact j_sub [4, 3, 2, 1, 0] rfl (hk20 _ _ _ _ _ h)
set_option maxRecDepth 10000 in
theorem c12_tells (l : Launch) {α : WA} {fu : Nat} {a1 : Int32} {σ σ' : M2} {v : Int32}  (h : F12_tells fu a1 σ = some (v, σ')) : Ct l (ωM α) yX12_tells cX12_tells 6 (some FieldType.boolean) 1 [.ref (wad (ωM α) 0), .int a1] σ (some (.int v)) σ' := by
  unfold F12_tells at h
  refine Ct.of (own := "EveryoneWinsModel") (L := [(0, .ref (wad (ωM α) 0)), (1, .int a1)]) (by decide +kernel) rfl rfl rfl (fun κ hl e C => ?_)
  show J (ωM α) κ 1 6 0 [(0, .ref (wad (ωM α) 0)), (1, .int a1)] [] σ
  refine j_iload_n C 1 dX12_tells_0 rfl ?_
  refine j_istore_n (L' := [(2, .int a1), (0, .ref (wad (ωM α) 0)), (1, .int a1)]) C dX12_tells_1 rfl rfl rfl ?_
  refine j_iconst (v := 0) C dX12_tells_2 (by decide) ?_
  refine j_istore_n (L' := [(3, .int (0 : Int32)), (2, .int a1), (0, .ref (wad (ωM α) 0)), (1, .int a1)]) C dX12_tells_3 rfl rfl rfl ?_
  refine j_iconst (v := 1) C dX12_tells_4 (by decide) ?_
  refine j_istore (L' := [(4, .int (1 : Int32)), (3, .int (0 : Int32)), (2, .int a1), (0, .ref (wad (ωM α) 0)), (1, .int a1)]) C dX12_tells_5 rfl rfl ?_
  refine j_aload_n C 3 dX12_tells_7 rfl ?_
  refine j_iconst (v := 0) C dX12_tells_8 (by decide) ?_
  refine j_puti (o := 0) (j := 43) C inT12 tyX12_ok nmX12 (ci := 11) rfl (by decide) (rfl) rfl rfl rfl (tyX12_ok 43 (by decide)) rfl rfl wd_1142 dX12_tells_9 ?_
  refine j_aload_n C 3 dX12_tells_12 rfl ?_
  refine j_geti (o := 0) (j := 2) C inT12 (ci := 11) rfl (by decide) (rfl) rfl rfl wd_1101 dX12_tells_13 ?_
  refine j_iconst (v := 1) C dX12_tells_16 (by decide) ?_
  refine j_isub C dX12_tells_17 ?_
  refine j_istore (L' := [(5, .int (((up σ 0 43 (0 : Int32)) 0 2) - (1 : Int32))), (4, .int (1 : Int32)), (3, .int (0 : Int32)), (2, .int a1), (0, .ref (wad (ωM α) 0)), (1, .int a1)]) C dX12_tells_18 rfl rfl ?_
  exact j_sub [4, 3, 2, 1, 0] rfl (b12_tells_20 C e h)
set_option maxRecDepth 10000 in
theorem b12_order_84 {α : WA} {κ : KT} {fu : Nat} {v : Int32} {σ' : M2} {x1 : Int32} {x3 : Int32} (C : Cx (ωM α) κ cX12_order 4 "EveryoneWinsModel" (some FieldType.int)) (e : κ.2.2.2.2.2.2.2.2.2 = (some (.int v), σ'))  {σ : M2} (h : F12_order_84 fu x1 x3 σ = some (v, σ')) : J (ωM α) κ 9 4 84 [(0, .ref (wad (ωM α) 0)), (1, .int x1), (3, .int x3)] [] σ := by
  unfold F12_order_84 at h
  refine wl1_ind (fun x3 σ => J (ωM α) κ 9 4 84 [(0, .ref (wad (ωM α) 0)), (1, .int x1), (3, .int x3)] [] σ) ?_ fu x3 σ h
  intro k84 hk84 x3 σ h
  try dsimp only at h
  show J (ωM α) κ 9 4 84 [(0, .ref (wad (ωM α) 0)), (1, .int x1), (3, .int x3)] [] σ
  refine j_iload_n C 2 dX12_order_84 rfl ?_
  refine j_bipush (v := 6) C dX12_order_85 (by decide) ?_
  refine j_icmp_ge (tgt := 103) C dX12_order_87 (by decide) (fun c1 => ?_) (fun c1 => ?_)
  · replace h := it c1 h
    refine j_aload_n C 0 dX12_order_103 rfl ?_
    refine j_iload_n C 1 dX12_order_104 rfl ?_
    obtain ⟨r2, s3, hc4, h⟩ := bnd_some h
    refine k_V (v := some (.int r2)) C vb_X12_toldBest (ci := 11) (T := TX12) (N := 45) rfl (by decide) (c12_toldBest _ hc4) rfl (by decide) wd_1364 (rfl) rfl dX12_order_105 ?_
    show J (ωM α) κ _ _ 108 _ [.int r2] s3
    obtain ⟨hv, hs⟩ := s2_inj h
    subst hv
    subst hs
    exact j_iret C e dX12_order_108
  · replace h := ie c1 h
    refine j_aload_n C 0 dX12_order_90 rfl ?_
    refine j_getr (o := 0) (j := 38) C inT12 (ci := 11) rfl (by decide) (rfl) rfl rfl wd_1137 dX12_order_91 (o' := 22) rfl ?_
    refine j_iload_n C 2 dX12_order_94 rfl ?_
    refine j_iload_n C 2 dX12_order_95 rfl ?_
    obtain ⟨g5, h⟩ := gd_some h
    refine j_iastore (N := 6) C (rfl) (inb_in g5) dX12_order_96 ?_
    refine j_iinc (L' := [(3, .int (x3 + 1)), (0, .ref (wad (ωM α) 0)), (1, .int x1)]) C 2 dX12_order_97 rfl rfl rfl rfl ?_
    refine j_goto (tgt := 84) C dX12_order_100 (by decide) ?_
    exact j_sub [1, 2, 0] rfl (hk84 _ _ h)
set_option maxRecDepth 10000 in
theorem b12_order_76 {α : WA} {κ : KT} {fu : Nat} {v : Int32} {σ' : M2} {x1 : Int32} {x2 : Int32} {x3 : Int32} (C : Cx (ωM α) κ cX12_order 4 "EveryoneWinsModel" (some FieldType.int)) (e : κ.2.2.2.2.2.2.2.2.2 = (some (.int v), σ')) {k55 : Int32 → M2 → Option (Int32 × M2)} (hk55 : ∀ (x3' : Int32) (σ : M2), k55 x3' σ = some (v, σ') → J (ωM α) κ 9 4 55 [(0, .ref (wad (ωM α) 0)), (1, .int x1), (2, .int x2), (3, .int x3')] [] σ) {σ : M2} (h : F12_order_76 fu k55 x1 x2 x3 σ = some (v, σ')) : J (ωM α) κ 9 4 76 [(0, .ref (wad (ωM α) 0)), (1, .int x1), (2, .int x2), (3, .int x3)] [] σ := by
  unfold F12_order_76 at h
  refine j_iinc (L' := [(3, .int (x3 + 1)), (0, .ref (wad (ωM α) 0)), (1, .int x1), (2, .int x2)]) C 3 dX12_order_76 rfl rfl rfl rfl ?_
  refine j_goto (tgt := 55) C dX12_order_79 (by decide) ?_
  exact j_sub [1, 2, 3, 0] rfl (hk55 _ _ h)
set_option maxRecDepth 10000 in
theorem b12_order_55 {α : WA} {κ : KT} {fu : Nat} {v : Int32} {σ' : M2} {x1 : Int32} {x2 : Int32} {x3 : Int32} (C : Cx (ωM α) κ cX12_order 4 "EveryoneWinsModel" (some FieldType.int)) (e : κ.2.2.2.2.2.2.2.2.2 = (some (.int v), σ'))  {σ : M2} (h : F12_order_55 fu x1 x2 x3 σ = some (v, σ')) : J (ωM α) κ 9 4 55 [(0, .ref (wad (ωM α) 0)), (1, .int x1), (2, .int x2), (3, .int x3)] [] σ := by
  unfold F12_order_55 at h
  refine wl1_ind (fun x3 σ => J (ωM α) κ 9 4 55 [(0, .ref (wad (ωM α) 0)), (1, .int x1), (2, .int x2), (3, .int x3)] [] σ) ?_ fu x3 σ h
  intro k55 hk55 x3 σ h
  try dsimp only at h
  show J (ωM α) κ 9 4 55 [(0, .ref (wad (ωM α) 0)), (1, .int x1), (2, .int x2), (3, .int x3)] [] σ
  refine j_iload_n C 3 dX12_order_55 rfl ?_
  refine j_iload_n C 2 dX12_order_56 rfl ?_
  refine j_icmp_ge (tgt := 82) C dX12_order_57 (by decide) (fun c1 => ?_) (fun c1 => ?_)
  · replace h := it c1 h
    refine j_iconst (v := 0) C dX12_order_82 (by decide) ?_
    refine j_istore_n (L' := [(3, .int (0 : Int32)), (0, .ref (wad (ωM α) 0)), (1, .int x1), (2, .int x2)]) C dX12_order_83 rfl rfl rfl ?_
    exact j_sub [1, 2, 0] rfl (b12_order_84 C e h)
  · replace h := ie c1 h
    refine j_aload_n C 0 dX12_order_60 rfl ?_
    refine j_iload_n C 3 dX12_order_61 rfl ?_
    obtain ⟨r2, s3, hc4, h⟩ := bnd_some h
    refine k_V (v := some (.int r2)) C vb_X12_tells (ci := 11) (T := TX12) (N := 45) rfl (by decide) (c12_tells _ hc4) rfl (by decide) wd_1380 (rfl) rfl dX12_order_62 ?_
    show J (ωM α) κ _ _ 65 _ [.int r2] s3
    refine j_if_eq (tgt := 76) C dX12_order_65 (by decide) (fun c5 => ?_) (fun c5 => ?_)
    · replace h := it c5 h
      exact (b12_order_76 C e hk55 h)
    · replace h := ie c5 h
      refine j_aload_n C 0 dX12_order_68 rfl ?_
      refine j_aload_n C 0 dX12_order_69 rfl ?_
      refine j_geti (o := 0) (j := 43) C inT12 (ci := 11) rfl (by decide) (rfl) rfl rfl wd_1142 dX12_order_70 ?_
      obtain ⟨r6, s7, hc8, h⟩ := bnd_some h
      refine k_V (v := none) C vb_X12_tried (ci := 11) (T := TX12) (N := 45) rfl (by decide) (c12_tried _ hc8) rfl (by decide) wd_1360 (rfl) rfl dX12_order_73 ?_
      show J (ωM α) κ _ _ 76 _ [] s7
      exact (b12_order_76 C e hk55 h)
set_option maxRecDepth 10000 in
theorem b12_order_32 {α : WA} {κ : KT} {fu : Nat} {v : Int32} {σ' : M2} {x1 : Int32} {x2 : Int32} {x3 : Int32} (C : Cx (ωM α) κ cX12_order 4 "EveryoneWinsModel" (some FieldType.int)) (e : κ.2.2.2.2.2.2.2.2.2 = (some (.int v), σ'))  {σ : M2} (h : F12_order_32 fu x1 x2 x3 σ = some (v, σ')) : J (ωM α) κ 9 4 32 [(0, .ref (wad (ωM α) 0)), (1, .int x1), (2, .int x2), (3, .int x3)] [] σ := by
  unfold F12_order_32 at h
  refine wl2_ind (fun x2 x3 σ => J (ωM α) κ 9 4 32 [(0, .ref (wad (ωM α) 0)), (1, .int x1), (2, .int x2), (3, .int x3)] [] σ) ?_ fu x2 x3 σ h
  intro k32 hk32 x2 x3 σ h
  try dsimp only at h
  show J (ωM α) κ 9 4 32 [(0, .ref (wad (ωM α) 0)), (1, .int x1), (2, .int x2), (3, .int x3)] [] σ
  refine j_iload_n C 3 dX12_order_32 rfl ?_
  refine j_aload_n C 0 dX12_order_33 rfl ?_
  refine j_geti (o := 0) (j := 2) C inT12 (ci := 11) rfl (by decide) (rfl) rfl rfl wd_1101 dX12_order_34 ?_
  refine j_icmp_ge (tgt := 53) C dX12_order_37 (by decide) (fun c1 => ?_) (fun c1 => ?_)
  · replace h := it c1 h
    refine j_iconst (v := 0) C dX12_order_53 (by decide) ?_
    refine j_istore_n (L' := [(3, .int (0 : Int32)), (0, .ref (wad (ωM α) 0)), (1, .int x1), (2, .int x2)]) C dX12_order_54 rfl rfl rfl ?_
    exact j_sub [1, 2, 3, 0] rfl (b12_order_55 C e h)
  · replace h := ie c1 h
    refine j_iload_n C 2 dX12_order_40 rfl ?_
    refine j_aload_n C 0 dX12_order_41 rfl ?_
    refine j_geti (o := 0) (j := 2) C inT12 (ci := 11) rfl (by decide) (rfl) rfl rfl wd_1101 dX12_order_42 ?_
    refine j_imul C dX12_order_45 ?_
    refine j_istore_n (L' := [(2, .int (x2 * (σ 0 2))), (0, .ref (wad (ωM α) 0)), (1, .int x1), (3, .int x3)]) C dX12_order_46 rfl rfl rfl ?_
    refine j_iinc (L' := [(3, .int (x3 + 1)), (2, .int (x2 * (σ 0 2))), (0, .ref (wad (ωM α) 0)), (1, .int x1)]) C 3 dX12_order_47 rfl rfl rfl rfl ?_
    refine j_goto (tgt := 32) C dX12_order_50 (by decide) ?_
    exact j_sub [2, 3, 1, 0] rfl (hk32 _ _ _ h)
set_option maxRecDepth 10000 in
theorem b12_order_29 {α : WA} {κ : KT} {fu : Nat} {v : Int32} {σ' : M2} {x1 : Int32} {y0 : Int32} (C : Cx (ωM α) κ cX12_order 4 "EveryoneWinsModel" (some FieldType.int)) (e : κ.2.2.2.2.2.2.2.2.2 = (some (.int v), σ'))  {σ : M2} (h : F12_order_29 fu x1 y0 σ = some (v, σ')) : J (ωM α) κ 9 4 29 [(0, .ref (wad (ωM α) 0)), (1, .int x1)] [.int y0] σ := by
  unfold F12_order_29 at h
  refine j_istore_n (L' := [(2, .int y0), (0, .ref (wad (ωM α) 0)), (1, .int x1)]) C dX12_order_29 rfl rfl rfl ?_
  refine j_iconst (v := 0) C dX12_order_30 (by decide) ?_
  refine j_istore_n (L' := [(3, .int (0 : Int32)), (2, .int y0), (0, .ref (wad (ωM α) 0)), (1, .int x1)]) C dX12_order_31 rfl rfl rfl ?_
  exact j_sub [2, 3, 1, 0] rfl (b12_order_32 C e h)
set_option maxRecDepth 10000 in
theorem c12_order (l : Launch) {α : WA} {fu : Nat} {a1 : Int32} {σ σ' : M2} {v : Int32}  (h : F12_order fu a1 σ = some (v, σ')) : Ct l (ωM α) yX12_order cX12_order 4 (some FieldType.int) 9 [.ref (wad (ωM α) 0), .int a1] σ (some (.int v)) σ' := by
  unfold F12_order at h
  refine Ct.of (own := "EveryoneWinsModel") (L := [(0, .ref (wad (ωM α) 0)), (1, .int a1)]) (by decide +kernel) rfl rfl rfl (fun κ hl e C => ?_)
  show J (ωM α) κ 9 4 0 [(0, .ref (wad (ωM α) 0)), (1, .int a1)] [] σ
  refine j_iload_n C 1 dX12_order_0 rfl ?_
  refine j_iconst (v := 0) C dX12_order_1 (by decide) ?_
  refine j_iconst (v := 2) C dX12_order_2 (by decide) ?_
  obtain ⟨r1, s2, hc3, h⟩ := bnd_some h
  refine k_S (v := some (.int r1)) C sb_X12_in (c12_in _ hc3) rfl (by decide) wd_1060 rfl dX12_order_3 ?_
  show J (ωM α) κ _ _ 6 _ [.int r1] s2
  refine j_if_ne (tgt := 13) C dX12_order_6 (by decide) (fun c4 => ?_) (fun c4 => ?_)
  · replace h := ie c4 h
    refine j_aload_n C 0 dX12_order_13 rfl ?_
    obtain ⟨r5, s6, hc7, h⟩ := bnd_some h
    refine k_V (v := none) C vb_X12_asItIs (ci := 11) (T := TX12) (N := 45) rfl (by decide) (c12_asItIs _ hc7) rfl (by decide) wd_1356 (rfl) rfl dX12_order_14 ?_
    show J (ωM α) κ _ _ 17 _ [] s6
    refine j_aload_n C 0 dX12_order_17 rfl ?_
    refine j_geti (o := 0) (j := 2) C inT12 (ci := 11) rfl (by decide) (rfl) rfl rfl wd_1101 dX12_order_18 ?_
    refine j_if_ne (tgt := 28) C dX12_order_21 (by decide) (fun c8 => ?_) (fun c8 => ?_)
    · replace h := ie c8 h
      refine j_iconst (v := 1) C dX12_order_28 (by decide) ?_
      exact (b12_order_29 C e h)
    · replace h := it c8 h
      refine j_iconst (v := 0) C dX12_order_24 (by decide) ?_
      refine j_goto (tgt := 29) C dX12_order_25 (by decide) ?_
      exact (b12_order_29 C e h)
  · replace h := it c4 h
    refine j_sipush (v := -1000) C dX12_order_9 (by decide) ?_
    obtain ⟨hv, hs⟩ := s2_inj h
    subst hv
    subst hs
    exact j_iret C e dX12_order_12
set_option maxRecDepth 10000 in
theorem b12_tie_41 {α : WA} {κ : KT} {fu : Nat} {v : Int32} {σ' : M2} {x1 : Int32} {x2 : Int32} {x3 : Int32} {x4 : Int32} (C : Cx (ωM α) κ cX12_tie 5 "EveryoneWinsModel" (some FieldType.int)) (e : κ.2.2.2.2.2.2.2.2.2 = (some (.int v), σ')) {k19 : Int32 → M2 → Option (Int32 × M2)} (hk19 : ∀ (x2' : Int32) (σ : M2), k19 x2' σ = some (v, σ') → J (ωM α) κ 9 5 19 [(0, .ref (wad (ωM α) 0)), (1, .int x1), (2, .int x2')] [] σ) {σ : M2} (h : F12_tie_41 fu k19 x1 x2 x3 x4 σ = some (v, σ')) : J (ωM α) κ 9 5 41 [(0, .ref (wad (ωM α) 0)), (1, .int x1), (2, .int x2), (3, .int x3), (4, .int x4)] [] σ := by
  unfold F12_tie_41 at h
  refine wl1_ind (fun x4 σ => J (ωM α) κ 9 5 41 [(0, .ref (wad (ωM α) 0)), (1, .int x1), (2, .int x2), (3, .int x3), (4, .int x4)] [] σ) ?_ fu x4 σ h
  intro k41 hk41 x4 σ h
  try dsimp only at h
  show J (ωM α) κ 9 5 41 [(0, .ref (wad (ωM α) 0)), (1, .int x1), (2, .int x2), (3, .int x3), (4, .int x4)] [] σ
  refine j_iload C 4 dX12_tie_41 rfl ?_
  refine j_iconst (v := 3) C dX12_tie_43 (by decide) ?_
  refine j_icmp_gt (tgt := 76) C dX12_tie_44 (by decide) (fun c1 => ?_) (fun c1 => ?_)
  · replace h := it c1 h
    refine j_aload_n C 0 dX12_tie_76 rfl ?_
    refine j_getr (o := 0) (j := 5) C inT12 (ci := 11) rfl (by decide) (rfl) rfl rfl wd_1104 dX12_tie_77 (o' := 4) rfl ?_
    refine j_iconst (v := 2) C dX12_tie_80 (by decide) ?_
    refine j_iload_n C 2 dX12_tie_81 rfl ?_
    refine j_imul C dX12_tie_82 ?_
    refine j_iconst (v := 1) C dX12_tie_83 (by decide) ?_
    refine j_iadd C dX12_tie_84 ?_
    refine j_iload_n C 3 dX12_tie_85 rfl ?_
    obtain ⟨g2, h⟩ := gd_some h
    refine j_iastore (N := 12) C (rfl) (inb_in g2) dX12_tie_86 ?_
    refine j_iinc (L' := [(2, .int (x2 + 1)), (0, .ref (wad (ωM α) 0)), (1, .int x1), (3, .int x3), (4, .int x4)]) C 2 dX12_tie_87 rfl rfl rfl rfl ?_
    refine j_goto (tgt := 19) C dX12_tie_90 (by decide) ?_
    exact j_sub [1, 2, 0] rfl (hk19 _ _ h)
  · replace h := ie c1 h
    refine j_aload_n C 0 dX12_tie_47 rfl ?_
    refine j_getr (o := 0) (j := 5) C inT12 (ci := 11) rfl (by decide) (rfl) rfl rfl wd_1104 dX12_tie_48 (o' := 4) rfl ?_
    refine j_iconst (v := 2) C dX12_tie_51 (by decide) ?_
    refine j_iload_n C 2 dX12_tie_52 rfl ?_
    refine j_imul C dX12_tie_53 ?_
    refine j_iconst (v := 1) C dX12_tie_54 (by decide) ?_
    refine j_iadd C dX12_tie_55 ?_
    refine j_iload C 4 dX12_tie_56 rfl ?_
    obtain ⟨g3, h⟩ := gd_some h
    refine j_iastore (N := 12) C (rfl) (inb_in g3) dX12_tie_58 ?_
    refine j_aload_n C 0 dX12_tie_59 rfl ?_
    refine j_bipush (v := 10) C dX12_tie_60 (by decide) ?_
    refine j_iload_n C 2 dX12_tie_62 rfl ?_
    refine j_imul C dX12_tie_63 ?_
    refine j_iload C 4 dX12_tie_64 rfl ?_
    refine j_iadd C dX12_tie_66 ?_
    obtain ⟨r4, s5, hc6, h⟩ := bnd_some h
    refine k_V (v := none) C vb_X12_tried (ci := 11) (T := TX12) (N := 45) rfl (by decide) (c12_tried _ hc6) rfl (by decide) wd_1360 (rfl) rfl dX12_tie_67 ?_
    show J (ωM α) κ _ _ 70 _ [] s5
    refine j_iinc (L' := [(4, .int (x4 + 1)), (0, .ref (wad (ωM α) 0)), (1, .int x1), (2, .int x2), (3, .int x3)]) C 4 dX12_tie_70 rfl rfl rfl rfl ?_
    refine j_goto (tgt := 41) C dX12_tie_73 (by decide) ?_
    exact j_sub [1, 2, 3, 4, 0] rfl (hk41 _ _ h)
set_option maxRecDepth 10000 in
theorem b12_tie_19 {α : WA} {κ : KT} {fu : Nat} {v : Int32} {σ' : M2} {x1 : Int32} {x2 : Int32} (C : Cx (ωM α) κ cX12_tie 5 "EveryoneWinsModel" (some FieldType.int)) (e : κ.2.2.2.2.2.2.2.2.2 = (some (.int v), σ'))  {σ : M2} (h : F12_tie_19 fu x1 x2 σ = some (v, σ')) : J (ωM α) κ 9 5 19 [(0, .ref (wad (ωM α) 0)), (1, .int x1), (2, .int x2)] [] σ := by
  unfold F12_tie_19 at h
  refine wl1_ind (fun x2 σ => J (ωM α) κ 9 5 19 [(0, .ref (wad (ωM α) 0)), (1, .int x1), (2, .int x2)] [] σ) ?_ fu x2 σ h
  intro k19 hk19 x2 σ h
  try dsimp only at h
  show J (ωM α) κ 9 5 19 [(0, .ref (wad (ωM α) 0)), (1, .int x1), (2, .int x2)] [] σ
  refine j_iload_n C 2 dX12_tie_19 rfl ?_
  refine j_aload_n C 0 dX12_tie_20 rfl ?_
  refine j_geti (o := 0) (j := 2) C inT12 (ci := 11) rfl (by decide) (rfl) rfl rfl wd_1101 dX12_tie_21 ?_
  refine j_icmp_ge (tgt := 93) C dX12_tie_24 (by decide) (fun c1 => ?_) (fun c1 => ?_)
  · replace h := it c1 h
    refine j_aload_n C 0 dX12_tie_93 rfl ?_
    refine j_iload_n C 1 dX12_tie_94 rfl ?_
    obtain ⟨r2, s3, hc4, h⟩ := bnd_some h
    refine k_V (v := some (.int r2)) C vb_X12_toldBest (ci := 11) (T := TX12) (N := 45) rfl (by decide) (c12_toldBest _ hc4) rfl (by decide) wd_1364 (rfl) rfl dX12_tie_95 ?_
    show J (ωM α) κ _ _ 98 _ [.int r2] s3
    obtain ⟨hv, hs⟩ := s2_inj h
    subst hv
    subst hs
    exact j_iret C e dX12_tie_98
  · replace h := ie c1 h
    refine j_aload_n C 0 dX12_tie_27 rfl ?_
    refine j_getr (o := 0) (j := 5) C inT12 (ci := 11) rfl (by decide) (rfl) rfl rfl wd_1104 dX12_tie_28 (o' := 4) rfl ?_
    refine j_iconst (v := 2) C dX12_tie_31 (by decide) ?_
    refine j_iload_n C 2 dX12_tie_32 rfl ?_
    refine j_imul C dX12_tie_33 ?_
    refine j_iconst (v := 1) C dX12_tie_34 (by decide) ?_
    refine j_iadd C dX12_tie_35 ?_
    obtain ⟨g5, h⟩ := gd_some h
    refine j_iaload (N := 12) C (rfl) (inb_in g5) dX12_tie_36 ?_
    refine j_istore_n (L' := [(3, .int (σ 4 (((2 : Int32) * x2) + (1 : Int32)).toNatClampNeg)), (0, .ref (wad (ωM α) 0)), (1, .int x1), (2, .int x2)]) C dX12_tie_37 rfl rfl rfl ?_
    refine j_iconst (v := 0) C dX12_tie_38 (by decide) ?_
    refine j_istore (L' := [(4, .int (0 : Int32)), (3, .int (σ 4 (((2 : Int32) * x2) + (1 : Int32)).toNatClampNeg)), (0, .ref (wad (ωM α) 0)), (1, .int x1), (2, .int x2)]) C dX12_tie_39 rfl rfl ?_
    exact j_sub [2, 3, 4, 1, 0] rfl (b12_tie_41 C e hk19 h)
set_option maxRecDepth 10000 in
theorem c12_tie (l : Launch) {α : WA} {fu : Nat} {a1 : Int32} {σ σ' : M2} {v : Int32}  (h : F12_tie fu a1 σ = some (v, σ')) : Ct l (ωM α) yX12_tie cX12_tie 5 (some FieldType.int) 9 [.ref (wad (ωM α) 0), .int a1] σ (some (.int v)) σ' := by
  unfold F12_tie at h
  refine Ct.of (own := "EveryoneWinsModel") (L := [(0, .ref (wad (ωM α) 0)), (1, .int a1)]) (by decide +kernel) rfl rfl rfl (fun κ hl e C => ?_)
  show J (ωM α) κ 9 5 0 [(0, .ref (wad (ωM α) 0)), (1, .int a1)] [] σ
  refine j_iload_n C 1 dX12_tie_0 rfl ?_
  refine j_iconst (v := 0) C dX12_tie_1 (by decide) ?_
  refine j_iconst (v := 2) C dX12_tie_2 (by decide) ?_
  obtain ⟨r1, s2, hc3, h⟩ := bnd_some h
  refine k_S (v := some (.int r1)) C sb_X12_in (c12_in _ hc3) rfl (by decide) wd_1060 rfl dX12_tie_3 ?_
  show J (ωM α) κ _ _ 6 _ [.int r1] s2
  refine j_if_ne (tgt := 13) C dX12_tie_6 (by decide) (fun c4 => ?_) (fun c4 => ?_)
  · replace h := ie c4 h
    refine j_aload_n C 0 dX12_tie_13 rfl ?_
    obtain ⟨r5, s6, hc7, h⟩ := bnd_some h
    refine k_V (v := none) C vb_X12_asItIs (ci := 11) (T := TX12) (N := 45) rfl (by decide) (c12_asItIs _ hc7) rfl (by decide) wd_1356 (rfl) rfl dX12_tie_14 ?_
    show J (ωM α) κ _ _ 17 _ [] s6
    refine j_iconst (v := 0) C dX12_tie_17 (by decide) ?_
    refine j_istore_n (L' := [(2, .int (0 : Int32)), (0, .ref (wad (ωM α) 0)), (1, .int a1)]) C dX12_tie_18 rfl rfl rfl ?_
    exact j_sub [1, 2, 0] rfl (b12_tie_19 C e h)
  · replace h := it c4 h
    refine j_sipush (v := -1000) C dX12_tie_9 (by decide) ?_
    obtain ⟨hv, hs⟩ := s2_inj h
    subst hv
    subst hs
    exact j_iret C e dX12_tie_12
set_option maxRecDepth 10000 in
theorem b12_needs_94 {α : WA} {κ : KT} {fu : Nat} {v : Int32} {σ' : M2} {x1 : Int32} {x3 : Int32} {x4 : Int32} (C : Cx (ωM α) κ cX12_needs 6 "EveryoneWinsModel" (some FieldType.int)) (e : κ.2.2.2.2.2.2.2.2.2 = (some (.int v), σ'))  {σ : M2} (h : F12_needs_94 fu x1 x3 x4 σ = some (v, σ')) : J (ωM α) κ 8 6 94 [(0, .ref (wad (ωM α) 0)), (1, .int x1), (3, .int x3), (4, .int x4)] [] σ := by
  unfold F12_needs_94 at h
  refine j_aload_n C 0 dX12_needs_94 rfl ?_
  refine j_getr (o := 0) (j := 1) C inT12 (ci := 11) rfl (by decide) (rfl) rfl rfl wd_1100 dX12_needs_95 (o' := 1) rfl ?_
  refine j_iconst (v := 3) C dX12_needs_98 (by decide) ?_
  refine j_iload_n C 1 dX12_needs_99 rfl ?_
  refine j_imul C dX12_needs_100 ?_
  refine j_iconst (v := 2) C dX12_needs_101 (by decide) ?_
  refine j_iadd C dX12_needs_102 ?_
  refine j_iload_n C 2 dX12_needs_103 rfl ?_
  obtain ⟨g1, h⟩ := gd_some h
  refine j_iastore (N := 24) C (rfl) (inb_in g1) dX12_needs_104 ?_
  refine j_iload C 3 dX12_needs_105 rfl ?_
  obtain ⟨hv, hs⟩ := s2_inj h
  subst hv
  subst hs
  exact j_iret C e dX12_needs_107
