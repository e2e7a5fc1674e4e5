set_option maxRecDepth 10000 in
theorem b12_sheet_44 {α : WA} {κ : KT} {fu : Nat} {v : Int32} {σ' : M2} {x1 : Int32} {x2 : Int32} {x3 : Int32} (C : Cx (ωM α) κ cX12_sheet 5 "EveryoneWinsModel" (some FieldType.int)) (e : κ.2.2.2.2.2.2.2.2.2 = (some (.int v), σ'))  {σ : M2} (h : F12_sheet_44 fu x1 x2 x3 σ = some (v, σ')) : J (ωM α) κ 2 5 44 [(0, .ref (wad (ωM α) 0)), (1, .int x1), (2, .int x2), (3, .int x3)] [] σ := by
  unfold F12_sheet_44 at h
  refine j_aload_n C 0 dX12_sheet_44 rfl ?_
  refine j_getr (o := 0) (j := 15) C inT12 (ci := 11) rfl (by decide) (rfl) rfl rfl wd_1114 dX12_sheet_45 (o' := 10) rfl ?_
  refine j_iload_n C 1 dX12_sheet_48 rfl ?_
  refine j_iload_n C 2 dX12_sheet_49 rfl ?_
  obtain ⟨g1, h⟩ := gd_some h
  refine j_iastore (N := 4) C (rfl) (inb_in g1) dX12_sheet_50 ?_
  refine j_aload_n C 0 dX12_sheet_51 rfl ?_
  refine j_getr (o := 0) (j := 16) C inT12 (ci := 11) rfl (by decide) (rfl) rfl rfl wd_1115 dX12_sheet_52 (o' := 11) rfl ?_
  refine j_iload_n C 1 dX12_sheet_55 rfl ?_
  refine j_iload_n C 2 dX12_sheet_56 rfl ?_
  refine j_iconst (v := -1) C dX12_sheet_57 (by decide) ?_
  refine j_icmp_ne (tgt := 65) C dX12_sheet_58 (by decide) (fun c2 => ?_) (fun c2 => ?_)
  · replace h := ie c2 h
    refine j_iload_n C 3 dX12_sheet_65 rfl ?_
    exact j_sub [0, 1] rfl (b12_sheet_66 C e h)
  · replace h := it c2 h
    refine j_iconst (v := 0) C dX12_sheet_61 (by decide) ?_
    refine j_goto (tgt := 66) C dX12_sheet_62 (by decide) ?_
    exact j_sub [0, 1] rfl (b12_sheet_66 C e h)
set_option maxRecDepth 10000 in
theorem b12_sheet_32 {α : WA} {κ : KT} {fu : Nat} {v : Int32} {σ' : M2} {x1 : Int32} {x2 : Int32} {x3 : Int32} (C : Cx (ωM α) κ cX12_sheet 5 "EveryoneWinsModel" (some FieldType.int)) (e : κ.2.2.2.2.2.2.2.2.2 = (some (.int v), σ'))  {σ : M2} (h : F12_sheet_32 fu x1 x2 x3 σ = some (v, σ')) : J (ωM α) κ 2 5 32 [(0, .ref (wad (ωM α) 0)), (1, .int x1), (2, .int x2), (3, .int x3)] [] σ := by
  unfold F12_sheet_32 at h
  refine j_iload_n C 2 dX12_sheet_32 rfl ?_
  refine j_iconst (v := -1) C dX12_sheet_33 (by decide) ?_
  refine j_icmp_eq (tgt := 44) C dX12_sheet_34 (by decide) (fun c1 => ?_) (fun c1 => ?_)
  · replace h := it c1 h
    exact (b12_sheet_44 C e h)
  · replace h := ie c1 h
    refine j_iload_n C 3 dX12_sheet_37 rfl ?_
    refine j_if_ge (tgt := 44) C dX12_sheet_38 (by decide) (fun c2 => ?_) (fun c2 => ?_)
    · replace h := it c2 h
      exact (b12_sheet_44 C e h)
    · replace h := ie c2 h
      refine j_bipush (v := -14) C dX12_sheet_41 (by decide) ?_
      obtain ⟨hv, hs⟩ := s2_inj h
      subst hv
      subst hs
      exact j_iret C e dX12_sheet_43
set_option maxRecDepth 10000 in
theorem c12_sheet (l : Launch) {α : WA} {fu : Nat} {a1 : Int32} {a2 : Int32} {a3 : Int32} {σ σ' : M2} {v : Int32}  (h : F12_sheet fu a1 a2 a3 σ = some (v, σ')) : Ct l (ωM α) yX12_sheet cX12_sheet 5 (some FieldType.int) 2 [.ref (wad (ωM α) 0), .int a1, .int a2, .int a3] σ (some (.int v)) σ' := by
  unfold F12_sheet at h
  refine Ct.of (own := "EveryoneWinsModel") (L := [(0, .ref (wad (ωM α) 0)), (1, .int a1), (2, .int a2), (3, .int a3)]) (by decide +kernel) rfl rfl rfl (fun κ hl e C => ?_)
  show J (ωM α) κ 2 5 0 [(0, .ref (wad (ωM α) 0)), (1, .int a1), (2, .int a2), (3, .int a3)] [] σ
  refine j_iload_n C 1 dX12_sheet_0 rfl ?_
  refine j_iconst (v := 0) C dX12_sheet_1 (by decide) ?_
  refine j_iconst (v := 3) C dX12_sheet_2 (by decide) ?_
  obtain ⟨r1, s2, hc3, h⟩ := bnd_some h
  refine k_S (v := some (.int r1)) C sb_X12_in (c12_in _ hc3) rfl (by decide) wd_1060 rfl dX12_sheet_3 ?_
  show J (ωM α) κ _ _ 6 _ [.int r1] s2
  refine j_if_eq (tgt := 29) C dX12_sheet_6 (by decide) (fun c4 => ?_) (fun c4 => ?_)
  · replace h := it c4 h
    refine j_bipush (v := -2) C dX12_sheet_29 (by decide) ?_
    obtain ⟨hv, hs⟩ := s2_inj h
    subst hv
    subst hs
    exact j_iret C e dX12_sheet_31
  · replace h := ie c4 h
    refine j_iload_n C 2 dX12_sheet_9 rfl ?_
    refine j_iconst (v := -1) C dX12_sheet_10 (by decide) ?_
    refine j_iconst (v := 2) C dX12_sheet_11 (by decide) ?_
    obtain ⟨r5, s6, hc7, h⟩ := bnd_some h
    refine k_S (v := some (.int r5)) C sb_X12_in (c12_in _ hc7) rfl (by decide) wd_1060 rfl dX12_sheet_12 ?_
    show J (ωM α) κ _ _ 15 _ [.int r5] s6
    refine j_if_eq (tgt := 29) C dX12_sheet_15 (by decide) (fun c8 => ?_) (fun c8 => ?_)
    · replace h := it c8 h
      refine j_bipush (v := -2) C dX12_sheet_29 (by decide) ?_
      obtain ⟨hv, hs⟩ := s2_inj h
      subst hv
      subst hs
      exact j_iret C e dX12_sheet_31
    · replace h := ie c8 h
      refine j_iload_n C 2 dX12_sheet_18 rfl ?_
      refine j_iconst (v := -1) C dX12_sheet_19 (by decide) ?_
      refine j_icmp_eq (tgt := 32) C dX12_sheet_20 (by decide) (fun c9 => ?_) (fun c9 => ?_)
      · replace h := it c9 h
        exact (b12_sheet_32 C e h)
      · replace h := ie c9 h
        refine j_iload_n C 3 dX12_sheet_23 rfl ?_
        refine j_bipush (v := 40) C dX12_sheet_24 (by decide) ?_
        refine j_icmp_le (tgt := 32) C dX12_sheet_26 (by decide) (fun c10 => ?_) (fun c10 => ?_)
        · replace h := it c10 h
          exact (b12_sheet_32 C e h)
        · replace h := ie c10 h
          refine j_bipush (v := -2) C dX12_sheet_29 (by decide) ?_
          obtain ⟨hv, hs⟩ := s2_inj h
          subst hv
          subst hs
          exact j_iret C e dX12_sheet_31
set_option maxRecDepth 10000 in
theorem b12_cell_84 {α : WA} {κ : KT}  {v : Int32} {σ' : M2} {y0 : Int32} {y1 : Int32} (C : Cx (ωM α) κ cX12_cell 4 "EveryoneWinsModel" (some FieldType.int)) (e : κ.2.2.2.2.2.2.2.2.2 = (some (.int v), σ'))  {σ : M2} (h : F12_cell_84 y0 y1 σ = some (v, σ')) : J (ωM α) κ 2 4 84 [] [.int y0, .int y1, .ref (wad (ωM α) 12)] σ := by
  unfold F12_cell_84 at h
  obtain ⟨g1, h⟩ := gd_some h
  refine j_iastore (N := 160) C (rfl) (inb_in g1) dX12_cell_84 ?_
  refine j_iconst (v := 1) C dX12_cell_85 (by decide) ?_
  obtain ⟨hv, hs⟩ := s2_inj h
  subst hv
  subst hs
  exact j_iret C e dX12_cell_86
set_option maxRecDepth 10000 in
theorem c12_cell (l : Launch) {α : WA}  {a1 : Int32} {a2 : Int32} {a3 : Int32} {σ σ' : M2} {v : Int32}  (h : F12_cell a1 a2 a3 σ = some (v, σ')) : Ct l (ωM α) yX12_cell cX12_cell 4 (some FieldType.int) 2 [.ref (wad (ωM α) 0), .int a1, .int a2, .int a3] σ (some (.int v)) σ' := by
  unfold F12_cell at h
  refine Ct.of (own := "EveryoneWinsModel") (L := [(0, .ref (wad (ωM α) 0)), (1, .int a1), (2, .int a2), (3, .int a3)]) (by decide +kernel) rfl rfl rfl (fun κ hl e C => ?_)
  show J (ωM α) κ 2 4 0 [(0, .ref (wad (ωM α) 0)), (1, .int a1), (2, .int a2), (3, .int a3)] [] σ
  refine j_iload_n C 1 dX12_cell_0 rfl ?_
  refine j_iconst (v := 0) C dX12_cell_1 (by decide) ?_
  refine j_iconst (v := 3) C dX12_cell_2 (by decide) ?_
  obtain ⟨r1, s2, hc3, h⟩ := bnd_some h
  refine k_S (v := some (.int r1)) C sb_X12_in (c12_in _ hc3) rfl (by decide) wd_1060 rfl dX12_cell_3 ?_
  show J (ωM α) κ _ _ 6 _ [.int r1] s2
  refine j_if_ne (tgt := 12) C dX12_cell_6 (by decide) (fun c4 => ?_) (fun c4 => ?_)
  · replace h := ie c4 h
    refine j_aload_n C 0 dX12_cell_12 rfl ?_
    refine j_getr (o := 0) (j := 15) C inT12 (ci := 11) rfl (by decide) (rfl) rfl rfl wd_1114 dX12_cell_13 (o' := 10) rfl ?_
    refine j_iload_n C 1 dX12_cell_16 rfl ?_
    obtain ⟨g5, h⟩ := gd_some h
    refine j_iaload (N := 4) C (rfl) (inb_in g5) dX12_cell_17 ?_
    refine j_iconst (v := -1) C dX12_cell_18 (by decide) ?_
    refine j_icmp_ne (tgt := 25) C dX12_cell_19 (by decide) (fun c6 => ?_) (fun c6 => ?_)
    · replace h := ie c6 h
      refine j_iload_n C 2 dX12_cell_25 rfl ?_
      refine j_iconst (v := 0) C dX12_cell_26 (by decide) ?_
      refine j_aload_n C 0 dX12_cell_27 rfl ?_
      refine j_getr (o := 0) (j := 16) C inT12 (ci := 11) rfl (by decide) (rfl) rfl rfl wd_1115 dX12_cell_28 (o' := 11) rfl ?_
      refine j_iload_n C 1 dX12_cell_31 rfl ?_
      refine j_iaload (N := 4) C (rfl) (inb_in g5) dX12_cell_32 ?_
      refine j_iconst (v := 1) C dX12_cell_33 (by decide) ?_
      refine j_isub C dX12_cell_34 ?_
      obtain ⟨r7, s8, hc9, h⟩ := bnd_some h
      refine k_S (v := some (.int r7)) C sb_X12_in (c12_in _ hc9) rfl (by decide) wd_1060 rfl dX12_cell_35 ?_
      show J (ωM α) κ _ _ 38 _ [.int r7] s8
      refine j_if_ne (tgt := 44) C dX12_cell_38 (by decide) (fun c10 => ?_) (fun c10 => ?_)
      · replace h := ie c10 h
        refine j_aload_n C 0 dX12_cell_44 rfl ?_
        refine j_getr (o := 0) (j := 17) C inT12 (ci := 11) rfl (by decide) (rfl) rfl rfl wd_1116 dX12_cell_45 (o' := 12) rfl ?_
        refine j_bipush (v := 40) C dX12_cell_48 (by decide) ?_
        refine j_iload_n C 1 dX12_cell_50 rfl ?_
        refine j_imul C dX12_cell_51 ?_
        refine j_iload_n C 2 dX12_cell_52 rfl ?_
        refine j_iadd C dX12_cell_53 ?_
        refine j_aload_n C 0 dX12_cell_54 rfl ?_
        refine j_getr (o := 0) (j := 15) C inT12 (ci := 11) rfl (by decide) (rfl) rfl rfl wd_1114 dX12_cell_55 (o' := 10) rfl ?_
        refine j_iload_n C 1 dX12_cell_58 rfl ?_
        refine j_iaload (N := 4) C (rfl) (inb_in g5) dX12_cell_59 ?_
        refine j_if_ne (tgt := 68) C dX12_cell_60 (by decide) (fun c11 => ?_) (fun c11 => ?_)
        · replace h := ie c11 h
          refine j_aload_n C 0 dX12_cell_68 rfl ?_
          refine j_getr (o := 0) (j := 15) C inT12 (ci := 11) rfl (by decide) (rfl) rfl rfl wd_1114 dX12_cell_69 (o' := 10) rfl ?_
          refine j_iload_n C 1 dX12_cell_72 rfl ?_
          refine j_iaload (N := 4) C (rfl) (inb_in g5) dX12_cell_73 ?_
          refine j_iconst (v := 1) C dX12_cell_74 (by decide) ?_
          refine j_icmp_ne (tgt := 83) C dX12_cell_75 (by decide) (fun c12 => ?_) (fun c12 => ?_)
          · replace h := ie c12 h
            refine j_iload_n C 3 dX12_cell_83 rfl ?_
            exact j_sub [] rfl (b12_cell_84 C e h)
          · replace h := it c12 h
            refine j_iload_n C 3 dX12_cell_78 rfl ?_
            refine j_i2s C dX12_cell_79 ?_
            refine j_goto (tgt := 84) C dX12_cell_80 (by decide) ?_
            exact j_sub [] rfl (b12_cell_84 C e h)
        · replace h := it c11 h
          refine j_iload_n C 3 dX12_cell_63 rfl ?_
          refine j_i2b C dX12_cell_64 ?_
          refine j_goto (tgt := 84) C dX12_cell_65 (by decide) ?_
          exact j_sub [] rfl (b12_cell_84 C e h)
      · replace h := it c10 h
        refine j_bipush (v := -12) C dX12_cell_41 (by decide) ?_
        obtain ⟨hv, hs⟩ := s2_inj h
        subst hv
        subst hs
        exact j_iret C e dX12_cell_43
    · replace h := it c6 h
      refine j_bipush (v := -11) C dX12_cell_22 (by decide) ?_
      obtain ⟨hv, hs⟩ := s2_inj h
      subst hv
      subst hs
      exact j_iret C e dX12_cell_24
  · replace h := it c4 h
    refine j_bipush (v := -2) C dX12_cell_9 (by decide) ?_
    obtain ⟨hv, hs⟩ := s2_inj h
    subst hv
    subst hs
    exact j_iret C e dX12_cell_11
set_option maxRecDepth 10000 in
theorem b12_copy_173 {α : WA} {κ : KT} {fu : Nat} {v : Int32} {σ' : M2} {x5 : Int32} {x6 : Int32} {x7 : Int32} {x8 : Int32} {y0 : Int32} (C : Cx (ωM α) κ cX12_copy 10 "EveryoneWinsModel" (some FieldType.int)) (e : κ.2.2.2.2.2.2.2.2.2 = (some (.int v), σ')) {k147 : Int32 → M2 → Option (Int32 × M2)} (hk147 : ∀ (x8' : Int32) (σ : M2), k147 x8' σ = some (v, σ') → J (ωM α) κ 2 10 147 [(0, .ref (wad (ωM α) 0)), (5, .int x5), (6, .int x6), (7, .int x7), (8, .int x8')] [] σ) {σ : M2} (h : F12_copy_173 fu k147 x5 x6 x7 x8 y0 σ = some (v, σ')) : J (ωM α) κ 2 10 173 [(0, .ref (wad (ωM α) 0)), (5, .int x5), (6, .int x6), (7, .int x7), (8, .int x8)] [.int y0] σ := by
  unfold F12_copy_173 at h
  refine j_istore (L' := [(9, .int y0), (0, .ref (wad (ωM α) 0)), (5, .int x5), (6, .int x6), (7, .int x7), (8, .int x8)]) C dX12_copy_173 rfl rfl ?_
  refine j_aload_n C 1 dX12_copy_175 rfl ?_
  refine j_getr (o := 0) (j := 17) C inT12 (ci := 11) rfl (by decide) (rfl) rfl rfl wd_1116 dX12_copy_176 (o' := 12) rfl ?_
  refine j_iload C 4 dX12_copy_179 rfl ?_
  refine j_iload C 0 dX12_copy_181 rfl ?_
  refine j_iadd C dX12_copy_183 ?_
  refine j_aload_n C 1 dX12_copy_184 rfl ?_
  refine j_getr (o := 0) (j := 17) C inT12 (ci := 11) rfl (by decide) (rfl) rfl rfl wd_1116 dX12_copy_185 (o' := 12) rfl ?_
  refine j_iload C 3 dX12_copy_188 rfl ?_
  refine j_iload C 0 dX12_copy_190 rfl ?_
  refine j_iadd C dX12_copy_192 ?_
  obtain ⟨g1, h⟩ := gd_some h
  refine j_iaload (N := 160) C (rfl) (inb_in g1) dX12_copy_193 ?_
  obtain ⟨g2, h⟩ := gd_some h
  refine j_iastore (N := 160) C (rfl) (inb_in g2) dX12_copy_194 ?_
  refine j_iinc (L' := [(8, .int (x8 + 1)), (9, .int y0), (0, .ref (wad (ωM α) 0)), (5, .int x5), (6, .int x6), (7, .int x7)]) C 5 dX12_copy_195 rfl rfl rfl rfl ?_
  refine j_goto (tgt := 147) C dX12_copy_198 (by decide) ?_
  exact j_sub [2, 3, 4, 5, 0] rfl (hk147 _ _ h)
set_option maxRecDepth 10000 in
theorem b12_copy_147 {α : WA} {κ : KT} {fu : Nat} {v : Int32} {σ' : M2} {x5 : Int32} {x6 : Int32} {x7 : Int32} {x8 : Int32} (C : Cx (ωM α) κ cX12_copy 10 "EveryoneWinsModel" (some FieldType.int)) (e : κ.2.2.2.2.2.2.2.2.2 = (some (.int v), σ'))  {σ : M2} (h : F12_copy_147 fu x5 x6 x7 x8 σ = some (v, σ')) : J (ωM α) κ 2 10 147 [(0, .ref (wad (ωM α) 0)), (5, .int x5), (6, .int x6), (7, .int x7), (8, .int x8)] [] σ := by
  unfold F12_copy_147 at h
  refine wl1_ind (fun x8 σ => J (ωM α) κ 2 10 147 [(0, .ref (wad (ωM α) 0)), (5, .int x5), (6, .int x6), (7, .int x7), (8, .int x8)] [] σ) ?_ fu x8 σ h
  intro k147 hk147 x8 σ h
  try dsimp only at h
  show J (ωM α) κ 2 10 147 [(0, .ref (wad (ωM α) 0)), (5, .int x5), (6, .int x6), (7, .int x7), (8, .int x8)] [] σ
  refine j_iload C 4 dX12_copy_147 rfl ?_
  refine j_iload C 1 dX12_copy_149 rfl ?_
  refine j_icmp_ge (tgt := 201) C dX12_copy_151 (by decide) (fun c1 => ?_) (fun c1 => ?_)
  · replace h := it c1 h
    refine j_iload C 1 dX12_copy_201 rfl ?_
    obtain ⟨hv, hs⟩ := s2_inj h
    subst hv
    subst hs
    exact j_iret C e dX12_copy_203
  · replace h := ie c1 h
    refine j_iload C 2 dX12_copy_154 rfl ?_
    refine j_iload C 3 dX12_copy_156 rfl ?_
    refine j_icmp_ge (tgt := 171) C dX12_copy_158 (by decide) (fun c2 => ?_) (fun c2 => ?_)
    · replace h := it c2 h
      refine j_iload C 4 dX12_copy_171 rfl ?_
      exact (b12_copy_173 C e hk147 h)
    · replace h := ie c2 h
      refine j_iload C 1 dX12_copy_161 rfl ?_
      refine j_iconst (v := 1) C dX12_copy_163 (by decide) ?_
      refine j_isub C dX12_copy_164 ?_
      refine j_iload C 4 dX12_copy_165 rfl ?_
      refine j_isub C dX12_copy_167 ?_
      refine j_goto (tgt := 173) C dX12_copy_168 (by decide) ?_
      exact (b12_copy_173 C e hk147 h)
set_option maxRecDepth 10000 in
theorem c12_copy (l : Launch) {α : WA} {fu : Nat} {a1 : Int32} {a2 : Int32} {a3 : Int32} {a4 : Int32} {a5 : Int32} {σ σ' : M2} {v : Int32}  (h : F12_copy fu a1 a2 a3 a4 a5 σ = some (v, σ')) : Ct l (ωM α) yX12_copy cX12_copy 10 (some FieldType.int) 2 [.ref (wad (ωM α) 0), .int a1, .int a2, .int a3, .int a4, .int a5] σ (some (.int v)) σ' := by
  unfold F12_copy at h
  refine Ct.of (own := "EveryoneWinsModel") (L := [(0, .ref (wad (ωM α) 0)), (1, .int a1), (2, .int a2), (3, .int a3), (4, .int a4), (5, .int a5)]) (by decide +kernel) rfl rfl rfl (fun κ hl e C => ?_)
  show J (ωM α) κ 2 10 0 [(0, .ref (wad (ωM α) 0)), (1, .int a1), (2, .int a2), (3, .int a3), (4, .int a4), (5, .int a5)] [] σ
  refine j_iload_n C 1 dX12_copy_0 rfl ?_
  refine j_iconst (v := 0) C dX12_copy_1 (by decide) ?_
  refine j_iconst (v := 3) C dX12_copy_2 (by decide) ?_
  obtain ⟨r1, s2, hc3, h⟩ := bnd_some h
  refine k_S (v := some (.int r1)) C sb_X12_in (c12_in _ hc3) rfl (by decide) wd_1060 rfl dX12_copy_3 ?_
  show J (ωM α) κ _ _ 6 _ [.int r1] s2
  refine j_if_eq (tgt := 18) C dX12_copy_6 (by decide) (fun c4 => ?_) (fun c4 => ?_)
  · replace h := it c4 h
    refine j_bipush (v := -2) C dX12_copy_18 (by decide) ?_
    obtain ⟨hv, hs⟩ := s2_inj h
    subst hv
    subst hs
    exact j_iret C e dX12_copy_20
  · replace h := ie c4 h
    refine j_iload_n C 3 dX12_copy_9 rfl ?_
    refine j_iconst (v := 0) C dX12_copy_10 (by decide) ?_
    refine j_iconst (v := 3) C dX12_copy_11 (by decide) ?_
    obtain ⟨r5, s6, hc7, h⟩ := bnd_some h
    refine k_S (v := some (.int r5)) C sb_X12_in (c12_in _ hc7) rfl (by decide) wd_1060 rfl dX12_copy_12 ?_
    show J (ωM α) κ _ _ 15 _ [.int r5] s6
    refine j_if_ne (tgt := 21) C dX12_copy_15 (by decide) (fun c8 => ?_) (fun c8 => ?_)
    · replace h := ie c8 h
      refine j_aload_n C 0 dX12_copy_21 rfl ?_
      refine j_getr (o := 0) (j := 15) C inT12 (ci := 11) rfl (by decide) (rfl) rfl rfl wd_1114 dX12_copy_22 (o' := 10) rfl ?_
      refine j_iload_n C 1 dX12_copy_25 rfl ?_
      obtain ⟨g9, h⟩ := gd_some h
      refine j_iaload (N := 4) C (rfl) (inb_in g9) dX12_copy_26 ?_
      refine j_iconst (v := -1) C dX12_copy_27 (by decide) ?_
      refine j_icmp_eq (tgt := 41) C dX12_copy_28 (by decide) (fun c10 => ?_) (fun c10 => ?_)
      · replace h := it c10 h
        refine j_bipush (v := -11) C dX12_copy_41 (by decide) ?_
        obtain ⟨hv, hs⟩ := s2_inj h
        subst hv
        subst hs
        exact j_iret C e dX12_copy_43
      · replace h := ie c10 h
        refine j_aload_n C 0 dX12_copy_31 rfl ?_
        refine j_getr (o := 0) (j := 15) C inT12 (ci := 11) rfl (by decide) (rfl) rfl rfl wd_1114 dX12_copy_32 (o' := 10) rfl ?_
        refine j_iload_n C 3 dX12_copy_35 rfl ?_
        obtain ⟨g11, h⟩ := gd_some h
        refine j_iaload (N := 4) C (rfl) (inb_in g11) dX12_copy_36 ?_
        refine j_iconst (v := -1) C dX12_copy_37 (by decide) ?_
        refine j_icmp_ne (tgt := 44) C dX12_copy_38 (by decide) (fun c12 => ?_) (fun c12 => ?_)
        · replace h := ie c12 h
          refine j_aload_n C 0 dX12_copy_44 rfl ?_
          refine j_getr (o := 0) (j := 15) C inT12 (ci := 11) rfl (by decide) (rfl) rfl rfl wd_1114 dX12_copy_45 (o' := 10) rfl ?_
          refine j_iload_n C 1 dX12_copy_48 rfl ?_
          refine j_iaload (N := 4) C (rfl) (inb_in g9) dX12_copy_49 ?_
          refine j_aload_n C 0 dX12_copy_50 rfl ?_
          refine j_getr (o := 0) (j := 15) C inT12 (ci := 11) rfl (by decide) (rfl) rfl rfl wd_1114 dX12_copy_51 (o' := 10) rfl ?_
          refine j_iload_n C 3 dX12_copy_54 rfl ?_
          refine j_iaload (N := 4) C (rfl) (inb_in g11) dX12_copy_55 ?_
          refine j_icmp_eq (tgt := 62) C dX12_copy_56 (by decide) (fun c13 => ?_) (fun c13 => ?_)
          · replace h := it c13 h
            refine j_iload C 5 dX12_copy_62 rfl ?_
            refine j_if_lt (tgt := 124) C dX12_copy_64 (by decide) (fun c14 => ?_) (fun c14 => ?_)
            · replace h := it c14 h
              refine j_bipush (v := -12) C dX12_copy_124 (by decide) ?_
              obtain ⟨hv, hs⟩ := s2_inj h
              subst hv
              subst hs
              exact j_iret C e dX12_copy_126
            · replace h := ie c14 h
              refine j_iload_n C 2 dX12_copy_67 rfl ?_
              refine j_if_lt (tgt := 124) C dX12_copy_68 (by decide) (fun c15 => ?_) (fun c15 => ?_)
              · replace h := it c15 h
                refine j_bipush (v := -12) C dX12_copy_124 (by decide) ?_
                obtain ⟨hv, hs⟩ := s2_inj h
                subst hv
                subst hs
                exact j_iret C e dX12_copy_126
              · replace h := ie c15 h
                refine j_iload C 4 dX12_copy_71 rfl ?_
                refine j_if_lt (tgt := 124) C dX12_copy_73 (by decide) (fun c16 => ?_) (fun c16 => ?_)
                · replace h := it c16 h
                  refine j_bipush (v := -12) C dX12_copy_124 (by decide) ?_
                  obtain ⟨hv, hs⟩ := s2_inj h
                  subst hv
                  subst hs
                  exact j_iret C e dX12_copy_126
                · replace h := ie c16 h
                  refine j_iload_n C 2 dX12_copy_76 rfl ?_
                  refine j_aload_n C 0 dX12_copy_77 rfl ?_
                  refine j_getr (o := 0) (j := 16) C inT12 (ci := 11) rfl (by decide) (rfl) rfl rfl wd_1115 dX12_copy_78 (o' := 11) rfl ?_
                  refine j_iload_n C 1 dX12_copy_81 rfl ?_
                  refine j_iaload (N := 4) C (rfl) (inb_in g9) dX12_copy_82 ?_
                  refine j_icmp_gt (tgt := 124) C dX12_copy_83 (by decide) (fun c17 => ?_) (fun c17 => ?_)
                  · replace h := it c17 h
                    refine j_bipush (v := -12) C dX12_copy_124 (by decide) ?_
                    obtain ⟨hv, hs⟩ := s2_inj h
                    subst hv
                    subst hs
                    exact j_iret C e dX12_copy_126
                  · replace h := ie c17 h
                    refine j_iload C 4 dX12_copy_86 rfl ?_
                    refine j_aload_n C 0 dX12_copy_88 rfl ?_
                    refine j_getr (o := 0) (j := 16) C inT12 (ci := 11) rfl (by decide) (rfl) rfl rfl wd_1115 dX12_copy_89 (o' := 11) rfl ?_
                    refine j_iload_n C 3 dX12_copy_92 rfl ?_
                    refine j_iaload (N := 4) C (rfl) (inb_in g11) dX12_copy_93 ?_
                    refine j_icmp_gt (tgt := 124) C dX12_copy_94 (by decide) (fun c18 => ?_) (fun c18 => ?_)
                    · replace h := it c18 h
                      refine j_bipush (v := -12) C dX12_copy_124 (by decide) ?_
                      obtain ⟨hv, hs⟩ := s2_inj h
                      subst hv
                      subst hs
                      exact j_iret C e dX12_copy_126
                    · replace h := ie c18 h
                      refine j_iload C 5 dX12_copy_97 rfl ?_
                      refine j_aload_n C 0 dX12_copy_99 rfl ?_
                      refine j_getr (o := 0) (j := 16) C inT12 (ci := 11) rfl (by decide) (rfl) rfl rfl wd_1115 dX12_copy_100 (o' := 11) rfl ?_
                      refine j_iload_n C 1 dX12_copy_103 rfl ?_
                      refine j_iaload (N := 4) C (rfl) (inb_in g9) dX12_copy_104 ?_
                      refine j_iload_n C 2 dX12_copy_105 rfl ?_
                      refine j_isub C dX12_copy_106 ?_
                      refine j_icmp_gt (tgt := 124) C dX12_copy_107 (by decide) (fun c19 => ?_) (fun c19 => ?_)
                      · replace h := it c19 h
                        refine j_bipush (v := -12) C dX12_copy_124 (by decide) ?_
                        obtain ⟨hv, hs⟩ := s2_inj h
                        subst hv
                        subst hs
                        exact j_iret C e dX12_copy_126
                      · replace h := ie c19 h
                        refine j_iload C 5 dX12_copy_110 rfl ?_
                        refine j_aload_n C 0 dX12_copy_112 rfl ?_
                        refine j_getr (o := 0) (j := 16) C inT12 (ci := 11) rfl (by decide) (rfl) rfl rfl wd_1115 dX12_copy_113 (o' := 11) rfl ?_
                        refine j_iload_n C 3 dX12_copy_116 rfl ?_
                        refine j_iaload (N := 4) C (rfl) (inb_in g11) dX12_copy_117 ?_
                        refine j_iload C 4 dX12_copy_118 rfl ?_
                        refine j_isub C dX12_copy_120 ?_
                        refine j_icmp_le (tgt := 127) C dX12_copy_121 (by decide) (fun c20 => ?_) (fun c20 => ?_)
                        · replace h := it c20 h
                          refine j_bipush (v := 40) C dX12_copy_127 (by decide) ?_
                          refine j_iload_n C 1 dX12_copy_129 rfl ?_
                          refine j_imul C dX12_copy_130 ?_
                          refine j_iload_n C 2 dX12_copy_131 rfl ?_
                          refine j_iadd C dX12_copy_132 ?_
                          refine j_istore (L' := [(6, .int (((40 : Int32) * a1) + a2)), (0, .ref (wad (ωM α) 0)), (1, .int a1), (2, .int a2), (3, .int a3), (4, .int a4), (5, .int a5)]) C dX12_copy_133 rfl rfl ?_
                          refine j_bipush (v := 40) C dX12_copy_135 (by decide) ?_
                          refine j_iload_n C 4 dX12_copy_137 rfl ?_
                          refine j_imul C dX12_copy_138 ?_
                          refine j_iload C 5 dX12_copy_139 rfl ?_
                          refine j_iadd C dX12_copy_141 ?_
                          refine j_istore (L' := [(7, .int (((40 : Int32) * a3) + a4)), (6, .int (((40 : Int32) * a1) + a2)), (0, .ref (wad (ωM α) 0)), (1, .int a1), (2, .int a2), (3, .int a3), (4, .int a4), (5, .int a5)]) C dX12_copy_142 rfl rfl ?_
                          refine j_iconst (v := 0) C dX12_copy_144 (by decide) ?_
                          refine j_istore (L' := [(8, .int (0 : Int32)), (7, .int (((40 : Int32) * a3) + a4)), (6, .int (((40 : Int32) * a1) + a2)), (0, .ref (wad (ωM α) 0)), (1, .int a1), (2, .int a2), (3, .int a3), (4, .int a4), (5, .int a5)]) C dX12_copy_145 rfl rfl ?_
                          exact j_sub [3, 8, 2, 1, 0] rfl (b12_copy_147 C e h)
                        · replace h := ie c20 h
                          refine j_bipush (v := -12) C dX12_copy_124 (by decide) ?_
                          obtain ⟨hv, hs⟩ := s2_inj h
                          subst hv
                          subst hs
                          exact j_iret C e dX12_copy_126
          · replace h := ie c13 h
            refine j_bipush (v := -13) C dX12_copy_59 (by decide) ?_
            obtain ⟨hv, hs⟩ := s2_inj h
            subst hv
            subst hs
            exact j_iret C e dX12_copy_61
        · replace h := it c12 h
          refine j_bipush (v := -11) C dX12_copy_41 (by decide) ?_
          obtain ⟨hv, hs⟩ := s2_inj h
          subst hv
          subst hs
          exact j_iret C e dX12_copy_43
    · replace h := it c8 h
      refine j_bipush (v := -2) C dX12_copy_18 (by decide) ?_
      obtain ⟨hv, hs⟩ := s2_inj h
      subst hv
      subst hs
      exact j_iret C e dX12_copy_20
set_option maxRecDepth 10000 in
theorem b12_childrenBy_135 {α : WA} {κ : KT} {fu : Nat} {v : Int32} {σ' : M2} {x1 : Int32} {x3 : Int32} {x4 : Int32} {x6 : Int32} {y0 : Int32} {y1 : Int32} (C : Cx (ωM α) κ cX12_childrenBy 9 "EveryoneWinsModel" (some FieldType.int)) (e : κ.2.2.2.2.2.2.2.2.2 = (some (.int v), σ')) {k64 : Int32 → Int32 → M2 → Option (Int32 × M2)} (hk64 : ∀ (x5' : Int32) (x6' : Int32) (σ : M2), k64 x5' x6' σ = some (v, σ') → J (ωM α) κ 3 9 64 [(0, .ref (wad (ωM α) 0)), (1, .int x1), (3, .int x3), (4, .int x4), (5, .int x5'), (6, .int x6')] [] σ) {σ : M2} (h : F12_childrenBy_135 fu k64 x1 x3 x4 x6 y0 y1 σ = some (v, σ')) : J (ωM α) κ 3 9 135 [(0, .ref (wad (ωM α) 0)), (1, .int x1), (3, .int x3), (4, .int x4), (6, .int x6)] [.int y0, .int y1] σ := by
  unfold F12_childrenBy_135 at h
  refine j_iadd C dX12_childrenBy_135 ?_
  refine j_istore (L' := [(5, .int (y1 + y0)), (0, .ref (wad (ωM α) 0)), (1, .int x1), (3, .int x3), (4, .int x4), (6, .int x6)]) C dX12_childrenBy_136 rfl rfl ?_
  refine j_iinc (L' := [(6, .int (x6 + 1)), (5, .int (y1 + y0)), (0, .ref (wad (ωM α) 0)), (1, .int x1), (3, .int x3), (4, .int x4)]) C 5 dX12_childrenBy_138 rfl rfl rfl rfl ?_
  refine j_goto (tgt := 64) C dX12_childrenBy_141 (by decide) ?_
  exact j_sub [2, 3, 4, 5, 1, 0] rfl (hk64 _ _ _ h)
set_option maxRecDepth 10000 in
theorem b12_childrenBy_64 {α : WA} {κ : KT} {fu : Nat} {v : Int32} {σ' : M2} {x1 : Int32} {x3 : Int32} {x4 : Int32} {x5 : Int32} {x6 : Int32} (C : Cx (ωM α) κ cX12_childrenBy 9 "EveryoneWinsModel" (some FieldType.int)) (e : κ.2.2.2.2.2.2.2.2.2 = (some (.int v), σ'))  {σ : M2} (h : F12_childrenBy_64 fu x1 x3 x4 x5 x6 σ = some (v, σ')) : J (ωM α) κ 3 9 64 [(0, .ref (wad (ωM α) 0)), (1, .int x1), (3, .int x3), (4, .int x4), (5, .int x5), (6, .int x6)] [] σ := by
  unfold F12_childrenBy_64 at h
  refine wl2_ind (fun x5 x6 σ => J (ωM α) κ 3 9 64 [(0, .ref (wad (ωM α) 0)), (1, .int x1), (3, .int x3), (4, .int x4), (5, .int x5), (6, .int x6)] [] σ) ?_ fu x5 x6 σ h
  intro k64 hk64 x5 x6 σ h
  try dsimp only at h
  show J (ωM α) κ 3 9 64 [(0, .ref (wad (ωM α) 0)), (1, .int x1), (3, .int x3), (4, .int x4), (5, .int x5), (6, .int x6)] [] σ
  refine j_iload C 5 dX12_childrenBy_64 rfl ?_
  refine j_iload C 3 dX12_childrenBy_66 rfl ?_
  refine j_icmp_ge (tgt := 144) C dX12_childrenBy_68 (by decide) (fun c1 => ?_) (fun c1 => ?_)
  · replace h := it c1 h
    refine j_iload C 4 dX12_childrenBy_144 rfl ?_
    obtain ⟨hv, hs⟩ := s2_inj h
    subst hv
    subst hs
    exact j_iret C e dX12_childrenBy_146
  · replace h := ie c1 h
    refine j_iload_n C 2 dX12_childrenBy_71 rfl ?_
    refine j_iconst (v := 1) C dX12_childrenBy_72 (by decide) ?_
    refine j_iload C 5 dX12_childrenBy_73 rfl ?_
    refine j_imul C dX12_childrenBy_75 ?_
    refine j_iadd C dX12_childrenBy_76 ?_
    refine j_istore (L' := [(7, .int (x3 + ((1 : Int32) * x6))), (0, .ref (wad (ωM α) 0)), (1, .int x1), (3, .int x3), (4, .int x4), (5, .int x5), (6, .int x6)]) C dX12_childrenBy_77 rfl rfl ?_
    refine j_iload_n C 3 dX12_childrenBy_79 rfl ?_
    refine j_if_lt (tgt := 102) C dX12_childrenBy_80 (by decide) (fun c2 => ?_) (fun c2 => ?_)
    · replace h := it c2 h
      refine j_bipush (v := -12) C dX12_childrenBy_102 (by decide) ?_
      obtain ⟨hv, hs⟩ := s2_inj h
      subst hv
      subst hs
      exact j_iret C e dX12_childrenBy_104
    · replace h := ie c2 h
      refine j_iload C 0 dX12_childrenBy_83 rfl ?_
      refine j_iload_n C 3 dX12_childrenBy_85 rfl ?_
      refine j_icmp_lt (tgt := 102) C dX12_childrenBy_86 (by decide) (fun c3 => ?_) (fun c3 => ?_)
      · replace h := it c3 h
        refine j_bipush (v := -12) C dX12_childrenBy_102 (by decide) ?_
        obtain ⟨hv, hs⟩ := s2_inj h
        subst hv
        subst hs
        exact j_iret C e dX12_childrenBy_104
      · replace h := ie c3 h
        refine j_iload C 0 dX12_childrenBy_89 rfl ?_
        refine j_aload_n C 1 dX12_childrenBy_91 rfl ?_
        refine j_getr (o := 0) (j := 16) C inT12 (ci := 11) rfl (by decide) (rfl) rfl rfl wd_1115 dX12_childrenBy_92 (o' := 11) rfl ?_
        refine j_iload_n C 2 dX12_childrenBy_95 rfl ?_
        obtain ⟨g4, h⟩ := gd_some h
        refine j_iaload (N := 4) C (rfl) (inb_in g4) dX12_childrenBy_96 ?_
        refine j_iconst (v := 1) C dX12_childrenBy_97 (by decide) ?_
        refine j_isub C dX12_childrenBy_98 ?_
        refine j_icmp_le (tgt := 105) C dX12_childrenBy_99 (by decide) (fun c5 => ?_) (fun c5 => ?_)
        · replace h := it c5 h
          refine j_bipush (v := 40) C dX12_childrenBy_105 (by decide) ?_
          refine j_iload_n C 2 dX12_childrenBy_107 rfl ?_
          refine j_imul C dX12_childrenBy_108 ?_
          refine j_iload C 0 dX12_childrenBy_109 rfl ?_
          refine j_iadd C dX12_childrenBy_111 ?_
          refine j_istore (L' := [(8, .int (((40 : Int32) * x1) + (x3 + ((1 : Int32) * x6)))), (7, .int (x3 + ((1 : Int32) * x6))), (0, .ref (wad (ωM α) 0)), (1, .int x1), (3, .int x3), (4, .int x4), (5, .int x5), (6, .int x6)]) C dX12_childrenBy_112 rfl rfl ?_
          refine j_iload C 6 dX12_childrenBy_114 rfl ?_
          refine j_aload_n C 2 dX12_childrenBy_116 rfl ?_
          refine j_aload_n C 2 dX12_childrenBy_117 rfl ?_
          refine j_getr (o := 0) (j := 17) C inT12 (ci := 11) rfl (by decide) (rfl) rfl rfl wd_1116 dX12_childrenBy_118 (o' := 12) rfl ?_
          refine j_iload C 0 dX12_childrenBy_121 rfl ?_
          obtain ⟨g6, h⟩ := gd_some h
          refine j_iaload (N := 160) C (rfl) (inb_in g6) dX12_childrenBy_123 ?_
          obtain ⟨r7, s8, hc9, h⟩ := bnd_some h
          refine k_V (v := some (.int r7)) C vb_X12_child (ci := 11) (T := TX12) (N := 45) rfl (by decide) (c12_child _ hc9) rfl (by decide) wd_1464 (rfl) rfl dX12_childrenBy_124 ?_
          show J (ωM α) κ _ _ 127 _ [.int r7, .int x5] s8
          refine j_if_lt (tgt := 134) C dX12_childrenBy_127 (by decide) (fun c10 => ?_) (fun c10 => ?_)
          · replace h := it c10 h
            refine j_iconst (v := 0) C dX12_childrenBy_134 (by decide) ?_
            exact j_sub [2, 3, 4, 5, 7] rfl (b12_childrenBy_135 C e hk64 h)
          · replace h := ie c10 h
            refine j_iconst (v := 1) C dX12_childrenBy_130 (by decide) ?_
            refine j_goto (tgt := 135) C dX12_childrenBy_131 (by decide) ?_
            exact j_sub [2, 3, 4, 5, 7] rfl (b12_childrenBy_135 C e hk64 h)
        · replace h := ie c5 h
          refine j_bipush (v := -12) C dX12_childrenBy_102 (by decide) ?_
          obtain ⟨hv, hs⟩ := s2_inj h
          subst hv
          subst hs
          exact j_iret C e dX12_childrenBy_104
set_option maxRecDepth 10000 in
theorem c12_childrenBy (l : Launch) {α : WA} {fu : Nat} {a1 : Int32} {a2 : Int32} {a3 : Int32} {a4 : Int32} {σ σ' : M2} {v : Int32}  (h : F12_childrenBy fu a1 a2 a3 a4 σ = some (v, σ')) : Ct l (ωM α) yX12_childrenBy cX12_childrenBy 9 (some FieldType.int) 3 [.ref (wad (ωM α) 0), .int a1, .int a2, .int a3, .int a4] σ (some (.int v)) σ' := by
  unfold F12_childrenBy at h
  refine Ct.of (own := "EveryoneWinsModel") (L := [(0, .ref (wad (ωM α) 0)), (1, .int a1), (2, .int a2), (3, .int a3), (4, .int a4)]) (by decide +kernel) rfl rfl rfl (fun κ hl e C => ?_)
  show J (ωM α) κ 3 9 0 [(0, .ref (wad (ωM α) 0)), (1, .int a1), (2, .int a2), (3, .int a3), (4, .int a4)] [] σ
  refine j_iload_n C 1 dX12_childrenBy_0 rfl ?_
  refine j_iconst (v := 0) C dX12_childrenBy_1 (by decide) ?_
  refine j_iconst (v := 3) C dX12_childrenBy_2 (by decide) ?_
  obtain ⟨r1, s2, hc3, h⟩ := bnd_some h
  refine k_S (v := some (.int r1)) C sb_X12_in (c12_in _ hc3) rfl (by decide) wd_1060 rfl dX12_childrenBy_3 ?_
  show J (ωM α) κ _ _ 6 _ [.int r1] s2
  refine j_if_eq (tgt := 29) C dX12_childrenBy_6 (by decide) (fun c4 => ?_) (fun c4 => ?_)
  · replace h := it c4 h
    refine j_bipush (v := -2) C dX12_childrenBy_29 (by decide) ?_
    obtain ⟨hv, hs⟩ := s2_inj h
    subst hv
    subst hs
    exact j_iret C e dX12_childrenBy_31
  · replace h := ie c4 h
    refine j_iload_n C 2 dX12_childrenBy_9 rfl ?_
    refine j_iconst (v := 0) C dX12_childrenBy_10 (by decide) ?_
    refine j_iconst (v := 2) C dX12_childrenBy_11 (by decide) ?_
    obtain ⟨r5, s6, hc7, h⟩ := bnd_some h
    refine k_S (v := some (.int r5)) C sb_X12_in (c12_in _ hc7) rfl (by decide) wd_1060 rfl dX12_childrenBy_12 ?_
    show J (ωM α) κ _ _ 15 _ [.int r5] s6
    refine j_if_eq (tgt := 29) C dX12_childrenBy_15 (by decide) (fun c8 => ?_) (fun c8 => ?_)
    · replace h := it c8 h
      refine j_bipush (v := -2) C dX12_childrenBy_29 (by decide) ?_
      obtain ⟨hv, hs⟩ := s2_inj h
      subst hv
      subst hs
      exact j_iret C e dX12_childrenBy_31
    · replace h := ie c8 h
      refine j_iload C 4 dX12_childrenBy_18 rfl ?_
      refine j_iconst (v := 0) C dX12_childrenBy_20 (by decide) ?_
      refine j_bipush (v := 8) C dX12_childrenBy_21 (by decide) ?_
      obtain ⟨r9, s10, hc11, h⟩ := bnd_some h
      refine k_S (v := some (.int r9)) C sb_X12_in (c12_in _ hc11) rfl (by decide) wd_1060 rfl dX12_childrenBy_23 ?_
      show J (ωM α) κ _ _ 26 _ [.int r9] s10
      refine j_if_ne (tgt := 32) C dX12_childrenBy_26 (by decide) (fun c12 => ?_) (fun c12 => ?_)
      · replace h := ie c12 h
        refine j_aload_n C 0 dX12_childrenBy_32 rfl ?_
        refine j_getr (o := 0) (j := 15) C inT12 (ci := 11) rfl (by decide) (rfl) rfl rfl wd_1114 dX12_childrenBy_33 (o' := 10) rfl ?_
        refine j_iload_n C 1 dX12_childrenBy_36 rfl ?_
        obtain ⟨g13, h⟩ := gd_some h
        refine j_iaload (N := 4) C (rfl) (inb_in g13) dX12_childrenBy_37 ?_
        refine j_iconst (v := -1) C dX12_childrenBy_38 (by decide) ?_
        refine j_icmp_ne (tgt := 45) C dX12_childrenBy_39 (by decide) (fun c14 => ?_) (fun c14 => ?_)
        · replace h := ie c14 h
          refine j_aload_n C 0 dX12_childrenBy_45 rfl ?_
          refine j_getr (o := 0) (j := 15) C inT12 (ci := 11) rfl (by decide) (rfl) rfl rfl wd_1114 dX12_childrenBy_46 (o' := 10) rfl ?_
          refine j_iload_n C 1 dX12_childrenBy_49 rfl ?_
          refine j_iaload (N := 4) C (rfl) (inb_in g13) dX12_childrenBy_50 ?_
          refine j_iload_n C 2 dX12_childrenBy_51 rfl ?_
          refine j_icmp_eq (tgt := 58) C dX12_childrenBy_52 (by decide) (fun c15 => ?_) (fun c15 => ?_)
          · replace h := it c15 h
            refine j_iconst (v := 0) C dX12_childrenBy_58 (by decide) ?_
            refine j_istore (L' := [(5, .int (0 : Int32)), (0, .ref (wad (ωM α) 0)), (1, .int a1), (2, .int a2), (3, .int a3), (4, .int a4)]) C dX12_childrenBy_59 rfl rfl ?_
            refine j_iconst (v := 0) C dX12_childrenBy_61 (by decide) ?_
            refine j_istore (L' := [(6, .int (0 : Int32)), (5, .int (0 : Int32)), (0, .ref (wad (ωM α) 0)), (1, .int a1), (2, .int a2), (3, .int a3), (4, .int a4)]) C dX12_childrenBy_62 rfl rfl ?_
            exact j_sub [2, 3, 5, 6, 1, 0] rfl (b12_childrenBy_64 C e h)
          · replace h := ie c15 h
            refine j_bipush (v := -13) C dX12_childrenBy_55 (by decide) ?_
            obtain ⟨hv, hs⟩ := s2_inj h
            subst hv
            subst hs
            exact j_iret C e dX12_childrenBy_57
        · replace h := it c14 h
          refine j_bipush (v := -11) C dX12_childrenBy_42 (by decide) ?_
          obtain ⟨hv, hs⟩ := s2_inj h
          subst hv
          subst hs
          exact j_iret C e dX12_childrenBy_44
      · replace h := it c12 h
        refine j_bipush (v := -2) C dX12_childrenBy_29 (by decide) ?_
        obtain ⟨hv, hs⟩ := s2_inj h
        subst hv
        subst hs
        exact j_iret C e dX12_childrenBy_31
set_option maxRecDepth 10000 in
theorem b12_isUnder_19 {α : WA} {κ : KT}  {v : Int32} {σ' : M2} {x0 : Int32} {x1 : Int32} (C : Cx (ωM α) κ cX12_isUnder 2 "EveryoneWinsModel" (some FieldType.boolean)) (e : κ.2.2.2.2.2.2.2.2.2 = (some (.int v), σ'))  {σ : M2} (h : F12_isUnder_19 x0 x1 σ = some (v, σ')) : J (ωM α) κ 1 2 19 [(0, .int x0), (1, .int x1)] [] σ := by
  unfold F12_isUnder_19 at h
  refine j_iload_n C 1 dX12_isUnder_19 rfl ?_
  refine j_iconst (v := 2) C dX12_isUnder_20 (by decide) ?_
  refine j_icmp_ne (tgt := 33) C dX12_isUnder_21 (by decide) (fun c1 => ?_) (fun c1 => ?_)
  · replace h := ie c1 h
    refine j_iconst (v := 0) C dX12_isUnder_33 (by decide) ?_
    obtain ⟨hv, hs⟩ := s2_inj h
    subst hv
    subst hs
    exact j_zret C e rfl dX12_isUnder_34
  · replace h := it c1 h
    refine j_iload_n C 0 dX12_isUnder_24 rfl ?_
    refine j_iconst (v := 4) C dX12_isUnder_25 (by decide) ?_
    refine j_icmp_ne (tgt := 33) C dX12_isUnder_26 (by decide) (fun c2 => ?_) (fun c2 => ?_)
    · replace h := ie c2 h
      refine j_iconst (v := 0) C dX12_isUnder_33 (by decide) ?_
      obtain ⟨hv, hs⟩ := s2_inj h
      subst hv
      subst hs
      exact j_zret C e rfl dX12_isUnder_34
    · replace h := it c2 h
      refine j_iconst (v := 1) C dX12_isUnder_29 (by decide) ?_
      refine j_goto (tgt := 34) C dX12_isUnder_30 (by decide) ?_
      obtain ⟨hv, hs⟩ := s2_inj h
      subst hv
      subst hs
      exact j_zret C e rfl dX12_isUnder_34
set_option maxRecDepth 10000 in
theorem c12_isUnder (l : Launch) {α : WA}  {a1 : Int32} {a2 : Int32} {σ σ' : M2} {v : Int32}  (h : F12_isUnder a1 a2 σ = some (v, σ')) : Ct l (ωM α) yX12_isUnder cX12_isUnder 2 (some FieldType.boolean) 1 [.int a1, .int a2] σ (some (.int v)) σ' := by
  unfold F12_isUnder at h
  refine Ct.of (own := "EveryoneWinsModel") (L := [(0, .int a1), (1, .int a2)]) (by decide +kernel) rfl rfl rfl (fun κ hl e C => ?_)
  show J (ωM α) κ 1 2 0 [(0, .int a1), (1, .int a2)] [] σ
  refine j_iload_n C 1 dX12_isUnder_0 rfl ?_
  refine j_if_eq (tgt := 29) C dX12_isUnder_1 (by decide) (fun c1 => ?_) (fun c1 => ?_)
  · replace h := it c1 h
    refine j_iconst (v := 1) C dX12_isUnder_29 (by decide) ?_
    refine j_goto (tgt := 34) C dX12_isUnder_30 (by decide) ?_
    obtain ⟨hv, hs⟩ := s2_inj h
    subst hv
    subst hs
    exact j_zret C e rfl dX12_isUnder_34
  · replace h := ie c1 h
    refine j_iload_n C 0 dX12_isUnder_4 rfl ?_
    refine j_iload_n C 1 dX12_isUnder_5 rfl ?_
    refine j_icmp_eq (tgt := 29) C dX12_isUnder_6 (by decide) (fun c2 => ?_) (fun c2 => ?_)
    · replace h := it c2 h
      refine j_iconst (v := 1) C dX12_isUnder_29 (by decide) ?_
      refine j_goto (tgt := 34) C dX12_isUnder_30 (by decide) ?_
      obtain ⟨hv, hs⟩ := s2_inj h
      subst hv
      subst hs
      exact j_zret C e rfl dX12_isUnder_34
    · replace h := ie c2 h
      refine j_iload_n C 1 dX12_isUnder_9 rfl ?_
      refine j_iconst (v := 1) C dX12_isUnder_10 (by decide) ?_
      refine j_icmp_ne (tgt := 19) C dX12_isUnder_11 (by decide) (fun c3 => ?_) (fun c3 => ?_)
      · replace h := ie c3 h
        exact (b12_isUnder_19 C e h)
      · replace h := it c3 h
        refine j_iload_n C 0 dX12_isUnder_14 rfl ?_
        refine j_iconst (v := 3) C dX12_isUnder_15 (by decide) ?_
        refine j_icmp_eq (tgt := 29) C dX12_isUnder_16 (by decide) (fun c4 => ?_) (fun c4 => ?_)
        · replace h := it c4 h
          refine j_iconst (v := 1) C dX12_isUnder_29 (by decide) ?_
          refine j_goto (tgt := 34) C dX12_isUnder_30 (by decide) ?_
          obtain ⟨hv, hs⟩ := s2_inj h
          subst hv
          subst hs
          exact j_zret C e rfl dX12_isUnder_34
        · replace h := ie c4 h
          exact (b12_isUnder_19 C e h)
set_option maxRecDepth 10000 in
theorem c12_taken (l : Launch) {α : WA}  {a1 : Int32} {a2 : Int32} {σ σ' : M2} {v : Int32}  (h : F12_taken a1 a2 σ = some (v, σ')) : Ct l (ωM α) yX12_taken cX12_taken 3 (some FieldType.int) 2 [.ref (wad (ωM α) 0), .int a1, .int a2] σ (some (.int v)) σ' := by
  unfold F12_taken at h
  refine Ct.of (own := "EveryoneWinsModel") (L := [(0, .ref (wad (ωM α) 0)), (1, .int a1), (2, .int a2)]) (by decide +kernel) rfl rfl rfl (fun κ hl e C => ?_)
  show J (ωM α) κ 2 3 0 [(0, .ref (wad (ωM α) 0)), (1, .int a1), (2, .int a2)] [] σ
  refine j_iload_n C 2 dX12_taken_0 rfl ?_
  refine j_iconst (v := 0) C dX12_taken_1 (by decide) ?_
  refine j_bipush (v := 6) C dX12_taken_2 (by decide) ?_
  obtain ⟨r1, s2, hc3, h⟩ := bnd_some h
  refine k_S (v := some (.int r1)) C sb_X12_in (c12_in _ hc3) rfl (by decide) wd_1060 rfl dX12_taken_4 ?_
  show J (ωM α) κ _ _ 7 _ [.int r1] s2
  refine j_if_ne (tgt := 13) C dX12_taken_7 (by decide) (fun c4 => ?_) (fun c4 => ?_)
  · replace h := ie c4 h
    refine j_iload_n C 1 dX12_taken_13 rfl ?_
    refine j_iconst (v := 0) C dX12_taken_14 (by decide) ?_
    refine j_bipush (v := 13) C dX12_taken_15 (by decide) ?_
    obtain ⟨r5, s6, hc7, h⟩ := bnd_some h
    refine k_S (v := some (.int r5)) C sb_X12_in (c12_in _ hc7) rfl (by decide) wd_1060 rfl dX12_taken_17 ?_
    show J (ωM α) κ _ _ 20 _ [.int r5] s6
    refine j_if_ne (tgt := 26) C dX12_taken_20 (by decide) (fun c8 => ?_) (fun c8 => ?_)
    · replace h := ie c8 h
      refine j_iload_n C 1 dX12_taken_26 rfl ?_
      refine j_bipush (v := 6) C dX12_taken_27 (by decide) ?_
      refine j_icmp_lt (tgt := 71) C dX12_taken_29 (by decide) (fun c9 => ?_) (fun c9 => ?_)
      · replace h := it c9 h
        refine j_iload_n C 1 dX12_taken_71 rfl ?_
        refine j_aload_n C 0 dX12_taken_72 rfl ?_
        refine j_geti (o := 0) (j := 2) C inT12 (ci := 11) rfl (by decide) (rfl) rfl rfl wd_1101 dX12_taken_73 ?_
        refine j_icmp_lt (tgt := 84) C dX12_taken_76 (by decide) (fun c10 => ?_) (fun c10 => ?_)
        · replace h := it c10 h
          refine j_iload_n C 2 dX12_taken_84 rfl ?_
          refine j_bipush (v := 6) C dX12_taken_85 (by decide) ?_
          refine j_icmp_ge (tgt := 107) C dX12_taken_87 (by decide) (fun c11 => ?_) (fun c11 => ?_)
          · replace h := it c11 h
            refine j_bipush (v := -13) C dX12_taken_107 (by decide) ?_
            obtain ⟨hv, hs⟩ := s2_inj h
            subst hv
            subst hs
            exact j_iret C e dX12_taken_109
          · replace h := ie c11 h
            refine j_aload_n C 0 dX12_taken_90 rfl ?_
            refine j_getr (o := 0) (j := 3) C inT12 (ci := 11) rfl (by decide) (rfl) rfl rfl wd_1102 dX12_taken_91 (o' := 2) rfl ?_
            refine j_iload_n C 1 dX12_taken_94 rfl ?_
            obtain ⟨g12, h⟩ := gd_some h
            refine j_iaload (N := 6) C (rfl) (inb_in g12) dX12_taken_95 ?_
            refine j_iload_n C 2 dX12_taken_96 rfl ?_
            obtain ⟨r13, s14, hc15, h⟩ := bnd_some h
            refine k_S (v := some (.int r13)) C sb_X12_isUnder (c12_isUnder _ hc15) rfl (by decide) wd_1469 rfl dX12_taken_97 ?_
            show J (ωM α) κ _ _ 100 _ [.int r13] s14
            refine j_if_eq (tgt := 107) C dX12_taken_100 (by decide) (fun c16 => ?_) (fun c16 => ?_)
            · replace h := it c16 h
              refine j_bipush (v := -13) C dX12_taken_107 (by decide) ?_
              obtain ⟨hv, hs⟩ := s2_inj h
              subst hv
              subst hs
              exact j_iret C e dX12_taken_109
            · replace h := ie c16 h
              refine j_iload_n C 1 dX12_taken_103 rfl ?_
              refine j_goto (tgt := 109) C dX12_taken_104 (by decide) ?_
              obtain ⟨hv, hs⟩ := s2_inj h
              subst hv
              subst hs
              exact j_iret C e dX12_taken_109
        · replace h := ie c10 h
          refine j_bipush (v := -11) C dX12_taken_79 (by decide) ?_
          refine j_goto (tgt := 109) C dX12_taken_81 (by decide) ?_
          obtain ⟨hv, hs⟩ := s2_inj h
          subst hv
          subst hs
          exact j_iret C e dX12_taken_109
      · replace h := ie c9 h
        refine j_iload_n C 1 dX12_taken_32 rfl ?_
        refine j_bipush (v := 6) C dX12_taken_33 (by decide) ?_
        refine j_isub C dX12_taken_35 ?_
        refine j_aload_n C 0 dX12_taken_36 rfl ?_
        refine j_geti (o := 0) (j := 0) C inT12 (ci := 11) rfl (by decide) (rfl) rfl rfl wd_1099 dX12_taken_37 ?_
        refine j_icmp_lt (tgt := 48) C dX12_taken_40 (by decide) (fun c17 => ?_) (fun c17 => ?_)
        · replace h := it c17 h
          refine j_iload_n C 2 dX12_taken_48 rfl ?_
          refine j_bipush (v := 6) C dX12_taken_49 (by decide) ?_
          refine j_icmp_ne (tgt := 68) C dX12_taken_51 (by decide) (fun c18 => ?_) (fun c18 => ?_)
          · replace h := ie c18 h
            refine j_bipush (v := -13) C dX12_taken_68 (by decide) ?_
            obtain ⟨hv, hs⟩ := s2_inj h
            subst hv
            subst hs
            exact j_iret C e dX12_taken_70
          · replace h := it c18 h
            refine j_aload_n C 0 dX12_taken_54 rfl ?_
            refine j_getr (o := 0) (j := 1) C inT12 (ci := 11) rfl (by decide) (rfl) rfl rfl wd_1100 dX12_taken_55 (o' := 1) rfl ?_
            refine j_iconst (v := 3) C dX12_taken_58 (by decide) ?_
            refine j_iload_n C 1 dX12_taken_59 rfl ?_
            refine j_bipush (v := 6) C dX12_taken_60 (by decide) ?_
            refine j_isub C dX12_taken_62 ?_
            refine j_imul C dX12_taken_63 ?_
            obtain ⟨g19, h⟩ := gd_some h
            refine j_iaload (N := 24) C (rfl) (inb_in g19) dX12_taken_64 ?_
            refine j_goto (tgt := 70) C dX12_taken_65 (by decide) ?_
            obtain ⟨hv, hs⟩ := s2_inj h
            subst hv
            subst hs
            exact j_iret C e dX12_taken_70
        · replace h := ie c17 h
          refine j_bipush (v := -11) C dX12_taken_43 (by decide) ?_
          refine j_goto (tgt := 70) C dX12_taken_45 (by decide) ?_
          obtain ⟨hv, hs⟩ := s2_inj h
          subst hv
          subst hs
          exact j_iret C e dX12_taken_70
    · replace h := it c8 h
      refine j_bipush (v := -12) C dX12_taken_23 (by decide) ?_
      obtain ⟨hv, hs⟩ := s2_inj h
      subst hv
      subst hs
      exact j_iret C e dX12_taken_25
  · replace h := it c4 h
    refine j_bipush (v := -2) C dX12_taken_10 (by decide) ?_
    obtain ⟨hv, hs⟩ := s2_inj h
    subst hv
    subst hs
    exact j_iret C e dX12_taken_12
