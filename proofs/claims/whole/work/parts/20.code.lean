set_option maxRecDepth 10000 in
theorem c0_take (l : Launch) {α : WA}  {a1 : Int32} {σ σ' : M2}  (h : F0_take a1 σ = some ((), σ')) : Ct l (ωC α) yX0_take cX0_take 3 (none) 1 [.ref (wad (ωC α) 47), .int a1, .ref (wad (ωC α) 41)] σ (none) σ' := by
  unfold F0_take at h
  refine Ct.of (own := "EveryoneWins$Best") (L := [(0, .ref (wad (ωC α) 47)), (1, .int a1), (2, .ref (wad (ωC α) 41))]) (by decide +kernel) rfl rfl rfl (fun κ hl e C => ?_)
  show J (ωC α) κ 1 3 0 [(0, .ref (wad (ωC α) 47)), (1, .int a1), (2, .ref (wad (ωC α) 41))] [] σ
  refine j_aload_n C 0 dX0_take_0 rfl ?_
  refine j_iload_n C 1 dX0_take_1 rfl ?_
  refine j_puti (o := 47) (j := 0) C inT0 tyX0_ok nmX0 (ci := 0) rfl (by decide) (rfl) rfl rfl rfl (tyX0_ok 0 (by decide)) rfl rfl wd_308 dX0_take_2 ?_
  refine j_aload_n C 0 dX0_take_5 rfl ?_
  refine j_aload_n C 2 dX0_take_6 rfl ?_
  refine j_geti (o := 41) (j := 10) C inT2 (ci := 2) rfl (by decide) (rfl) rfl rfl wd_272 dX0_take_7 ?_
  refine j_puti (o := 47) (j := 1) C inT0 tyX0_ok nmX0 (ci := 0) rfl (by decide) (rfl) rfl rfl rfl (tyX0_ok 1 (by decide)) rfl rfl wd_309 dX0_take_10 ?_
  refine j_aload_n C 0 dX0_take_13 rfl ?_
  refine j_aload_n C 2 dX0_take_14 rfl ?_
  refine j_geti (o := 41) (j := 8) C inT2 (ci := 2) rfl (by decide) (rfl) rfl rfl wd_266 dX0_take_15 ?_
  refine j_puti (o := 47) (j := 2) C inT0 tyX0_ok nmX0 (ci := 0) rfl (by decide) (rfl) rfl rfl rfl (tyX0_ok 2 (by decide)) rfl rfl wd_310 dX0_take_18 ?_
  cases h
  exact j_vret C e dX0_take_21
set_option maxRecDepth 10000 in
theorem c0_startFrom (l : Launch) {α : WA}   {σ σ' : M2}  (h : F0_startFrom  σ = some ((), σ')) : Ct l (ωC α) yX0_startFrom cX0_startFrom 2 (none) 2 [.ref (wad (ωC α) 47), .ref (wad (ωC α) 41)] σ (none) σ' := by
  unfold F0_startFrom at h
  refine Ct.of (own := "EveryoneWins$Best") (L := [(0, .ref (wad (ωC α) 47)), (1, .ref (wad (ωC α) 41))]) (by decide +kernel) rfl rfl rfl (fun κ hl e C => ?_)
  show J (ωC α) κ 2 2 0 [(0, .ref (wad (ωC α) 47)), (1, .ref (wad (ωC α) 41))] [] σ
  refine j_aload_n C 0 dX0_startFrom_0 rfl ?_
  refine j_iconst (v := -1) C dX0_startFrom_1 (by decide) ?_
  refine j_aload_n C 1 dX0_startFrom_2 rfl ?_
  obtain ⟨r1, s2, hc3, h⟩ := bnd_some h
  refine k_V (v := none) C vb_X0_take (ci := 0) (T := TX0) (N := 3) rfl (by decide) (c0_take _ hc3) rfl (by decide) wd_839 (rfl) rfl dX0_startFrom_3 ?_
  show J (ωC α) κ _ _ 6 _ [] s2
  cases h
  exact j_vret C e dX0_startFrom_6
set_option maxRecDepth 10000 in
theorem b0_weigh_33 {α : WA} {κ : KT}  {σ' : M2} {x1 : Int32} (C : Cx (ωC α) κ cX0_weigh 3 "EveryoneWins$Best" (none)) (e : κ.2.2.2.2.2.2.2.2.2 = (none, σ'))  {σ : M2} (h : F0_weigh_33 x1 σ = some ((), σ')) : J (ωC α) κ 2 3 33 [(0, .ref (wad (ωC α) 47)), (1, .int x1), (2, .ref (wad (ωC α) 41))] [] σ := by
  unfold F0_weigh_33 at h
  refine j_aload_n C 0 dX0_weigh_33 rfl ?_
  refine j_iload_n C 1 dX0_weigh_34 rfl ?_
  refine j_aload_n C 2 dX0_weigh_35 rfl ?_
  obtain ⟨r1, s2, hc3, h⟩ := bnd_some h
  refine k_V (v := none) C vb_X0_take (ci := 0) (T := TX0) (N := 3) rfl (by decide) (c0_take _ hc3) rfl (by decide) wd_839 (rfl) rfl dX0_weigh_36 ?_
  show J (ωC α) κ _ _ 39 _ [] s2
  cases h
  exact j_vret C e dX0_weigh_39
set_option maxRecDepth 10000 in
theorem c0_weigh (l : Launch) {α : WA}  {a1 : Int32} {σ σ' : M2}  (h : F0_weigh a1 σ = some ((), σ')) : Ct l (ωC α) yX0_weigh cX0_weigh 3 (none) 2 [.ref (wad (ωC α) 47), .int a1, .ref (wad (ωC α) 41)] σ (none) σ' := by
  unfold F0_weigh at h
  refine Ct.of (own := "EveryoneWins$Best") (L := [(0, .ref (wad (ωC α) 47)), (1, .int a1), (2, .ref (wad (ωC α) 41))]) (by decide +kernel) rfl rfl rfl (fun κ hl e C => ?_)
  show J (ωC α) κ 2 3 0 [(0, .ref (wad (ωC α) 47)), (1, .int a1), (2, .ref (wad (ωC α) 41))] [] σ
  refine j_aload_n C 2 dX0_weigh_0 rfl ?_
  refine j_geti (o := 41) (j := 10) C inT2 (ci := 2) rfl (by decide) (rfl) rfl rfl wd_272 dX0_weigh_1 ?_
  refine j_aload_n C 0 dX0_weigh_4 rfl ?_
  refine j_geti (o := 47) (j := 1) C inT0 (ci := 0) rfl (by decide) (rfl) rfl rfl wd_309 dX0_weigh_5 ?_
  refine j_icmp_lt (tgt := 33) C dX0_weigh_8 (by decide) (fun c1 => ?_) (fun c1 => ?_)
  · replace h := it c1 h
    exact (b0_weigh_33 C e h)
  · replace h := ie c1 h
    refine j_aload_n C 2 dX0_weigh_11 rfl ?_
    refine j_geti (o := 41) (j := 10) C inT2 (ci := 2) rfl (by decide) (rfl) rfl rfl wd_272 dX0_weigh_12 ?_
    refine j_aload_n C 0 dX0_weigh_15 rfl ?_
    refine j_geti (o := 47) (j := 1) C inT0 (ci := 0) rfl (by decide) (rfl) rfl rfl wd_309 dX0_weigh_16 ?_
    refine j_icmp_ne (tgt := 39) C dX0_weigh_19 (by decide) (fun c2 => ?_) (fun c2 => ?_)
    · replace h := ie c2 h
      cases h
      exact j_vret C e dX0_weigh_39
    · replace h := it c2 h
      refine j_aload_n C 2 dX0_weigh_22 rfl ?_
      refine j_geti (o := 41) (j := 8) C inT2 (ci := 2) rfl (by decide) (rfl) rfl rfl wd_266 dX0_weigh_23 ?_
      refine j_aload_n C 0 dX0_weigh_26 rfl ?_
      refine j_geti (o := 47) (j := 2) C inT0 (ci := 0) rfl (by decide) (rfl) rfl rfl wd_310 dX0_weigh_27 ?_
      refine j_icmp_le (tgt := 39) C dX0_weigh_30 (by decide) (fun c3 => ?_) (fun c3 => ?_)
      · replace h := it c3 h
        cases h
        exact j_vret C e dX0_weigh_39
      · replace h := ie c3 h
        exact (b0_weigh_33 C e h)
set_option maxRecDepth 10000 in
theorem c0_tells (l : Launch) {α : WA}  {a1 : Int32} {σ σ' : M2} {v : Int32}  (h : F0_tells a1 σ = some (v, σ')) : Ct l (ωC α) yX0_tells cX0_tells 2 (some FieldType.int) 1 [.ref (wad (ωC α) 47), .int a1] σ (some (.int v)) σ' := by
  unfold F0_tells at h
  refine Ct.of (own := "EveryoneWins$Best") (L := [(0, .ref (wad (ωC α) 47)), (1, .int a1)]) (by decide +kernel) rfl rfl rfl (fun κ hl e C => ?_)
  show J (ωC α) κ 1 2 0 [(0, .ref (wad (ωC α) 47)), (1, .int a1)] [] σ
  refine j_iload_n C 1 dX0_tells_0 rfl ?_
  refine j_if_ne (tgt := 11) C dX0_tells_1 (by decide) (fun c1 => ?_) (fun c1 => ?_)
  · replace h := ie c1 h
    refine j_iload_n C 1 dX0_tells_11 rfl ?_
    refine j_iconst (v := 1) C dX0_tells_12 (by decide) ?_
    refine j_icmp_ne (tgt := 23) C dX0_tells_13 (by decide) (fun c2 => ?_) (fun c2 => ?_)
    · replace h := ie c2 h
      refine j_aload_n C 0 dX0_tells_23 rfl ?_
      refine j_geti (o := 47) (j := 2) C inT0 (ci := 0) rfl (by decide) (rfl) rfl rfl wd_310 dX0_tells_24 ?_
      cases h
      exact j_iret C e dX0_tells_27
    · replace h := it c2 h
      refine j_aload_n C 0 dX0_tells_16 rfl ?_
      refine j_geti (o := 47) (j := 1) C inT0 (ci := 0) rfl (by decide) (rfl) rfl rfl wd_309 dX0_tells_17 ?_
      refine j_goto (tgt := 27) C dX0_tells_20 (by decide) ?_
      cases h
      exact j_iret C e dX0_tells_27
  · replace h := it c1 h
    refine j_aload_n C 0 dX0_tells_4 rfl ?_
    refine j_geti (o := 47) (j := 0) C inT0 (ci := 0) rfl (by decide) (rfl) rfl rfl wd_308 dX0_tells_5 ?_
    refine j_goto (tgt := 27) C dX0_tells_8 (by decide) ?_
    cases h
    exact j_iret C e dX0_tells_27
set_option maxRecDepth 10000 in
theorem b3_isOne_37 {α : WA} {κ : KT} {fu : Nat} {v : Int32} {σ' : M2} {x1 : Int32} {x3 : Int32} {y0 : Int32} (C : Cx (ωC α) κ cX3_isOne 4 "EveryoneWins$Kinds" (some FieldType.boolean)) (e : κ.2.2.2.2.2.2.2.2.2 = (some (.int v), σ')) {k4 : Int32 → Int32 → M2 → Option (Int32 × M2)} (hk4 : ∀ (x2' : Int32) (x3' : Int32) (σ : M2), k4 x2' x3' σ = some (v, σ') → J (ωC α) κ 1 4 4 [(1, .int x1), (2, .int x2'), (3, .int x3')] [] σ) {σ : M2} (h : F3_isOne_37 fu k4 x1 x3 y0 σ = some (v, σ')) : J (ωC α) κ 1 4 37 [(1, .int x1), (3, .int x3)] [.int y0] σ := by
  unfold F3_isOne_37 at h
  refine j_istore_n (L' := [(2, .int y0), (1, .int x1), (3, .int x3)]) C dX3_isOne_37 rfl rfl rfl ?_
  refine j_iinc (L' := [(3, .int (x3 + 1)), (2, .int y0), (1, .int x1)]) C 2 dX3_isOne_38 rfl rfl rfl rfl ?_
  refine j_goto (tgt := 4) C dX3_isOne_41 (by decide) ?_
  exact j_sub [2, 1, 0] rfl (hk4 _ _ _ h)
set_option maxRecDepth 10000 in
theorem b3_isOne_4 {α : WA} {κ : KT} {fu : Nat} {v : Int32} {σ' : M2} {x1 : Int32} {x2 : Int32} {x3 : Int32} (C : Cx (ωC α) κ cX3_isOne 4 "EveryoneWins$Kinds" (some FieldType.boolean)) (e : κ.2.2.2.2.2.2.2.2.2 = (some (.int v), σ'))  {σ : M2} (h : F3_isOne_4 fu x1 x2 x3 σ = some (v, σ')) : J (ωC α) κ 1 4 4 [(1, .int x1), (2, .int x2), (3, .int x3)] [] σ := by
  unfold F3_isOne_4 at h
  refine wl2_ind (fun x2 x3 σ => J (ωC α) κ 1 4 4 [(1, .int x1), (2, .int x2), (3, .int x3)] [] σ) ?_ fu x2 x3 σ h
  intro k4 hk4 x2 x3 σ h
  try dsimp only at h
  show J (ωC α) κ 1 4 4 [(1, .int x1), (2, .int x2), (3, .int x3)] [] σ
  refine j_iload_n C 2 dX3_isOne_4 rfl ?_
  refine j_iconst (v := 5) C dX3_isOne_5 (by decide) ?_
  refine j_icmp_gt (tgt := 44) C dX3_isOne_6 (by decide) (fun c1 => ?_) (fun c1 => ?_)
  · replace h := it c1 h
    refine j_iconst (v := 0) C dX3_isOne_44 (by decide) ?_
    cases h
    exact j_zret C e rfl dX3_isOne_45
  · replace h := ie c1 h
    refine j_iload_n C 1 dX3_isOne_9 rfl ?_
    refine j_if_lt (tgt := 44) C dX3_isOne_10 (by decide) (fun c2 => ?_) (fun c2 => ?_)
    · replace h := it c2 h
      refine j_iconst (v := 0) C dX3_isOne_44 (by decide) ?_
      cases h
      exact j_zret C e rfl dX3_isOne_45
    · replace h := ie c2 h
      refine j_iload_n C 1 dX3_isOne_13 rfl ?_
      refine j_iload_n C 0 dX3_isOne_14 rfl ?_
      refine j_icmp_ne (tgt := 20) C dX3_isOne_15 (by decide) (fun c3 => ?_) (fun c3 => ?_)
      · replace h := ie c3 h
        refine j_iload_n C 1 dX3_isOne_20 rfl ?_
        refine j_getsA C wd_821 dX3_isOne_21 ?_
        refine j_tlen C dX3_isOne_24 ?_
        refine j_icmp_ge (tgt := 36) C dX3_isOne_25 (by decide) (fun c4 => ?_) (fun c4 => ?_)
        · replace h := it c4 h
          refine j_iconst (v := -1) C dX3_isOne_36 (by decide) ?_
          exact j_sub [0, 2] rfl (b3_isOne_37 C e hk4 h)
        · replace h := ie c4 h
          refine j_getsA C wd_821 dX3_isOne_28 ?_
          refine j_iload_n C 1 dX3_isOne_31 rfl ?_
          obtain ⟨g5, h⟩ := gd_some h
          refine j_tald C (inb_in g5) dX3_isOne_32 ?_
          refine j_goto (tgt := 37) C dX3_isOne_33 (by decide) ?_
          exact j_sub [0, 2] rfl (b3_isOne_37 C e hk4 h)
      · replace h := it c3 h
        refine j_iconst (v := 1) C dX3_isOne_18 (by decide) ?_
        cases h
        exact j_zret C e rfl dX3_isOne_19
set_option maxRecDepth 10000 in
theorem c3_isOne (l : Launch) {α : WA} {fu : Nat} {a1 : Int32} {a2 : Int32} {σ σ' : M2} {v : Int32}  (h : F3_isOne fu a1 a2 σ = some (v, σ')) : Ct l (ωC α) yX3_isOne cX3_isOne 4 (some FieldType.boolean) 1 [.int a1, .int a2] σ (some (.int v)) σ' := by
  unfold F3_isOne at h
  refine Ct.of (own := "EveryoneWins$Kinds") (L := [(0, .int a1), (1, .int a2)]) (by decide +kernel) rfl rfl rfl (fun κ hl e C => ?_)
  show J (ωC α) κ 1 4 0 [(0, .int a1), (1, .int a2)] [] σ
  refine j_iload_n C 0 dX3_isOne_0 rfl ?_
  refine j_istore_n (L' := [(2, .int a1), (0, .int a1), (1, .int a2)]) C dX3_isOne_1 rfl rfl rfl ?_
  refine j_iconst (v := 0) C dX3_isOne_2 (by decide) ?_
  refine j_istore_n (L' := [(3, .int (0 : Int32)), (2, .int a1), (0, .int a1), (1, .int a2)]) C dX3_isOne_3 rfl rfl rfl ?_
  exact j_sub [3, 1, 0] rfl (b3_isOne_4 C e h)
set_option maxRecDepth 10000 in
theorem c3_inSack (l : Launch) {α : WA}  {a1 : Int32} {a2 : Int32} {σ σ' : M2} {v : Int32}  (h : F3_inSack a1 a2 σ = some (v, σ')) : Ct l (ωC α) yX3_inSack cX3_inSack 2 (some FieldType.int) 1 [.int a1, .int a2] σ (some (.int v)) σ' := by
  unfold F3_inSack at h
  refine Ct.of (own := "EveryoneWins$Kinds") (L := [(0, .int a1), (1, .int a2)]) (by decide +kernel) rfl rfl rfl (fun κ hl e C => ?_)
  show J (ωC α) κ 1 2 0 [(0, .int a1), (1, .int a2)] [] σ
  refine j_iload_n C 0 dX3_inSack_0 rfl ?_
  refine j_iconst (v := 2) C dX3_inSack_1 (by decide) ?_
  refine j_idiv C dX3_inSack_2 (by decide) ?_
  refine j_iload_n C 1 dX3_inSack_3 rfl ?_
  refine j_iadd C dX3_inSack_4 ?_
  cases h
  exact j_iret C e dX3_inSack_5
set_option maxRecDepth 10000 in
theorem c3_doesIn (l : Launch) {α : WA}  {a1 : Int32} {a2 : Int32} {a3 : Int32} {a4 : Int32} {σ σ' : M2} {v : Int32}  (h : F3_doesIn a1 a2 a3 a4 σ = some (v, σ')) : Ct l (ωC α) yX3_doesIn cX3_doesIn 4 (some FieldType.int) 2 [.int a1, .int a2, .int a3, .int a4] σ (some (.int v)) σ' := by
  unfold F3_doesIn at h
  refine Ct.of (own := "EveryoneWins$Kinds") (L := [(0, .int a1), (1, .int a2), (2, .int a3), (3, .int a4)]) (by decide +kernel) rfl rfl rfl (fun κ hl e C => ?_)
  show J (ωC α) κ 2 4 0 [(0, .int a1), (1, .int a2), (2, .int a3), (3, .int a4)] [] σ
  refine j_iload_n C 0 dX3_doesIn_0 rfl ?_
  by_cases c1 : a1 = (1 : Int32)
  · replace h := it c1 h
    refine j_tabEq (tgt := 36) C dX3_doesIn_1 c1 (by decide) (by decide) rfl (by decide) ?_
    refine j_iload_n C 1 dX3_doesIn_36 rfl ?_
    refine j_iload_n C 2 dX3_doesIn_37 rfl ?_
    obtain ⟨r2, s3, hc4, h⟩ := bnd_some h
    refine k_S (v := some (.int r2)) C sb_X3_inSack (c3_inSack _ hc4) rfl (by decide) wd_782 rfl dX3_doesIn_38 ?_
    show J (ωC α) κ _ _ 41 _ [.int r2] s3
    cases h
    exact j_iret C e dX3_doesIn_41
  replace h := ie c1 h
  by_cases c5 : a1 = (2 : Int32)
  · replace h := it c5 h
    refine j_tabEq (tgt := 42) C dX3_doesIn_1 c5 (by decide) (by decide) rfl (by decide) ?_
    refine j_iload_n C 2 dX3_doesIn_42 rfl ?_
    refine j_iload_n C 3 dX3_doesIn_43 rfl ?_
    refine j_iadd C dX3_doesIn_44 ?_
    cases h
    exact j_iret C e dX3_doesIn_45
  replace h := ie c5 h
  by_cases c6 : a1 = (3 : Int32)
  · replace h := it c6 h
    refine j_tabEq (tgt := 46) C dX3_doesIn_1 c6 (by decide) (by decide) rfl (by decide) ?_
    refine j_bipush (v := 99) C dX3_doesIn_46 (by decide) ?_
    refine j_iload_n C 1 dX3_doesIn_48 rfl ?_
    refine j_iload_n C 2 dX3_doesIn_49 rfl ?_
    obtain ⟨r7, s8, hc9, h⟩ := bnd_some h
    refine k_S (v := some (.int r7)) C sb_X3_inSack (c3_inSack _ hc9) rfl (by decide) wd_782 rfl dX3_doesIn_50 ?_
    show J (ωC α) κ _ _ 53 _ [.int r7, .int (99 : Int32)] s8
    refine j_isub C dX3_doesIn_53 ?_
    cases h
    exact j_iret C e dX3_doesIn_54
  replace h := ie c6 h
  by_cases c10 : a1 = (4 : Int32)
  · replace h := it c10 h
    refine j_tabEq (tgt := 55) C dX3_doesIn_1 c10 (by decide) (by decide) rfl (by decide) ?_
    refine j_iload_n C 2 dX3_doesIn_55 rfl ?_
    refine j_iload_n C 3 dX3_doesIn_56 rfl ?_
    refine j_iadd C dX3_doesIn_57 ?_
    refine j_iload_n C 1 dX3_doesIn_58 rfl ?_
    refine j_isub C dX3_doesIn_59 ?_
    cases h
    exact j_iret C e dX3_doesIn_60
  replace h := ie c10 h
  by_cases c11 : a1 = (5 : Int32)
  · replace h := it c11 h
    refine j_tabEq (tgt := 61) C dX3_doesIn_1 c11 (by decide) (by decide) rfl (by decide) ?_
    refine j_bipush (v := 7) C dX3_doesIn_61 (by decide) ?_
    refine j_iload_n C 1 dX3_doesIn_63 rfl ?_
    refine j_imul C dX3_doesIn_64 ?_
    refine j_iconst (v := 3) C dX3_doesIn_65 (by decide) ?_
    refine j_iload_n C 2 dX3_doesIn_66 rfl ?_
    refine j_imul C dX3_doesIn_67 ?_
    refine j_iadd C dX3_doesIn_68 ?_
    refine j_iload_n C 3 dX3_doesIn_69 rfl ?_
    refine j_iadd C dX3_doesIn_70 ?_
    refine j_bipush (v := 31) C dX3_doesIn_71 (by decide) ?_
    refine j_irem C dX3_doesIn_73 (by decide) ?_
    cases h
    exact j_iret C e dX3_doesIn_74
  replace h := ie c11 h
  refine j_tableOut (tgt := 75) C dX3_doesIn_1 (by have q0 := ne_ti c1 (z := 1) (by decide); have q1 := ne_ti c5 (z := 2) (by decide); have q2 := ne_ti c6 (z := 3) (by decide); have q3 := ne_ti c10 (z := 4) (by decide); have q4 := ne_ti c11 (z := 5) (by decide); omega) (by decide) ?_
  refine j_iload_n C 1 dX3_doesIn_75 rfl ?_
  cases h
  exact j_iret C e dX3_doesIn_76
set_option maxRecDepth 10000 in
theorem c3_yardsCountIn (l : Launch) {α : WA}  {a1 : Int32} {a2 : Int32} {a3 : Int32} {σ σ' : M2} {v : Int32}  (h : F3_yardsCountIn a1 a2 a3 σ = some (v, σ')) : Ct l (ωC α) yX3_yardsCountIn cX3_yardsCountIn 3 (some FieldType.int) 1 [.int a1, .int a2, .int a3] σ (some (.int v)) σ' := by
  unfold F3_yardsCountIn at h
  refine Ct.of (own := "EveryoneWins$Kinds") (L := [(0, .int a1), (1, .int a2), (2, .int a3)]) (by decide +kernel) rfl rfl rfl (fun κ hl e C => ?_)
  show J (ωC α) κ 1 3 0 [(0, .int a1), (1, .int a2), (2, .int a3)] [] σ
  refine j_iload_n C 0 dX3_yardsCountIn_0 rfl ?_
  by_cases c1 : a1 = (3 : Int32)
  · replace h := it c1 h
    refine j_lookup (tgt := 28) (off := 27) C dX3_yardsCountIn_1 (by decide) (lk_eq c1 (by decide)) (by decide) ?_
    refine j_iload_n C 1 dX3_yardsCountIn_28 rfl ?_
    refine j_iload_n C 2 dX3_yardsCountIn_29 rfl ?_
    refine j_imul C dX3_yardsCountIn_30 ?_
    refine j_iconst (v := 2) C dX3_yardsCountIn_31 (by decide) ?_
    refine j_idiv C dX3_yardsCountIn_32 (by decide) ?_
    cases h
    exact j_iret C e dX3_yardsCountIn_33
  replace h := ie c1 h
  by_cases c2 : a1 = (4 : Int32)
  · replace h := it c2 h
    refine j_lookup (tgt := 34) (off := 33) C dX3_yardsCountIn_1 (by decide) (lk_eq c2 (by decide)) (by decide) ?_
    refine j_iload_n C 1 dX3_yardsCountIn_34 rfl ?_
    refine j_ineg C dX3_yardsCountIn_35 ?_
    cases h
    exact j_iret C e dX3_yardsCountIn_36
  replace h := ie c2 h
  refine j_lookup (tgt := 37) (off := 36) C dX3_yardsCountIn_1 (by decide) (by have q3 := ne_ti c1 (z := 3) (by decide); have q4 := ne_ti c2 (z := 4) (by decide); show (if (3 : Int) = Int32.toInt a1 then (27 : Int) else if (4 : Int) = Int32.toInt a1 then (33 : Int) else (36 : Int)) = 36; rw [if_neg (Ne.symm q3), if_neg (Ne.symm q4)]) (by decide) ?_
  refine j_iload_n C 1 dX3_yardsCountIn_37 rfl ?_
  cases h
  exact j_iret C e dX3_yardsCountIn_38
set_option maxRecDepth 10000 in
theorem b3_ribbonsIn_15 {α : WA} {κ : KT} {fu : Nat} {v : Int32} {σ' : M2} {x0 : Int32} {x1 : Int32} {x2 : Int32} (C : Cx (ωC α) κ cX3_ribbonsIn 3 "EveryoneWins$Kinds" (some FieldType.int)) (e : κ.2.2.2.2.2.2.2.2.2 = (some (.int v), σ'))  {σ : M2} (h : F3_ribbonsIn_15 fu x0 x1 x2 σ = some (v, σ')) : J (ωC α) κ 2 3 15 [(0, .int x0), (1, .int x1), (2, .int x2)] [] σ := by
  unfold F3_ribbonsIn_15 at h
  refine j_iload_n C 0 dX3_ribbonsIn_15 rfl ?_
  refine j_iconst (v := 5) C dX3_ribbonsIn_16 (by decide) ?_
  refine j_icmp_ne (tgt := 26) C dX3_ribbonsIn_17 (by decide) (fun c1 => ?_) (fun c1 => ?_)
  · replace h := ie c1 h
    refine j_iload_n C 1 dX3_ribbonsIn_26 rfl ?_
    cases h
    exact j_iret C e dX3_ribbonsIn_27
  · replace h := it c1 h
    refine j_iload_n C 2 dX3_ribbonsIn_20 rfl ?_
    refine j_iconst (v := 2) C dX3_ribbonsIn_21 (by decide) ?_
    refine j_idiv C dX3_ribbonsIn_22 (by decide) ?_
    refine j_goto (tgt := 27) C dX3_ribbonsIn_23 (by decide) ?_
    cases h
    exact j_iret C e dX3_ribbonsIn_27
set_option maxRecDepth 10000 in
theorem c3_ribbonsIn (l : Launch) {α : WA} {fu : Nat} {a1 : Int32} {a2 : Int32} {a3 : Int32} {σ σ' : M2} {v : Int32}  (h : F3_ribbonsIn fu a1 a2 a3 σ = some (v, σ')) : Ct l (ωC α) yX3_ribbonsIn cX3_ribbonsIn 3 (some FieldType.int) 2 [.int a1, .int a2, .int a3] σ (some (.int v)) σ' := by
  unfold F3_ribbonsIn at h
  refine Ct.of (own := "EveryoneWins$Kinds") (L := [(0, .int a1), (1, .int a2), (2, .int a3)]) (by decide +kernel) rfl rfl rfl (fun κ hl e C => ?_)
  show J (ωC α) κ 2 3 0 [(0, .int a1), (1, .int a2), (2, .int a3)] [] σ
  refine j_iload_n C 0 dX3_ribbonsIn_0 rfl ?_
  refine j_iconst (v := 2) C dX3_ribbonsIn_1 (by decide) ?_
  obtain ⟨r1, s2, hc3, h⟩ := bnd_some h
  refine k_S (v := some (.int r1)) C sb_X3_isOne (c3_isOne _ hc3) rfl (by decide) wd_818 rfl dX3_ribbonsIn_2 ?_
  show J (ωC α) κ _ _ 5 _ [.int r1] s2
  refine j_if_eq (tgt := 15) C dX3_ribbonsIn_5 (by decide) (fun c4 => ?_) (fun c4 => ?_)
  · replace h := it c4 h
    exact (b3_ribbonsIn_15 C e h)
  · replace h := ie c4 h
    refine j_iload_n C 2 dX3_ribbonsIn_8 rfl ?_
    refine j_iconst (v := 3) C dX3_ribbonsIn_9 (by decide) ?_
    refine j_icmp_ge (tgt := 15) C dX3_ribbonsIn_10 (by decide) (fun c5 => ?_) (fun c5 => ?_)
    · replace h := it c5 h
      exact (b3_ribbonsIn_15 C e h)
    · replace h := ie c5 h
      refine j_iconst (v := 1) C dX3_ribbonsIn_13 (by decide) ?_
      cases h
      exact j_iret C e dX3_ribbonsIn_14
