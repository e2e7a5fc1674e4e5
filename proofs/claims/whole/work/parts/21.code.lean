set_option maxRecDepth 10000 in
theorem b4_runFrom_51 {α : WA} {κ : KT} {fu : Nat} {σ' : M2} {x1 : Int32} (C : Cx (ωC α) κ cX4_runFrom 4 "EveryoneWins$Orders" (none)) (e : κ.2.2.2.2.2.2.2.2.2 = (none, σ'))  {σ : M2} (h : F4_runFrom_51 fu x1 σ = some ((), σ')) : J (ωC α) κ 5 4 51 [(0, .ref (wad (ωC α) 48)), (1, .int x1)] [] σ := by
  unfold F4_runFrom_51 at h
  refine j_iload_n C 1 dX4_runFrom_51 rfl ?_
  refine j_istore_n (L' := [(2, .int x1), (0, .ref (wad (ωC α) 48)), (1, .int x1)]) C dX4_runFrom_52 rfl rfl rfl ?_
  exact j_sub [1, 0] rfl (b4_runFrom_53 C e h)
set_option maxRecDepth 10000 in
theorem c4_runFrom (l : Launch) {α : WA} {fu : Nat} {a1 : Int32} {σ σ' : M2}  (h : F4_runFrom fu a1 σ = some ((), σ')) : Ct l (ωC α) yX4_runFrom cX4_runFrom 4 (none) 5 [.ref (wad (ωC α) 48), .int a1] σ (none) σ' := by
  unfold F4_runFrom at h
  refine Ct.of (own := "EveryoneWins$Orders") (L := [(0, .ref (wad (ωC α) 48)), (1, .int a1)]) (by decide +kernel) rfl rfl rfl (fun κ hl e C => ?_)
  show J (ωC α) κ 5 4 0 [(0, .ref (wad (ωC α) 48)), (1, .int a1)] [] σ
  refine j_iload_n C 1 dX4_runFrom_0 rfl ?_
  refine j_if_lt (tgt := 51) C dX4_runFrom_1 (by decide) (fun c1 => ?_) (fun c1 => ?_)
  · replace h := it c1 h
    exact (b4_runFrom_51 C e h)
  · replace h := ie c1 h
    refine j_iload_n C 1 dX4_runFrom_4 rfl ?_
    refine j_aload_n C 0 dX4_runFrom_5 rfl ?_
    refine j_getr (o := 48) (j := 3) C inT4 (ci := 3) rfl (by decide) (rfl) rfl rfl wd_329 dX4_runFrom_6 (o' := 50) rfl ?_
    refine j_alen (o := 50) (t := 1) (N := 6) (v := 6) C rfl (by decide) rfl dX4_runFrom_9 ?_
    refine j_icmp_ge (tgt := 51) C dX4_runFrom_10 (by decide) (fun c2 => ?_) (fun c2 => ?_)
    · replace h := it c2 h
      exact (b4_runFrom_51 C e h)
    · replace h := ie c2 h
      refine j_iload_n C 1 dX4_runFrom_13 rfl ?_
      refine j_aload_n C 0 dX4_runFrom_14 rfl ?_
      refine j_getr (o := 48) (j := 4) C inT4 (ci := 3) rfl (by decide) (rfl) rfl rfl wd_330 dX4_runFrom_15 (o' := 57) rfl ?_
      refine j_alen (o := 57) (t := 0) (N := 6) (v := 6) C rfl (by decide) rfl dX4_runFrom_18 ?_
      refine j_icmp_ge (tgt := 51) C dX4_runFrom_19 (by decide) (fun c3 => ?_) (fun c3 => ?_)
      · replace h := it c3 h
        exact (b4_runFrom_51 C e h)
      · replace h := ie c3 h
        refine j_aload_n C 0 dX4_runFrom_22 rfl ?_
        refine j_getr (o := 48) (j := 3) C inT4 (ci := 3) rfl (by decide) (rfl) rfl rfl wd_329 dX4_runFrom_23 (o' := 50) rfl ?_
        refine j_iload_n C 1 dX4_runFrom_26 rfl ?_
        obtain ⟨g4, h⟩ := gd_some h
        refine j_aaload (N := 6) C rfl (inb_in g4) dX4_runFrom_27 ?_
        refine j_aload_n C 0 dX4_runFrom_28 rfl ?_
        refine j_getr (o := 48) (j := 1) C inT4 (ci := 3) rfl (by decide) (rfl) rfl rfl wd_327 dX4_runFrom_29 (o' := 41) rfl ?_
        refine j_getr (o := 41) (j := 3) C inT2 (ci := 2) rfl (by decide) (rfl) rfl rfl wd_258 dX4_runFrom_32 (o' := 42) rfl ?_
        obtain ⟨r5, s6, hc7, h⟩ := bnd_some h
        refine k_N (v := none) C sb_X11_copyRow (c11_copyRow _ hc7) rfl (by decide) wn_874 rfl dX4_runFrom_35 ?_
        show J (ωC α) κ _ _ 38 _ [] s6
        refine j_aload_n C 0 dX4_runFrom_38 rfl ?_
        refine j_getr (o := 48) (j := 1) C inT4 (ci := 3) rfl (by decide) (rfl) rfl rfl wd_327 dX4_runFrom_39 (o' := 41) rfl ?_
        refine j_aload_n C 0 dX4_runFrom_42 rfl ?_
        refine j_getr (o := 48) (j := 4) C inT4 (ci := 3) rfl (by decide) (rfl) rfl rfl wd_330 dX4_runFrom_43 (o' := 57) rfl ?_
        refine j_iload_n C 1 dX4_runFrom_46 rfl ?_
        refine j_iaload (N := 6) C (rfl) (inb_in g4) dX4_runFrom_47 ?_
        refine j_puti (o := 41) (j := 8) C inT2 tyX2_ok nmX2 (ci := 2) rfl (by decide) (rfl) rfl rfl rfl (tyX2_ok 8 (by decide)) rfl rfl wd_267 dX4_runFrom_48 ?_
        exact (b4_runFrom_51 C e h)
set_option maxRecDepth 10000 in
theorem b4_digits_4 {α : WA} {κ : KT} {fu : Nat} {v : Int32} {σ' : M2} {x1 : Int32} {x2 : Int32} (C : Cx (ωC α) κ cX4_digits 3 "EveryoneWins$Orders" (some FieldType.int)) (e : κ.2.2.2.2.2.2.2.2.2 = (some (.int v), σ'))  {σ : M2} (h : F4_digits_4 fu x1 x2 σ = some (v, σ')) : J (ωC α) κ 2 3 4 [(0, .ref (wad (ωC α) 48)), (1, .int x1), (2, .int x2)] [] σ := by
  unfold F4_digits_4 at h
  refine wl2_ind (fun x1 x2 σ => J (ωC α) κ 2 3 4 [(0, .ref (wad (ωC α) 48)), (1, .int x1), (2, .int x2)] [] σ) ?_ fu x1 x2 σ h
  intro k4 hk4 x1 x2 σ h
  try dsimp only at h
  show J (ωC α) κ 2 3 4 [(0, .ref (wad (ωC α) 48)), (1, .int x1), (2, .int x2)] [] σ
  refine j_iload_n C 2 dX4_digits_4 rfl ?_
  refine j_aload_n C 0 dX4_digits_5 rfl ?_
  refine j_getr (o := 48) (j := 0) C inT4 (ci := 3) rfl (by decide) (rfl) rfl rfl wd_326 dX4_digits_6 (o' := 5) rfl ?_
  refine j_geti (o := 5) (j := 4) C inT5 (ci := 4) rfl (by decide) (rfl) rfl rfl wd_150 dX4_digits_9 ?_
  refine j_icmp_ge (tgt := 37) C dX4_digits_12 (by decide) (fun c1 => ?_) (fun c1 => ?_)
  · replace h := it c1 h
    refine j_iload_n C 1 dX4_digits_37 rfl ?_
    obtain ⟨hv, hs⟩ := s2_inj h
    subst hv
    subst hs
    exact j_iret C e dX4_digits_38
  · replace h := ie c1 h
    refine j_iload_n C 1 dX4_digits_15 rfl ?_
    refine j_bipush (v := 10) C dX4_digits_16 (by decide) ?_
    refine j_imul C dX4_digits_18 ?_
    refine j_aload_n C 0 dX4_digits_19 rfl ?_
    refine j_getr (o := 48) (j := 2) C inT4 (ci := 3) rfl (by decide) (rfl) rfl rfl wd_328 dX4_digits_20 (o' := 49) rfl ?_
    refine j_iload_n C 2 dX4_digits_23 rfl ?_
    obtain ⟨r2, s3, hc4, h⟩ := bnd_some h
    refine k_N (v := some (.int r2)) C sb_X11_at (c11_at _ hc4) rfl (by decide) wn_882 rfl dX4_digits_24 ?_
    show J (ωC α) κ _ _ 27 _ [.int r2, .int (x1 * (10 : Int32))] s3
    refine j_iadd C dX4_digits_27 ?_
    refine j_iconst (v := 1) C dX4_digits_28 (by decide) ?_
    refine j_iadd C dX4_digits_29 ?_
    refine j_istore_n (L' := [(1, .int (((x1 * (10 : Int32)) + r2) + (1 : Int32))), (0, .ref (wad (ωC α) 48)), (2, .int x2)]) C dX4_digits_30 rfl rfl rfl ?_
    refine j_iinc (L' := [(2, .int (x2 + 1)), (1, .int (((x1 * (10 : Int32)) + r2) + (1 : Int32))), (0, .ref (wad (ωC α) 48))]) C 2 dX4_digits_31 rfl rfl rfl rfl ?_
    refine j_goto (tgt := 4) C dX4_digits_34 (by decide) ?_
    exact j_sub [2, 1, 0] rfl (hk4 _ _ _ h)
set_option maxRecDepth 10000 in
theorem c4_digits (l : Launch) {α : WA} {fu : Nat}  {σ σ' : M2} {v : Int32}  (h : F4_digits fu σ = some (v, σ')) : Ct l (ωC α) yX4_digits cX4_digits 3 (some FieldType.int) 2 [.ref (wad (ωC α) 48)] σ (some (.int v)) σ' := by
  unfold F4_digits at h
  refine Ct.of (own := "EveryoneWins$Orders") (L := [(0, .ref (wad (ωC α) 48))]) (by decide +kernel) rfl rfl rfl (fun κ hl e C => ?_)
  show J (ωC α) κ 2 3 0 [(0, .ref (wad (ωC α) 48))] [] σ
  refine j_iconst (v := 0) C dX4_digits_0 (by decide) ?_
  refine j_istore_n (L' := [(1, .int (0 : Int32)), (0, .ref (wad (ωC α) 48))]) C dX4_digits_1 rfl rfl rfl ?_
  refine j_iconst (v := 0) C dX4_digits_2 (by decide) ?_
  refine j_istore_n (L' := [(2, .int (0 : Int32)), (1, .int (0 : Int32)), (0, .ref (wad (ωC α) 48))]) C dX4_digits_3 rfl rfl rfl ?_
  exact j_sub [2, 1, 0] rfl (b4_digits_4 C e h)
set_option maxRecDepth 10000 in
theorem c11_replaced (l : Launch) {α : WA}  {a1 : Nat} {a2 : Int32} {a3 : Int32} {σ σ' : M2} {v : Int32}  (h : F11_replaced a1 a2 a3 σ = some (v, σ')) : Ct l (ωC α) yX11_replaced cX11_replaced 4 (some FieldType.int) 2 [.ref (wad (ωC α) a1), .int a2, .int a3] σ (some (.int v)) σ' := by
  unfold F11_replaced at h
  refine Ct.of (own := "EveryoneWins") (L := [(0, .ref (wad (ωC α) a1)), (1, .int a2), (2, .int a3)]) (by decide +kernel) rfl rfl rfl (fun κ hl e C => ?_)
  show J (ωC α) κ 2 4 0 [(0, .ref (wad (ωC α) a1)), (1, .int a2), (2, .int a3)] [] σ
  refine j_aload_n C 0 dX11_replaced_0 rfl ?_
  refine j_iload_n C 1 dX11_replaced_1 rfl ?_
  obtain ⟨r1, s2, hc3, h⟩ := bnd_some h
  refine k_S (v := some (.int r1)) C sb_X11_at (c11_at _ hc3) rfl (by decide) wd_661 rfl dX11_replaced_2 ?_
  show J (ωC α) κ _ _ 5 _ [.int r1] s2
  refine j_istore_n (L' := [(3, .int r1), (0, .ref (wad (ωC α) a1)), (1, .int a2), (2, .int a3)]) C dX11_replaced_5 rfl rfl rfl ?_
  refine j_aload_n C 1 dX11_replaced_6 rfl ?_
  refine j_iload_n C 2 dX11_replaced_7 rfl ?_
  refine j_iload_n C 3 dX11_replaced_8 rfl ?_
  obtain ⟨r4, s5, hc6, h⟩ := bnd_some h
  refine k_S (v := none) C sb_X11_set (c11_set _ hc6) rfl (by decide) wd_662 rfl dX11_replaced_9 ?_
  show J (ωC α) κ _ _ 12 _ [] s5
  refine j_iload_n C 0 dX11_replaced_12 rfl ?_
  obtain ⟨hv, hs⟩ := s2_inj h
  subst hv
  subst hs
  exact j_iret C e dX11_replaced_13
set_option maxRecDepth 10000 in
theorem c4_swap (l : Launch) {α : WA}  {a1 : Int32} {a2 : Int32} {σ σ' : M2}  (h : F4_swap a1 a2 σ = some ((), σ')) : Ct l (ωC α) yX4_swap cX4_swap 3 (none) 3 [.ref (wad (ωC α) 48), .int a1, .int a2] σ (none) σ' := by
  unfold F4_swap at h
  refine Ct.of (own := "EveryoneWins$Orders") (L := [(0, .ref (wad (ωC α) 48)), (1, .int a1), (2, .int a2)]) (by decide +kernel) rfl rfl rfl (fun κ hl e C => ?_)
  show J (ωC α) κ 3 3 0 [(0, .ref (wad (ωC α) 48)), (1, .int a1), (2, .int a2)] [] σ
  refine j_aload_n C 0 dX4_swap_0 rfl ?_
  refine j_getr (o := 48) (j := 2) C inT4 (ci := 3) rfl (by decide) (rfl) rfl rfl wd_328 dX4_swap_1 (o' := 49) rfl ?_
  refine j_iload_n C 2 dX4_swap_4 rfl ?_
  refine j_aload_n C 0 dX4_swap_5 rfl ?_
  refine j_getr (o := 48) (j := 2) C inT4 (ci := 3) rfl (by decide) (rfl) rfl rfl wd_328 dX4_swap_6 (o' := 49) rfl ?_
  refine j_iload_n C 1 dX4_swap_9 rfl ?_
  refine j_aload_n C 0 dX4_swap_10 rfl ?_
  refine j_getr (o := 48) (j := 2) C inT4 (ci := 3) rfl (by decide) (rfl) rfl rfl wd_328 dX4_swap_11 (o' := 49) rfl ?_
  refine j_iload_n C 2 dX4_swap_14 rfl ?_
  obtain ⟨r1, s2, hc3, h⟩ := bnd_some h
  refine k_N (v := some (.int r1)) C sb_X11_at (c11_at _ hc3) rfl (by decide) wn_882 rfl dX4_swap_15 ?_
  show J (ωC α) κ _ _ 18 _ [.int r1, .int a1, .ref (wad (ωC α) 49), .int a2, .ref (wad (ωC α) 49)] s2
  obtain ⟨r4, s5, hc6, h⟩ := bnd_some h
  refine k_N (v := some (.int r4)) C sb_X11_replaced (c11_replaced _ hc6) rfl (by decide) wn_899 rfl dX4_swap_18 ?_
  show J (ωC α) κ _ _ 21 _ [.int r4, .int a2, .ref (wad (ωC α) 49)] s5
  obtain ⟨r7, s8, hc9, h⟩ := bnd_some h
  refine k_N (v := none) C sb_X11_set (c11_set _ hc9) rfl (by decide) wn_877 rfl dX4_swap_21 ?_
  show J (ωC α) κ _ _ 24 _ [] s8
  obtain ⟨-, hs⟩ := s2_inj h
  subst hs
  exact j_vret C e dX4_swap_24
set_option maxRecDepth 10000 in
theorem b4_goOn_125 {α : WA} {κ : KT} {fu : Nat} {v : Int32} {σ' : M2} {x1 : Int32} {x3 : Int32} {x4 : Int32} (C : Cx (ωC α) κ cX4_goOn 5 "EveryoneWins$Orders" (some FieldType.int)) (e : κ.2.2.2.2.2.2.2.2.2 = (some (.int v), σ'))  {σ : M2} (h : F4_goOn_125 fu x1 x3 x4 σ = some (v, σ')) : J (ωC α) κ 4 5 125 [(0, .ref (wad (ωC α) 48)), (1, .int x1), (3, .int x3), (4, .int x4)] [] σ := by
  unfold F4_goOn_125 at h
  refine wl2_ind (fun x3 x4 σ => J (ωC α) κ 4 5 125 [(0, .ref (wad (ωC α) 48)), (1, .int x1), (3, .int x3), (4, .int x4)] [] σ) ?_ fu x3 x4 σ h
  intro k125 hk125 x3 x4 σ h
  try dsimp only at h
  show J (ωC α) κ 4 5 125 [(0, .ref (wad (ωC α) 48)), (1, .int x1), (3, .int x3), (4, .int x4)] [] σ
  refine j_iload_n C 2 dX4_goOn_125 rfl ?_
  refine j_iload C 3 dX4_goOn_126 rfl ?_
  refine j_icmp_ge (tgt := 147) C dX4_goOn_128 (by decide) (fun c1 => ?_) (fun c1 => ?_)
  · replace h := it c1 h
    refine j_iload_n C 1 dX4_goOn_147 rfl ?_
    obtain ⟨hv, hs⟩ := s2_inj h
    subst hv
    subst hs
    exact j_iret C e dX4_goOn_148
  · replace h := ie c1 h
    refine j_aload_n C 0 dX4_goOn_131 rfl ?_
    refine j_iload_n C 2 dX4_goOn_132 rfl ?_
    refine j_iload C 3 dX4_goOn_133 rfl ?_
    obtain ⟨r2, s3, hc4, h⟩ := bnd_some h
    refine k_V (v := none) C vb_X4_swap (ci := 3) (T := TX4) (N := 5) rfl (by decide) (c4_swap _ hc4) rfl (by decide) wd_895 (rfl) rfl dX4_goOn_135 ?_
    show J (ωC α) κ _ _ 138 _ [] s3
    refine j_iinc (L' := [(3, .int (x3 + 1)), (0, .ref (wad (ωC α) 48)), (1, .int x1), (4, .int x4)]) C 2 dX4_goOn_138 rfl rfl rfl rfl ?_
    refine j_iinc (L' := [(4, .int (x4 + (-1))), (3, .int (x3 + 1)), (0, .ref (wad (ωC α) 48)), (1, .int x1)]) C 3 dX4_goOn_141 rfl rfl rfl rfl ?_
    refine j_goto (tgt := 125) C dX4_goOn_144 (by decide) ?_
    exact j_sub [2, 3, 1, 0] rfl (hk125 _ _ _ h)
set_option maxRecDepth 10000 in
theorem b4_goOn_104 {α : WA} {κ : KT} {fu : Nat} {v : Int32} {σ' : M2} {x1 : Int32} {x2 : Int32} (C : Cx (ωC α) κ cX4_goOn 5 "EveryoneWins$Orders" (some FieldType.int)) (e : κ.2.2.2.2.2.2.2.2.2 = (some (.int v), σ'))  {σ : M2} (h : F4_goOn_104 fu x1 x2 σ = some (v, σ')) : J (ωC α) κ 4 5 104 [(0, .ref (wad (ωC α) 48)), (1, .int x1), (2, .int x2)] [] σ := by
  unfold F4_goOn_104 at h
  refine j_aload_n C 0 dX4_goOn_104 rfl ?_
  refine j_iload_n C 1 dX4_goOn_105 rfl ?_
  refine j_iload_n C 2 dX4_goOn_106 rfl ?_
  obtain ⟨r1, s2, hc3, h⟩ := bnd_some h
  refine k_V (v := none) C vb_X4_swap (ci := 3) (T := TX4) (N := 5) rfl (by decide) (c4_swap _ hc3) rfl (by decide) wd_895 (rfl) rfl dX4_goOn_107 ?_
  show J (ωC α) κ _ _ 110 _ [] s2
  refine j_iload_n C 1 dX4_goOn_110 rfl ?_
  refine j_iconst (v := 1) C dX4_goOn_111 (by decide) ?_
  refine j_iadd C dX4_goOn_112 ?_
  refine j_istore_n (L' := [(3, .int (x1 + (1 : Int32))), (0, .ref (wad (ωC α) 48)), (1, .int x1), (2, .int x2)]) C dX4_goOn_113 rfl rfl rfl ?_
  refine j_aload_n C 1 dX4_goOn_114 rfl ?_
  refine j_getr (o := 48) (j := 0) C inT4 (ci := 3) rfl (by decide) (rfl) rfl rfl wd_326 dX4_goOn_115 (o' := 5) rfl ?_
  refine j_geti (o := 5) (j := 4) C inT5 (ci := 4) rfl (by decide) (rfl) rfl rfl wd_150 dX4_goOn_118 ?_
  refine j_iconst (v := 1) C dX4_goOn_121 (by decide) ?_
  refine j_isub C dX4_goOn_122 ?_
  refine j_istore (L' := [(4, .int ((s2 5 4) - (1 : Int32))), (3, .int (x1 + (1 : Int32))), (0, .ref (wad (ωC α) 48)), (1, .int x1), (2, .int x2)]) C dX4_goOn_123 rfl rfl ?_
  exact j_sub [2, 3, 1, 0] rfl (b4_goOn_125 C e h)
set_option maxRecDepth 10000 in
theorem b4_goOn_70 {α : WA} {κ : KT} {fu : Nat} {v : Int32} {σ' : M2} {x1 : Int32} {x2 : Int32} {x3 : Int32} (C : Cx (ωC α) κ cX4_goOn 5 "EveryoneWins$Orders" (some FieldType.int)) (e : κ.2.2.2.2.2.2.2.2.2 = (some (.int v), σ'))  {σ : M2} (h : F4_goOn_70 fu x1 x2 x3 σ = some (v, σ')) : J (ωC α) κ 4 5 70 [(0, .ref (wad (ωC α) 48)), (1, .int x1), (2, .int x2), (3, .int x3)] [] σ := by
  unfold F4_goOn_70 at h
  refine wl2_ind (fun x2 x3 σ => J (ωC α) κ 4 5 70 [(0, .ref (wad (ωC α) 48)), (1, .int x1), (2, .int x2), (3, .int x3)] [] σ) ?_ fu x2 x3 σ h
  intro k70 hk70 x2 x3 σ h
  try dsimp only at h
  show J (ωC α) κ 4 5 70 [(0, .ref (wad (ωC α) 48)), (1, .int x1), (2, .int x2), (3, .int x3)] [] σ
  refine j_iload_n C 3 dX4_goOn_70 rfl ?_
  refine j_bipush (v := 6) C dX4_goOn_71 (by decide) ?_
  refine j_icmp_ge (tgt := 104) C dX4_goOn_73 (by decide) (fun c1 => ?_) (fun c1 => ?_)
  · replace h := it c1 h
    exact j_sub [0, 1, 2] rfl (b4_goOn_104 C e h)
  · replace h := ie c1 h
    refine j_aload_n C 0 dX4_goOn_76 rfl ?_
    refine j_getr (o := 48) (j := 2) C inT4 (ci := 3) rfl (by decide) (rfl) rfl rfl wd_328 dX4_goOn_77 (o' := 49) rfl ?_
    refine j_iload_n C 2 dX4_goOn_80 rfl ?_
    obtain ⟨r2, s3, hc4, h⟩ := bnd_some h
    refine k_N (v := some (.int r2)) C sb_X11_at (c11_at _ hc4) rfl (by decide) wn_882 rfl dX4_goOn_81 ?_
    show J (ωC α) κ _ _ 84 _ [.int r2] s3
    refine j_aload_n C 0 dX4_goOn_84 rfl ?_
    refine j_getr (o := 48) (j := 2) C inT4 (ci := 3) rfl (by decide) (rfl) rfl rfl wd_328 dX4_goOn_85 (o' := 49) rfl ?_
    refine j_iload_n C 1 dX4_goOn_88 rfl ?_
    obtain ⟨r5, s6, hc7, h⟩ := bnd_some h
    refine k_N (v := some (.int r5)) C sb_X11_at (c11_at _ hc7) rfl (by decide) wn_882 rfl dX4_goOn_89 ?_
    show J (ωC α) κ _ _ 92 _ [.int r5, .int r2] s6
    refine j_icmp_ge (tgt := 104) C dX4_goOn_92 (by decide) (fun c8 => ?_) (fun c8 => ?_)
    · replace h := it c8 h
      exact j_sub [0, 1, 2] rfl (b4_goOn_104 C e h)
    · replace h := ie c8 h
      refine j_iinc (L' := [(2, .int (x2 + (-1))), (0, .ref (wad (ωC α) 48)), (1, .int x1), (3, .int x3)]) C 2 dX4_goOn_95 rfl rfl rfl rfl ?_
      refine j_iinc (L' := [(3, .int (x3 + 1)), (2, .int (x2 + (-1))), (0, .ref (wad (ωC α) 48)), (1, .int x1)]) C 3 dX4_goOn_98 rfl rfl rfl rfl ?_
      refine j_goto (tgt := 70) C dX4_goOn_101 (by decide) ?_
      exact j_sub [2, 3, 1, 0] rfl (hk70 _ _ _ h)
set_option maxRecDepth 10000 in
theorem b4_goOn_52 {α : WA} {κ : KT} {fu : Nat} {v : Int32} {σ' : M2} {x1 : Int32} (C : Cx (ωC α) κ cX4_goOn 5 "EveryoneWins$Orders" (some FieldType.int)) (e : κ.2.2.2.2.2.2.2.2.2 = (some (.int v), σ'))  {σ : M2} (h : F4_goOn_52 fu x1 σ = some (v, σ')) : J (ωC α) κ 4 5 52 [(0, .ref (wad (ωC α) 48)), (1, .int x1)] [] σ := by
  unfold F4_goOn_52 at h
  refine j_iload_n C 1 dX4_goOn_52 rfl ?_
  refine j_if_ge (tgt := 58) C dX4_goOn_53 (by decide) (fun c1 => ?_) (fun c1 => ?_)
  · replace h := it c1 h
    refine j_aload_n C 0 dX4_goOn_58 rfl ?_
    refine j_getr (o := 48) (j := 0) C inT4 (ci := 3) rfl (by decide) (rfl) rfl rfl wd_326 dX4_goOn_59 (o' := 5) rfl ?_
    refine j_geti (o := 5) (j := 4) C inT5 (ci := 4) rfl (by decide) (rfl) rfl rfl wd_150 dX4_goOn_62 ?_
    refine j_iconst (v := 1) C dX4_goOn_65 (by decide) ?_
    refine j_isub C dX4_goOn_66 ?_
    refine j_istore_n (L' := [(2, .int ((σ 5 4) - (1 : Int32))), (0, .ref (wad (ωC α) 48)), (1, .int x1)]) C dX4_goOn_67 rfl rfl rfl ?_
    refine j_iconst (v := 0) C dX4_goOn_68 (by decide) ?_
    refine j_istore_n (L' := [(3, .int (0 : Int32)), (2, .int ((σ 5 4) - (1 : Int32))), (0, .ref (wad (ωC α) 48)), (1, .int x1)]) C dX4_goOn_69 rfl rfl rfl ?_
    exact j_sub [2, 3, 1, 0] rfl (b4_goOn_70 C e h)
  · replace h := ie c1 h
    refine j_iconst (v := -1) C dX4_goOn_56 (by decide) ?_
    obtain ⟨hv, hs⟩ := s2_inj h
    subst hv
    subst hs
    exact j_iret C e dX4_goOn_57
set_option maxRecDepth 10000 in
theorem b4_goOn_12 {α : WA} {κ : KT} {fu : Nat} {v : Int32} {σ' : M2} {x1 : Int32} {x2 : Int32} (C : Cx (ωC α) κ cX4_goOn 5 "EveryoneWins$Orders" (some FieldType.int)) (e : κ.2.2.2.2.2.2.2.2.2 = (some (.int v), σ'))  {σ : M2} (h : F4_goOn_12 fu x1 x2 σ = some (v, σ')) : J (ωC α) κ 4 5 12 [(0, .ref (wad (ωC α) 48)), (1, .int x1), (2, .int x2)] [] σ := by
  unfold F4_goOn_12 at h
  refine wl2_ind (fun x1 x2 σ => J (ωC α) κ 4 5 12 [(0, .ref (wad (ωC α) 48)), (1, .int x1), (2, .int x2)] [] σ) ?_ fu x1 x2 σ h
  intro k12 hk12 x1 x2 σ h
  try dsimp only at h
  show J (ωC α) κ 4 5 12 [(0, .ref (wad (ωC α) 48)), (1, .int x1), (2, .int x2)] [] σ
  refine j_iload_n C 2 dX4_goOn_12 rfl ?_
  refine j_bipush (v := 6) C dX4_goOn_13 (by decide) ?_
  refine j_icmp_ge (tgt := 52) C dX4_goOn_15 (by decide) (fun c1 => ?_) (fun c1 => ?_)
  · replace h := it c1 h
    exact j_sub [0, 1] rfl (b4_goOn_52 C e h)
  · replace h := ie c1 h
    refine j_iload_n C 1 dX4_goOn_18 rfl ?_
    refine j_if_lt (tgt := 52) C dX4_goOn_19 (by decide) (fun c2 => ?_) (fun c2 => ?_)
    · replace h := it c2 h
      exact j_sub [0, 1] rfl (b4_goOn_52 C e h)
    · replace h := ie c2 h
      refine j_aload_n C 0 dX4_goOn_22 rfl ?_
      refine j_getr (o := 48) (j := 2) C inT4 (ci := 3) rfl (by decide) (rfl) rfl rfl wd_328 dX4_goOn_23 (o' := 49) rfl ?_
      refine j_iload_n C 1 dX4_goOn_26 rfl ?_
      obtain ⟨r3, s4, hc5, h⟩ := bnd_some h
      refine k_N (v := some (.int r3)) C sb_X11_at (c11_at _ hc5) rfl (by decide) wn_882 rfl dX4_goOn_27 ?_
      show J (ωC α) κ _ _ 30 _ [.int r3] s4
      refine j_aload_n C 0 dX4_goOn_30 rfl ?_
      refine j_getr (o := 48) (j := 2) C inT4 (ci := 3) rfl (by decide) (rfl) rfl rfl wd_328 dX4_goOn_31 (o' := 49) rfl ?_
      refine j_iload_n C 1 dX4_goOn_34 rfl ?_
      refine j_iconst (v := 1) C dX4_goOn_35 (by decide) ?_
      refine j_iadd C dX4_goOn_36 ?_
      obtain ⟨r6, s7, hc8, h⟩ := bnd_some h
      refine k_N (v := some (.int r6)) C sb_X11_at (c11_at _ hc8) rfl (by decide) wn_882 rfl dX4_goOn_37 ?_
      show J (ωC α) κ _ _ 40 _ [.int r6, .int r3] s7
      refine j_icmp_le (tgt := 52) C dX4_goOn_40 (by decide) (fun c9 => ?_) (fun c9 => ?_)
      · replace h := it c9 h
        exact j_sub [0, 1] rfl (b4_goOn_52 C e h)
      · replace h := ie c9 h
        refine j_iinc (L' := [(1, .int (x1 + (-1))), (0, .ref (wad (ωC α) 48)), (2, .int x2)]) C 1 dX4_goOn_43 rfl rfl rfl rfl ?_
        refine j_iinc (L' := [(2, .int (x2 + 1)), (1, .int (x1 + (-1))), (0, .ref (wad (ωC α) 48))]) C 2 dX4_goOn_46 rfl rfl rfl rfl ?_
        refine j_goto (tgt := 12) C dX4_goOn_49 (by decide) ?_
        exact j_sub [2, 1, 0] rfl (hk12 _ _ _ h)
set_option maxRecDepth 10000 in
theorem c4_goOn (l : Launch) {α : WA} {fu : Nat}  {σ σ' : M2} {v : Int32}  (h : F4_goOn fu σ = some (v, σ')) : Ct l (ωC α) yX4_goOn cX4_goOn 5 (some FieldType.int) 4 [.ref (wad (ωC α) 48)] σ (some (.int v)) σ' := by
  unfold F4_goOn at h
  refine Ct.of (own := "EveryoneWins$Orders") (L := [(0, .ref (wad (ωC α) 48))]) (by decide +kernel) rfl rfl rfl (fun κ hl e C => ?_)
  show J (ωC α) κ 4 5 0 [(0, .ref (wad (ωC α) 48))] [] σ
  refine j_aload_n C 0 dX4_goOn_0 rfl ?_
  refine j_getr (o := 48) (j := 0) C inT4 (ci := 3) rfl (by decide) (rfl) rfl rfl wd_326 dX4_goOn_1 (o' := 5) rfl ?_
  refine j_geti (o := 5) (j := 4) C inT5 (ci := 4) rfl (by decide) (rfl) rfl rfl wd_150 dX4_goOn_4 ?_
  refine j_iconst (v := 2) C dX4_goOn_7 (by decide) ?_
  refine j_isub C dX4_goOn_8 ?_
  refine j_istore_n (L' := [(1, .int ((σ 5 4) - (2 : Int32))), (0, .ref (wad (ωC α) 48))]) C dX4_goOn_9 rfl rfl rfl ?_
  refine j_iconst (v := 0) C dX4_goOn_10 (by decide) ?_
  refine j_istore_n (L' := [(2, .int (0 : Int32)), (1, .int ((σ 5 4) - (2 : Int32))), (0, .ref (wad (ωC α) 48))]) C dX4_goOn_11 rfl rfl rfl ?_
  exact j_sub [2, 1, 0] rfl (b4_goOn_12 C e h)
set_option maxRecDepth 10000 in
theorem b4_weighAll_40 {α : WA} {κ : KT} {fu : Nat} {σ' : M2} {x2 : Int32} {x3 : Int32} (C : Cx (ωC α) κ cX4_weighAll 4 "EveryoneWins$Orders" (none)) (e : κ.2.2.2.2.2.2.2.2.2 = (none, σ'))  {σ : M2} (h : F4_weighAll_40 fu x2 x3 σ = some ((), σ')) : J (ωC α) κ 6 4 40 [(0, .ref (wad (ωC α) 48)), (1, .ref (wad (ωC α) 47)), (2, .int x2), (3, .int x3)] [] σ := by
  unfold F4_weighAll_40 at h
  refine wl2_ind (fun x2 x3 σ => J (ωC α) κ 6 4 40 [(0, .ref (wad (ωC α) 48)), (1, .ref (wad (ωC α) 47)), (2, .int x2), (3, .int x3)] [] σ) ?_ fu x2 x3 σ h
  intro k40 hk40 x2 x3 σ h
  try dsimp only at h
  show J (ωC α) κ 6 4 40 [(0, .ref (wad (ωC α) 48)), (1, .ref (wad (ωC α) 47)), (2, .int x2), (3, .int x3)] [] σ
  refine j_iload_n C 3 dX4_weighAll_40 rfl ?_
  refine j_sipush (v := 720) C dX4_weighAll_41 (by decide) ?_
  refine j_icmp_ge (tgt := 79) C dX4_weighAll_44 (by decide) (fun c1 => ?_) (fun c1 => ?_)
  · replace h := it c1 h
    obtain ⟨-, hs⟩ := s2_inj h
    subst hs
    exact j_vret C e dX4_weighAll_79
  · replace h := ie c1 h
    refine j_iload_n C 2 dX4_weighAll_47 rfl ?_
    refine j_if_lt (tgt := 79) C dX4_weighAll_48 (by decide) (fun c2 => ?_) (fun c2 => ?_)
    · replace h := it c2 h
      obtain ⟨-, hs⟩ := s2_inj h
      subst hs
      exact j_vret C e dX4_weighAll_79
    · replace h := ie c2 h
      refine j_aload_n C 0 dX4_weighAll_51 rfl ?_
      refine j_iload_n C 2 dX4_weighAll_52 rfl ?_
      obtain ⟨r3, s4, hc5, h⟩ := bnd_some h
      refine k_V (v := none) C vb_X4_runFrom (ci := 3) (T := TX4) (N := 5) rfl (by decide) (c4_runFrom _ hc5) rfl (by decide) wd_878 (rfl) rfl dX4_weighAll_53 ?_
      show J (ωC α) κ _ _ 56 _ [] s4
      refine j_aload_n C 1 dX4_weighAll_56 rfl ?_
      refine j_aload_n C 0 dX4_weighAll_57 rfl ?_
      obtain ⟨r6, s7, hc8, h⟩ := bnd_some h
      refine k_V (v := some (.int r6)) C vb_X4_digits (ci := 3) (T := TX4) (N := 5) rfl (by decide) (c4_digits _ hc8) rfl (by decide) wd_886 (rfl) rfl dX4_weighAll_58 ?_
      show J (ωC α) κ _ _ 61 _ [.int r6, .ref (wad (ωC α) 47)] s7
      refine j_aload_n C 0 dX4_weighAll_61 rfl ?_
      refine j_getr (o := 48) (j := 1) C inT4 (ci := 3) rfl (by decide) (rfl) rfl rfl wd_327 dX4_weighAll_62 (o' := 41) rfl ?_
      obtain ⟨r9, s10, hc11, h⟩ := bnd_some h
      refine k_V (v := none) C vb_X0_weigh (ci := 0) (T := TX0) (N := 3) rfl (by decide) (c0_weigh _ hc11) rfl (by decide) wd_890 (rfl) rfl dX4_weighAll_65 ?_
      show J (ωC α) κ _ _ 68 _ [] s10
      refine j_aload_n C 0 dX4_weighAll_68 rfl ?_
      obtain ⟨r12, s13, hc14, h⟩ := bnd_some h
      refine k_V (v := some (.int r12)) C vb_X4_goOn (ci := 3) (T := TX4) (N := 5) rfl (by decide) (c4_goOn _ hc14) rfl (by decide) wd_891 (rfl) rfl dX4_weighAll_69 ?_
      show J (ωC α) κ _ _ 72 _ [.int r12] s13
      refine j_istore_n (L' := [(2, .int r12), (0, .ref (wad (ωC α) 48)), (1, .ref (wad (ωC α) 47)), (3, .int x3)]) C dX4_weighAll_72 rfl rfl rfl ?_
      refine j_iinc (L' := [(3, .int (x3 + 1)), (2, .int r12), (0, .ref (wad (ωC α) 48)), (1, .ref (wad (ωC α) 47))]) C 3 dX4_weighAll_73 rfl rfl rfl rfl ?_
      refine j_goto (tgt := 40) C dX4_weighAll_76 (by decide) ?_
      exact j_sub [2, 3, 1, 0] rfl (hk40 _ _ _ h)
set_option maxRecDepth 10000 in
theorem b4_weighAll_2 {α : WA} {κ : KT} {fu : Nat} {σ' : M2} {x2 : Int32} (C : Cx (ωC α) κ cX4_weighAll 4 "EveryoneWins$Orders" (none)) (e : κ.2.2.2.2.2.2.2.2.2 = (none, σ'))  {σ : M2} (h : F4_weighAll_2 fu x2 σ = some ((), σ')) : J (ωC α) κ 6 4 2 [(0, .ref (wad (ωC α) 48)), (1, .ref (wad (ωC α) 47)), (2, .int x2)] [] σ := by
  unfold F4_weighAll_2 at h
  refine wl1_ind (fun x2 σ => J (ωC α) κ 6 4 2 [(0, .ref (wad (ωC α) 48)), (1, .ref (wad (ωC α) 47)), (2, .int x2)] [] σ) ?_ fu x2 σ h
  intro k2 hk2 x2 σ h
  try dsimp only at h
  show J (ωC α) κ 6 4 2 [(0, .ref (wad (ωC α) 48)), (1, .ref (wad (ωC α) 47)), (2, .int x2)] [] σ
  refine j_iload_n C 2 dX4_weighAll_2 rfl ?_
  refine j_aload_n C 0 dX4_weighAll_3 rfl ?_
  refine j_getr (o := 48) (j := 2) C inT4 (ci := 3) rfl (by decide) (rfl) rfl rfl wd_328 dX4_weighAll_4 (o' := 49) rfl ?_
  refine j_alen (o := 49) (t := 0) (N := 6) (v := 6) C rfl (by decide) rfl dX4_weighAll_7 ?_
  refine j_icmp_ge (tgt := 24) C dX4_weighAll_8 (by decide) (fun c1 => ?_) (fun c1 => ?_)
  · replace h := it c1 h
    refine j_aload_n C 0 dX4_weighAll_24 rfl ?_
    refine j_getr (o := 48) (j := 1) C inT4 (ci := 3) rfl (by decide) (rfl) rfl rfl wd_327 dX4_weighAll_25 (o' := 41) rfl ?_
    obtain ⟨r2, s3, hc4, h⟩ := bnd_some h
    refine k_V (v := none) C vb_X2_begin (ci := 2) (T := TX2) (N := 12) rfl (by decide) (c2_begin _ hc4) rfl (by decide) wd_869 (rfl) rfl dX4_weighAll_28 ?_
    show J (ωC α) κ _ _ 31 _ [] s3
    refine j_aload_n C 0 dX4_weighAll_31 rfl ?_
    refine j_iconst (v := 0) C dX4_weighAll_32 (by decide) ?_
    obtain ⟨r5, s6, hc7, h⟩ := bnd_some h
    refine k_V (v := none) C vb_X4_keepAhead (ci := 3) (T := TX4) (N := 5) rfl (by decide) (c4_keepAhead _ hc7) rfl (by decide) wd_870 (rfl) rfl dX4_weighAll_33 ?_
    show J (ωC α) κ _ _ 36 _ [] s6
    refine j_iconst (v := 0) C dX4_weighAll_36 (by decide) ?_
    refine j_istore_n (L' := [(2, .int (0 : Int32)), (0, .ref (wad (ωC α) 48)), (1, .ref (wad (ωC α) 47))]) C dX4_weighAll_37 rfl rfl rfl ?_
    refine j_iconst (v := 0) C dX4_weighAll_38 (by decide) ?_
    refine j_istore_n (L' := [(3, .int (0 : Int32)), (2, .int (0 : Int32)), (0, .ref (wad (ωC α) 48)), (1, .ref (wad (ωC α) 47))]) C dX4_weighAll_39 rfl rfl rfl ?_
    exact j_sub [2, 3, 1, 0] rfl (b4_weighAll_40 C e h)
  · replace h := ie c1 h
    refine j_aload_n C 0 dX4_weighAll_11 rfl ?_
    refine j_getr (o := 48) (j := 2) C inT4 (ci := 3) rfl (by decide) (rfl) rfl rfl wd_328 dX4_weighAll_12 (o' := 49) rfl ?_
    refine j_iload_n C 2 dX4_weighAll_15 rfl ?_
    refine j_iload_n C 2 dX4_weighAll_16 rfl ?_
    obtain ⟨g8, h⟩ := gd_some h
    refine j_iastore (N := 6) C (rfl) (inb_in g8) dX4_weighAll_17 ?_
    refine j_iinc (L' := [(2, .int (x2 + 1)), (0, .ref (wad (ωC α) 48)), (1, .ref (wad (ωC α) 47))]) C 2 dX4_weighAll_18 rfl rfl rfl rfl ?_
    refine j_goto (tgt := 2) C dX4_weighAll_21 (by decide) ?_
    exact j_sub [1, 2, 0] rfl (hk2 _ _ h)
set_option maxRecDepth 10000 in
theorem c4_weighAll (l : Launch) {α : WA} {fu : Nat}  {σ σ' : M2}  (h : F4_weighAll fu σ = some ((), σ')) : Ct l (ωC α) yX4_weighAll cX4_weighAll 4 (none) 6 [.ref (wad (ωC α) 48), .ref (wad (ωC α) 47)] σ (none) σ' := by
  unfold F4_weighAll at h
  refine Ct.of (own := "EveryoneWins$Orders") (L := [(0, .ref (wad (ωC α) 48)), (1, .ref (wad (ωC α) 47))]) (by decide +kernel) rfl rfl rfl (fun κ hl e C => ?_)
  show J (ωC α) κ 6 4 0 [(0, .ref (wad (ωC α) 48)), (1, .ref (wad (ωC α) 47))] [] σ
  refine j_iconst (v := 0) C dX4_weighAll_0 (by decide) ?_
  refine j_istore_n (L' := [(2, .int (0 : Int32)), (0, .ref (wad (ωC α) 48)), (1, .ref (wad (ωC α) 47))]) C dX4_weighAll_1 rfl rfl rfl ?_
  exact j_sub [1, 2, 0] rfl (b4_weighAll_2 C e h)
set_option maxRecDepth 10000 in
theorem c5_add (l : Launch) {α : WA}  {t : Nat} {a1 : Int32} {a2 : Int32} {a3 : Int32} {σ σ' : M2} {v : Int32}  (h : F5_add t a1 a2 a3 σ = some (v, σ')) : Ct l (ωC α) yX5_add cX5_add 4 (some FieldType.int) 2 [.ref (wad (ωC α) t), .int a1, .int a2, .int a3] σ (some (.int v)) σ' := by
  unfold F5_add at h
  refine Ct.of (own := "EveryoneWins$Races") (L := [(0, .ref (wad (ωC α) t)), (1, .int a1), (2, .int a2), (3, .int a3)]) (by decide +kernel) rfl rfl rfl (fun κ hl e C => ?_)
  show J (ωC α) κ 2 4 0 [(0, .ref (wad (ωC α) t)), (1, .int a1), (2, .int a2), (3, .int a3)] [] σ
  refine j_aload_n C 0 dX5_add_0 rfl ?_
  obtain ⟨g1, h⟩ := gd_some h
  refine j_geti (o := t) (j := 4) C inT5 (ci := 4) rfl (by decide) (isO_sh g1) rfl rfl wd_147 dX5_add_1 ?_
  refine j_bipush (v := 6) C dX5_add_4 (by decide) ?_
  refine j_icmp_lt (tgt := 12) C dX5_add_6 (by decide) (fun c2 => ?_) (fun c2 => ?_)
  · replace h := it c2 h
    refine j_aload_n C 0 dX5_add_12 rfl ?_
    refine j_getr (o := t) (j := 0) C inT5 (ci := 4) rfl (by decide) (isO_sh g1) rfl rfl wd_135 dX5_add_13 (o' := crf t 0) rfl ?_
    refine j_aload_n C 0 dX5_add_16 rfl ?_
    refine j_geti (o := t) (j := 4) C inT5 (ci := 4) rfl (by decide) (isO_sh g1) rfl rfl wd_147 dX5_add_17 ?_
    refine j_iload_n C 1 dX5_add_20 rfl ?_
    obtain ⟨r3, s4, hc5, h⟩ := bnd_some h
    refine k_N (v := none) C sb_X11_set (c11_set _ hc5) rfl (by decide) wn_745 rfl dX5_add_21 ?_
    show J (ωC α) κ _ _ 24 _ [] s4
    refine j_aload_n C 0 dX5_add_24 rfl ?_
    refine j_getr (o := t) (j := 1) C inT5 (ci := 4) rfl (by decide) (isO_sh g1) rfl rfl wd_138 dX5_add_25 (o' := crf t 1) rfl ?_
    refine j_aload_n C 0 dX5_add_28 rfl ?_
    refine j_geti (o := t) (j := 4) C inT5 (ci := 4) rfl (by decide) (isO_sh g1) rfl rfl wd_147 dX5_add_29 ?_
    refine j_iload_n C 2 dX5_add_32 rfl ?_
    obtain ⟨r6, s7, hc8, h⟩ := bnd_some h
    refine k_N (v := none) C sb_X11_set (c11_set _ hc8) rfl (by decide) wn_745 rfl dX5_add_33 ?_
    show J (ωC α) κ _ _ 36 _ [] s7
    refine j_aload_n C 0 dX5_add_36 rfl ?_
    refine j_getr (o := t) (j := 2) C inT5 (ci := 4) rfl (by decide) (isO_sh g1) rfl rfl wd_141 dX5_add_37 (o' := crf t 2) rfl ?_
    refine j_aload_n C 0 dX5_add_40 rfl ?_
    refine j_geti (o := t) (j := 4) C inT5 (ci := 4) rfl (by decide) (isO_sh g1) rfl rfl wd_147 dX5_add_41 ?_
    refine j_iload_n C 3 dX5_add_44 rfl ?_
    obtain ⟨r9, s10, hc11, h⟩ := bnd_some h
    refine k_N (v := none) C sb_X11_set (c11_set _ hc11) rfl (by decide) wn_745 rfl dX5_add_45 ?_
    show J (ωC α) κ _ _ 48 _ [] s10
    refine j_aload_n C 0 dX5_add_48 rfl ?_
    refine j_getr (o := t) (j := 3) C inT5 (ci := 4) rfl (by decide) (isO_sh g1) rfl rfl wd_144 dX5_add_49 (o' := crf t 3) rfl ?_
    refine j_aload_n C 0 dX5_add_52 rfl ?_
    refine j_geti (o := t) (j := 4) C inT5 (ci := 4) rfl (by decide) (isO_sh g1) rfl rfl wd_147 dX5_add_53 ?_
    refine j_iconst (v := 1) C dX5_add_56 (by decide) ?_
    obtain ⟨r12, s13, hc14, h⟩ := bnd_some h
    refine k_N (v := none) C sb_X11_set (c11_set _ hc14) rfl (by decide) wn_745 rfl dX5_add_57 ?_
    show J (ωC α) κ _ _ 60 _ [] s13
    refine j_aload_n C 0 dX5_add_60 rfl ?_
    refine j_dup C dX5_add_61 rfl ?_
    refine j_geti (o := t) (j := 4) C inT5 (ci := 4) rfl (by decide) (isO_sh g1) rfl rfl wd_147 dX5_add_62 ?_
    refine j_dup_x1 C dX5_add_65 rfl rfl ?_
    refine j_iconst (v := 1) C dX5_add_66 (by decide) ?_
    refine j_iadd C dX5_add_67 ?_
    refine j_puti (o := t) (j := 4) C inT5 tyX5_ok nmX5 (ci := 4) rfl (by decide) (isO_sh g1) rfl rfl rfl (tyX5_ok 4 (by decide)) rfl rfl wd_147 dX5_add_68 ?_
    obtain ⟨hv, hs⟩ := s2_inj h
    subst hv
    subst hs
    exact j_iret C e dX5_add_71
  · replace h := ie c2 h
    refine j_bipush (v := -4) C dX5_add_9 (by decide) ?_
    obtain ⟨hv, hs⟩ := s2_inj h
    subst hv
    subst hs
    exact j_iret C e dX5_add_11
set_option maxRecDepth 10000 in
theorem c5_row (l : Launch) {α : WA}  {t : Nat} {a1 : Int32} {σ σ' : M2} {v : Nat}  (h : F5_row t a1 σ = some (v, σ')) : Ct l (ωC α) yX5_row cX5_row 2 (some (FieldType.array FieldType.int)) 1 [.ref (wad (ωC α) t), .int a1] σ (some (.ref (wad (ωC α) v))) σ' := by
  unfold F5_row at h
  refine Ct.of (own := "EveryoneWins$Races") (L := [(0, .ref (wad (ωC α) t)), (1, .int a1)]) (by decide +kernel) rfl rfl rfl (fun κ hl e C => ?_)
  show J (ωC α) κ 1 2 0 [(0, .ref (wad (ωC α) t)), (1, .int a1)] [] σ
  refine j_iload_n C 1 dX5_row_0 rfl ?_
  refine j_if_ne (tgt := 11) C dX5_row_1 (by decide) (fun c1 => ?_) (fun c1 => ?_)
  · replace h := ie c1 h
    refine j_iload_n C 1 dX5_row_11 rfl ?_
    refine j_iconst (v := 1) C dX5_row_12 (by decide) ?_
    refine j_icmp_ne (tgt := 23) C dX5_row_13 (by decide) (fun c2 => ?_) (fun c2 => ?_)
    · replace h := ie c2 h
      refine j_iload_n C 1 dX5_row_23 rfl ?_
      refine j_iconst (v := 2) C dX5_row_24 (by decide) ?_
      refine j_icmp_ne (tgt := 35) C dX5_row_25 (by decide) (fun c3 => ?_) (fun c3 => ?_)
      · replace h := ie c3 h
        refine j_aload_n C 0 dX5_row_35 rfl ?_
        obtain ⟨g4, h⟩ := gd_some h
        refine j_getr (o := t) (j := 3) C inT5 (ci := 4) rfl (by decide) (isO_sh g4) rfl rfl wd_144 dX5_row_36 (o' := crf t 3) rfl ?_
        obtain ⟨hv, hs⟩ := s2_inj h
        subst hv
        subst hs
        exact j_aret C rfl (Or.inr ⟨_, rfl⟩) (Or.inr ⟨_, rfl⟩) e dX5_row_39
      · replace h := it c3 h
        refine j_aload_n C 0 dX5_row_28 rfl ?_
        obtain ⟨g5, h⟩ := gd_some h
        refine j_getr (o := t) (j := 2) C inT5 (ci := 4) rfl (by decide) (isO_sh g5) rfl rfl wd_141 dX5_row_29 (o' := crf t 2) rfl ?_
        refine j_goto (tgt := 39) C dX5_row_32 (by decide) ?_
        obtain ⟨hv, hs⟩ := s2_inj h
        subst hv
        subst hs
        exact j_aret C rfl (Or.inr ⟨_, rfl⟩) (Or.inr ⟨_, rfl⟩) e dX5_row_39
    · replace h := it c2 h
      refine j_aload_n C 0 dX5_row_16 rfl ?_
      obtain ⟨g6, h⟩ := gd_some h
      refine j_getr (o := t) (j := 1) C inT5 (ci := 4) rfl (by decide) (isO_sh g6) rfl rfl wd_138 dX5_row_17 (o' := crf t 1) rfl ?_
      refine j_goto (tgt := 39) C dX5_row_20 (by decide) ?_
      obtain ⟨hv, hs⟩ := s2_inj h
      subst hv
      subst hs
      exact j_aret C rfl (Or.inr ⟨_, rfl⟩) (Or.inr ⟨_, rfl⟩) e dX5_row_39
  · replace h := it c1 h
    refine j_aload_n C 0 dX5_row_4 rfl ?_
    obtain ⟨g7, h⟩ := gd_some h
    refine j_getr (o := t) (j := 0) C inT5 (ci := 4) rfl (by decide) (isO_sh g7) rfl rfl wd_135 dX5_row_5 (o' := crf t 0) rfl ?_
    refine j_goto (tgt := 39) C dX5_row_8 (by decide) ?_
    obtain ⟨hv, hs⟩ := s2_inj h
    subst hv
    subst hs
    exact j_aret C rfl (Or.inr ⟨_, rfl⟩) (Or.inr ⟨_, rfl⟩) e dX5_row_39
set_option maxRecDepth 10000 in
theorem c5_become (l : Launch) {α : WA} {fu : Nat} {t : Nat} {a1 : Nat} {σ σ' : M2}  (h : F5_become fu t a1 σ = some ((), σ')) : Ct l (ωC α) yX5_become cX5_become 2 (none) 2 [.ref (wad (ωC α) t), .ref (wad (ωC α) a1)] σ (none) σ' := by
  unfold F5_become at h
  refine Ct.of (own := "EveryoneWins$Races") (L := [(0, .ref (wad (ωC α) t)), (1, .ref (wad (ωC α) a1))]) (by decide +kernel) rfl rfl rfl (fun κ hl e C => ?_)
  show J (ωC α) κ 2 2 0 [(0, .ref (wad (ωC α) t)), (1, .ref (wad (ωC α) a1))] [] σ
  refine j_aload_n C 1 dX5_become_0 rfl ?_
  obtain ⟨g1, h⟩ := gd_some h
  refine j_getr (o := a1) (j := 2) C inT5 (ci := 4) rfl (by decide) (isO_sh g1) rfl rfl wd_141 dX5_become_1 (o' := crf a1 2) rfl ?_
  refine j_aload_n C 0 dX5_become_4 rfl ?_
  obtain ⟨g2, h⟩ := gd_some h
  refine j_getr (o := t) (j := 2) C inT5 (ci := 4) rfl (by decide) (isO_sh g2) rfl rfl wd_141 dX5_become_5 (o' := crf t 2) rfl ?_
  obtain ⟨r3, s4, hc5, h⟩ := bnd_some h
  refine k_N (v := none) C sb_X11_copyRow (c11_copyRow _ hc5) rfl (by decide) wn_1004 rfl dX5_become_8 ?_
  show J (ωC α) κ _ _ 11 _ [] s4
  refine j_aload_n C 1 dX5_become_11 rfl ?_
  refine j_getr (o := a1) (j := 3) C inT5 (ci := 4) rfl (by decide) (isO_sh g1) rfl rfl wd_144 dX5_become_12 (o' := crf a1 3) rfl ?_
  refine j_aload_n C 0 dX5_become_15 rfl ?_
  refine j_getr (o := t) (j := 3) C inT5 (ci := 4) rfl (by decide) (isO_sh g2) rfl rfl wd_144 dX5_become_16 (o' := crf t 3) rfl ?_
  obtain ⟨r6, s7, hc8, h⟩ := bnd_some h
  refine k_N (v := none) C sb_X11_copyRow (c11_copyRow _ hc8) rfl (by decide) wn_1004 rfl dX5_become_19 ?_
  show J (ωC α) κ _ _ 22 _ [] s7
  refine j_aload_n C 0 dX5_become_22 rfl ?_
  refine j_aload_n C 1 dX5_become_23 rfl ?_
  refine j_geti (o := a1) (j := 4) C inT5 (ci := 4) rfl (by decide) (isO_sh g1) rfl rfl wd_147 dX5_become_24 ?_
  refine j_puti (o := t) (j := 4) C inT5 tyX5_ok nmX5 (ci := 4) rfl (by decide) (isO_sh g2) rfl rfl rfl (tyX5_ok 4 (by decide)) rfl rfl wd_147 dX5_become_27 ?_
  obtain ⟨-, hs⟩ := s2_inj h
  subst hs
  exact j_vret C e dX5_become_30
set_option maxRecDepth 10000 in
theorem c9_clear (l : Launch) {α : WA}  {t : Nat} {σ σ' : M2}  (h : F9_clear t σ = some ((), σ')) : Ct l (ωC α) yX9_clear cX9_clear 1 (none) 1 [.ref (wad (ωC α) t)] σ (none) σ' := by
  unfold F9_clear at h
  refine Ct.of (own := "EveryoneWins$Text") (L := [(0, .ref (wad (ωC α) t))]) (by decide +kernel) rfl rfl rfl (fun κ hl e C => ?_)
  show J (ωC α) κ 1 1 0 [(0, .ref (wad (ωC α) t))] [] σ
  refine j_aload_n C 0 dX9_clear_0 rfl ?_
  refine j_iconst (v := 0) C dX9_clear_1 (by decide) ?_
  obtain ⟨g1, h⟩ := gd_some h
  refine j_puti (o := t) (j := 3) C inT9 tyX9_ok nmX9 (ci := 8) rfl (by decide) (isO_sh g1) rfl rfl rfl (tyX9_ok 3 (by decide)) rfl rfl wd_178 dX9_clear_2 ?_
  obtain ⟨-, hs⟩ := s2_inj h
  subst hs
  exact j_vret C e dX9_clear_5
set_option maxRecDepth 10000 in
theorem c8_isBlank (l : Launch) {α : WA}  {a1 : Int32} {σ σ' : M2} {v : Int32}  (h : F8_isBlank a1 σ = some (v, σ')) : Ct l (ωC α) yX8_isBlank cX8_isBlank 1 (some FieldType.boolean) 1 [.int a1] σ (some (.int v)) σ' := by
  unfold F8_isBlank at h
  refine Ct.of (own := "EveryoneWins$Tape") (L := [(0, .int a1)]) (by decide +kernel) rfl rfl rfl (fun κ hl e C => ?_)
  show J (ωC α) κ 1 1 0 [(0, .int a1)] [] σ
  refine j_iload_n C 0 dX8_isBlank_0 rfl ?_
  refine j_bipush (v := 32) C dX8_isBlank_1 (by decide) ?_
  refine j_icmp_eq (tgt := 12) C dX8_isBlank_3 (by decide) (fun c1 => ?_) (fun c1 => ?_)
  · replace h := it c1 h
    refine j_iconst (v := 1) C dX8_isBlank_12 (by decide) ?_
    refine j_goto (tgt := 17) C dX8_isBlank_13 (by decide) ?_
    obtain ⟨hv, hs⟩ := s2_inj h
    subst hv
    subst hs
    exact j_zret C e rfl dX8_isBlank_17
  · replace h := ie c1 h
    refine j_iload_n C 0 dX8_isBlank_6 rfl ?_
    refine j_bipush (v := 10) C dX8_isBlank_7 (by decide) ?_
    refine j_icmp_ne (tgt := 16) C dX8_isBlank_9 (by decide) (fun c2 => ?_) (fun c2 => ?_)
    · replace h := ie c2 h
      refine j_iconst (v := 0) C dX8_isBlank_16 (by decide) ?_
      obtain ⟨hv, hs⟩ := s2_inj h
      subst hv
      subst hs
      exact j_zret C e rfl dX8_isBlank_17
    · replace h := it c2 h
      refine j_iconst (v := 1) C dX8_isBlank_12 (by decide) ?_
      refine j_goto (tgt := 17) C dX8_isBlank_13 (by decide) ?_
      obtain ⟨hv, hs⟩ := s2_inj h
      subst hv
      subst hs
      exact j_zret C e rfl dX8_isBlank_17
set_option maxRecDepth 10000 in
theorem c8_isLetter (l : Launch) {α : WA}  {a1 : Int32} {σ σ' : M2} {v : Int32}  (h : F8_isLetter a1 σ = some (v, σ')) : Ct l (ωC α) yX8_isLetter cX8_isLetter 1 (some FieldType.boolean) 1 [.int a1] σ (some (.int v)) σ' := by
  unfold F8_isLetter at h
  refine Ct.of (own := "EveryoneWins$Tape") (L := [(0, .int a1)]) (by decide +kernel) rfl rfl rfl (fun κ hl e C => ?_)
  show J (ωC α) κ 1 1 0 [(0, .int a1)] [] σ
  refine j_iload_n C 0 dX8_isLetter_0 rfl ?_
  refine j_bipush (v := 97) C dX8_isLetter_1 (by decide) ?_
  refine j_icmp_lt (tgt := 16) C dX8_isLetter_3 (by decide) (fun c1 => ?_) (fun c1 => ?_)
  · replace h := it c1 h
    refine j_iconst (v := 0) C dX8_isLetter_16 (by decide) ?_
    obtain ⟨hv, hs⟩ := s2_inj h
    subst hv
    subst hs
    exact j_zret C e rfl dX8_isLetter_17
  · replace h := ie c1 h
    refine j_iload_n C 0 dX8_isLetter_6 rfl ?_
    refine j_bipush (v := 122) C dX8_isLetter_7 (by decide) ?_
    refine j_icmp_gt (tgt := 16) C dX8_isLetter_9 (by decide) (fun c2 => ?_) (fun c2 => ?_)
    · replace h := it c2 h
      refine j_iconst (v := 0) C dX8_isLetter_16 (by decide) ?_
      obtain ⟨hv, hs⟩ := s2_inj h
      subst hv
      subst hs
      exact j_zret C e rfl dX8_isLetter_17
    · replace h := ie c2 h
      refine j_iconst (v := 1) C dX8_isLetter_12 (by decide) ?_
      refine j_goto (tgt := 17) C dX8_isLetter_13 (by decide) ?_
      obtain ⟨hv, hs⟩ := s2_inj h
      subst hv
      subst hs
      exact j_zret C e rfl dX8_isLetter_17
set_option maxRecDepth 10000 in
theorem c8_isDigit (l : Launch) {α : WA}  {a1 : Int32} {σ σ' : M2} {v : Int32}  (h : F8_isDigit a1 σ = some (v, σ')) : Ct l (ωC α) yX8_isDigit cX8_isDigit 1 (some FieldType.boolean) 1 [.int a1] σ (some (.int v)) σ' := by
  unfold F8_isDigit at h
  refine Ct.of (own := "EveryoneWins$Tape") (L := [(0, .int a1)]) (by decide +kernel) rfl rfl rfl (fun κ hl e C => ?_)
  show J (ωC α) κ 1 1 0 [(0, .int a1)] [] σ
  refine j_iload_n C 0 dX8_isDigit_0 rfl ?_
  refine j_bipush (v := 48) C dX8_isDigit_1 (by decide) ?_
  refine j_icmp_lt (tgt := 16) C dX8_isDigit_3 (by decide) (fun c1 => ?_) (fun c1 => ?_)
  · replace h := it c1 h
    refine j_iconst (v := 0) C dX8_isDigit_16 (by decide) ?_
    obtain ⟨hv, hs⟩ := s2_inj h
    subst hv
    subst hs
    exact j_zret C e rfl dX8_isDigit_17
  · replace h := ie c1 h
    refine j_iload_n C 0 dX8_isDigit_6 rfl ?_
    refine j_bipush (v := 57) C dX8_isDigit_7 (by decide) ?_
    refine j_icmp_gt (tgt := 16) C dX8_isDigit_9 (by decide) (fun c2 => ?_) (fun c2 => ?_)
    · replace h := it c2 h
      refine j_iconst (v := 0) C dX8_isDigit_16 (by decide) ?_
      obtain ⟨hv, hs⟩ := s2_inj h
      subst hv
      subst hs
      exact j_zret C e rfl dX8_isDigit_17
    · replace h := ie c2 h
      refine j_iconst (v := 1) C dX8_isDigit_12 (by decide) ?_
      refine j_goto (tgt := 17) C dX8_isDigit_13 (by decide) ?_
      obtain ⟨hv, hs⟩ := s2_inj h
      subst hv
      subst hs
      exact j_zret C e rfl dX8_isDigit_17
set_option maxRecDepth 10000 in
theorem b8_endOf_80 {α : WA} {κ : KT} {fu : Nat} {v : Int32} {σ' : M2} {x2 : Int32} {x3 : Int32} {x5 : Int32} (C : Cx (ωC α) κ cX8_endOf 6 "EveryoneWins$Tape" (some FieldType.int)) (e : κ.2.2.2.2.2.2.2.2.2 = (some (.int v), σ')) {k33 : Int32 → Int32 → M2 → Option (Int32 × M2)} (hk33 : ∀ (x4' : Int32) (x5' : Int32) (σ : M2), k33 x4' x5' σ = some (v, σ') → J (ωC α) κ 2 6 33 [(0, .ref (wad (ωC α) 36)), (2, .int x2), (3, .int x3), (4, .int x4'), (5, .int x5')] [] σ) {σ : M2} (h : F8_endOf_80 fu k33 x2 x3 x5 σ = some (v, σ')) : J (ωC α) κ 2 6 80 [(0, .ref (wad (ωC α) 36)), (2, .int x2), (3, .int x3), (5, .int x5)] [] σ := by
  unfold F8_endOf_80 at h
  refine j_iload C 3 dX8_endOf_80 rfl ?_
  refine j_iconst (v := 1) C dX8_endOf_82 (by decide) ?_
  refine j_iadd C dX8_endOf_83 ?_
  refine j_istore (L' := [(4, .int (x5 + (1 : Int32))), (0, .ref (wad (ωC α) 36)), (2, .int x2), (3, .int x3), (5, .int x5)]) C dX8_endOf_84 rfl rfl ?_
  refine j_iinc (L' := [(5, .int (x5 + 1)), (4, .int (x5 + (1 : Int32))), (0, .ref (wad (ωC α) 36)), (2, .int x2), (3, .int x3)]) C 4 dX8_endOf_86 rfl rfl rfl rfl ?_
  refine j_goto (tgt := 33) C dX8_endOf_89 (by decide) ?_
  exact j_sub [2, 3, 4, 1, 0] rfl (hk33 _ _ _ h)
set_option maxRecDepth 10000 in
theorem b8_endOf_61 {α : WA} {κ : KT} {fu : Nat} {v : Int32} {σ' : M2} {x2 : Int32} {x3 : Int32} {x4 : Int32} {x5 : Int32} (C : Cx (ωC α) κ cX8_endOf 6 "EveryoneWins$Tape" (some FieldType.int)) (e : κ.2.2.2.2.2.2.2.2.2 = (some (.int v), σ')) {k33 : Int32 → Int32 → M2 → Option (Int32 × M2)} (hk33 : ∀ (x4' : Int32) (x5' : Int32) (σ : M2), k33 x4' x5' σ = some (v, σ') → J (ωC α) κ 2 6 33 [(0, .ref (wad (ωC α) 36)), (2, .int x2), (3, .int x3), (4, .int x4'), (5, .int x5')] [] σ) {σ : M2} (h : F8_endOf_61 fu k33 x2 x3 x4 x5 σ = some (v, σ')) : J (ωC α) κ 2 6 61 [(0, .ref (wad (ωC α) 36)), (2, .int x2), (3, .int x3), (4, .int x4), (5, .int x5)] [] σ := by
  unfold F8_endOf_61 at h
  refine j_iload_n C 2 dX8_endOf_61 rfl ?_
  refine j_if_eq (tgt := 92) C dX8_endOf_62 (by decide) (fun c1 => ?_) (fun c1 => ?_)
  · replace h := it c1 h
    refine j_iload C 3 dX8_endOf_92 rfl ?_
    obtain ⟨hv, hs⟩ := s2_inj h
    subst hv
    subst hs
    exact j_iret C e dX8_endOf_94
  · replace h := ie c1 h
    refine j_aload_n C 0 dX8_endOf_65 rfl ?_
    refine j_getr (o := 36) (j := 0) C inT8 (ci := 7) rfl (by decide) (rfl) rfl rfl wd_209 dX8_endOf_66 (o' := 37) rfl ?_
    refine j_iload C 4 dX8_endOf_69 rfl ?_
    obtain ⟨r2, s3, hc4, h⟩ := bnd_some h
    refine k_N (v := some (.int r2)) C sb_X11_at (c11_at _ hc4) rfl (by decide) wn_439 rfl dX8_endOf_71 ?_
    show J (ωC α) κ _ _ 74 _ [.int r2] s3
    obtain ⟨r5, s6, hc7, h⟩ := bnd_some h
    refine k_S (v := some (.int r5)) C sb_X8_isDigit (c8_isDigit _ hc7) rfl (by decide) wd_452 rfl dX8_endOf_74 ?_
    show J (ωC α) κ _ _ 77 _ [.int r5] s6
    refine j_if_eq (tgt := 92) C dX8_endOf_77 (by decide) (fun c8 => ?_) (fun c8 => ?_)
    · replace h := it c8 h
      refine j_iload C 3 dX8_endOf_92 rfl ?_
      obtain ⟨hv, hs⟩ := s2_inj h
      subst hv
      subst hs
      exact j_iret C e dX8_endOf_94
    · replace h := ie c8 h
      exact j_sub [0, 1, 2, 4] rfl (b8_endOf_80 C e hk33 h)
set_option maxRecDepth 10000 in
theorem b8_endOf_33 {α : WA} {κ : KT} {fu : Nat} {v : Int32} {σ' : M2} {x2 : Int32} {x3 : Int32} {x4 : Int32} {x5 : Int32} (C : Cx (ωC α) κ cX8_endOf 6 "EveryoneWins$Tape" (some FieldType.int)) (e : κ.2.2.2.2.2.2.2.2.2 = (some (.int v), σ'))  {σ : M2} (h : F8_endOf_33 fu x2 x3 x4 x5 σ = some (v, σ')) : J (ωC α) κ 2 6 33 [(0, .ref (wad (ωC α) 36)), (2, .int x2), (3, .int x3), (4, .int x4), (5, .int x5)] [] σ := by
  unfold F8_endOf_33 at h
  refine wl2_ind (fun x4 x5 σ => J (ωC α) κ 2 6 33 [(0, .ref (wad (ωC α) 36)), (2, .int x2), (3, .int x3), (4, .int x4), (5, .int x5)] [] σ) ?_ fu x4 x5 σ h
  intro k33 hk33 x4 x5 σ h
  try dsimp only at h
  show J (ωC α) κ 2 6 33 [(0, .ref (wad (ωC α) 36)), (2, .int x2), (3, .int x3), (4, .int x4), (5, .int x5)] [] σ
  refine j_iload C 4 dX8_endOf_33 rfl ?_
  refine j_aload_n C 0 dX8_endOf_35 rfl ?_
  refine j_geti (o := 36) (j := 3) C inT8 (ci := 7) rfl (by decide) (rfl) rfl rfl wd_212 dX8_endOf_36 ?_
  refine j_icmp_ge (tgt := 92) C dX8_endOf_39 (by decide) (fun c1 => ?_) (fun c1 => ?_)
  · replace h := it c1 h
    refine j_iload C 3 dX8_endOf_92 rfl ?_
    obtain ⟨hv, hs⟩ := s2_inj h
    subst hv
    subst hs
    exact j_iret C e dX8_endOf_94
  · replace h := ie c1 h
    refine j_iload_n C 1 dX8_endOf_42 rfl ?_
    refine j_if_eq (tgt := 61) C dX8_endOf_43 (by decide) (fun c2 => ?_) (fun c2 => ?_)
    · replace h := it c2 h
      exact (b8_endOf_61 C e hk33 h)
    · replace h := ie c2 h
      refine j_aload_n C 0 dX8_endOf_46 rfl ?_
      refine j_getr (o := 36) (j := 0) C inT8 (ci := 7) rfl (by decide) (rfl) rfl rfl wd_209 dX8_endOf_47 (o' := 37) rfl ?_
      refine j_iload C 4 dX8_endOf_50 rfl ?_
      obtain ⟨r3, s4, hc5, h⟩ := bnd_some h
      refine k_N (v := some (.int r3)) C sb_X11_at (c11_at _ hc5) rfl (by decide) wn_439 rfl dX8_endOf_52 ?_
      show J (ωC α) κ _ _ 55 _ [.int r3] s4
      obtain ⟨r6, s7, hc8, h⟩ := bnd_some h
      refine k_S (v := some (.int r6)) C sb_X8_isLetter (c8_isLetter _ hc8) rfl (by decide) wd_449 rfl dX8_endOf_55 ?_
      show J (ωC α) κ _ _ 58 _ [.int r6] s7
      refine j_if_ne (tgt := 80) C dX8_endOf_58 (by decide) (fun c9 => ?_) (fun c9 => ?_)
      · replace h := ie c9 h
        exact j_sub [0, 1, 2, 4] rfl (b8_endOf_80 C e hk33 h)
      · replace h := it c9 h
        exact (b8_endOf_61 C e hk33 h)
set_option maxRecDepth 10000 in
theorem c8_endOf (l : Launch) {α : WA} {fu : Nat} {a1 : Int32} {σ σ' : M2} {v : Int32}  (h : F8_endOf fu a1 σ = some (v, σ')) : Ct l (ωC α) yX8_endOf cX8_endOf 6 (some FieldType.int) 2 [.ref (wad (ωC α) 36), .int a1] σ (some (.int v)) σ' := by
  unfold F8_endOf at h
  refine Ct.of (own := "EveryoneWins$Tape") (L := [(0, .ref (wad (ωC α) 36)), (1, .int a1)]) (by decide +kernel) rfl rfl rfl (fun κ hl e C => ?_)
  show J (ωC α) κ 2 6 0 [(0, .ref (wad (ωC α) 36)), (1, .int a1)] [] σ
  refine j_aload_n C 0 dX8_endOf_0 rfl ?_
  refine j_getr (o := 36) (j := 0) C inT8 (ci := 7) rfl (by decide) (rfl) rfl rfl wd_209 dX8_endOf_1 (o' := 37) rfl ?_
  refine j_iload_n C 1 dX8_endOf_4 rfl ?_
  obtain ⟨r1, s2, hc3, h⟩ := bnd_some h
  refine k_N (v := some (.int r1)) C sb_X11_at (c11_at _ hc3) rfl (by decide) wn_439 rfl dX8_endOf_5 ?_
  show J (ωC α) κ _ _ 8 _ [.int r1] s2
  obtain ⟨r4, s5, hc6, h⟩ := bnd_some h
  refine k_S (v := some (.int r4)) C sb_X8_isLetter (c8_isLetter _ hc6) rfl (by decide) wd_449 rfl dX8_endOf_8 ?_
  show J (ωC α) κ _ _ 11 _ [.int r4] s5
  refine j_istore_n (L' := [(2, .int r4), (0, .ref (wad (ωC α) 36)), (1, .int a1)]) C dX8_endOf_11 rfl rfl rfl ?_
  refine j_aload_n C 1 dX8_endOf_12 rfl ?_
  refine j_getr (o := 36) (j := 0) C inT8 (ci := 7) rfl (by decide) (rfl) rfl rfl wd_209 dX8_endOf_13 (o' := 37) rfl ?_
  refine j_iload_n C 2 dX8_endOf_16 rfl ?_
  obtain ⟨r7, s8, hc9, h⟩ := bnd_some h
  refine k_N (v := some (.int r7)) C sb_X11_at (c11_at _ hc9) rfl (by decide) wn_439 rfl dX8_endOf_17 ?_
  show J (ωC α) κ _ _ 20 _ [.int r7] s8
  obtain ⟨r10, s11, hc12, h⟩ := bnd_some h
  refine k_S (v := some (.int r10)) C sb_X8_isDigit (c8_isDigit _ hc12) rfl (by decide) wd_452 rfl dX8_endOf_20 ?_
  show J (ωC α) κ _ _ 23 _ [.int r10] s11
  refine j_istore_n (L' := [(3, .int r10), (2, .int r4), (0, .ref (wad (ωC α) 36)), (1, .int a1)]) C dX8_endOf_23 rfl rfl rfl ?_
  refine j_iload_n C 3 dX8_endOf_24 rfl ?_
  refine j_iconst (v := 1) C dX8_endOf_25 (by decide) ?_
  refine j_iadd C dX8_endOf_26 ?_
  refine j_istore (L' := [(4, .int (a1 + (1 : Int32))), (3, .int r10), (2, .int r4), (0, .ref (wad (ωC α) 36)), (1, .int a1)]) C dX8_endOf_27 rfl rfl ?_
  refine j_iload C 0 dX8_endOf_29 rfl ?_
  refine j_istore (L' := [(5, .int (a1 + (1 : Int32))), (4, .int (a1 + (1 : Int32))), (3, .int r10), (2, .int r4), (0, .ref (wad (ωC α) 36)), (1, .int a1)]) C dX8_endOf_31 rfl rfl ?_
  exact j_sub [4, 3, 2, 1, 0] rfl (b8_endOf_33 C e h)
set_option maxRecDepth 10000 in
theorem b8_isWord_15 {α : WA} {κ : KT} {fu : Nat} {v : Int32} {σ' : M2} {x1 : Nat} {x2 : Int32} {x4 : Int32} (C : Cx (ωC α) κ cX8_isWord 5 "EveryoneWins$Tape" (some FieldType.boolean)) (e : κ.2.2.2.2.2.2.2.2.2 = (some (.int v), σ'))  {σ : M2} (h : F8_isWord_15 fu x1 x2 x4 σ = some (v, σ')) : J (ωC α) κ 7 5 15 [(0, .ref (wad (ωC α) 36)), (1, .ref (wK (ωC α) x1)), (2, .int x2), (4, .int x4)] [] σ := by
  unfold F8_isWord_15 at h
  refine wl1_ind (fun x4 σ => J (ωC α) κ 7 5 15 [(0, .ref (wad (ωC α) 36)), (1, .ref (wK (ωC α) x1)), (2, .int x2), (4, .int x4)] [] σ) ?_ fu x4 σ h
  intro k15 hk15 x4 σ h
  try dsimp only at h
  show J (ωC α) κ 7 5 15 [(0, .ref (wad (ωC α) 36)), (1, .ref (wK (ωC α) x1)), (2, .int x2), (4, .int x4)] [] σ
  refine j_iload C 3 dX8_isWord_15 rfl ?_
  refine j_aload_n C 1 dX8_isWord_17 rfl ?_
  obtain ⟨g1, h⟩ := gd_some h
  refine j_slen C (of_decide_eq_true g1) wd_468 (by decide) rfl dX8_isWord_18 ?_
  refine j_icmp_ge (tgt := 52) C dX8_isWord_21 (by decide) (fun c2 => ?_) (fun c2 => ?_)
  · replace h := it c2 h
    refine j_iconst (v := 1) C dX8_isWord_52 (by decide) ?_
    obtain ⟨hv, hs⟩ := s2_inj h
    subst hv
    subst hs
    exact j_zret C e rfl dX8_isWord_53
  · replace h := ie c2 h
    refine j_aload_n C 1 dX8_isWord_24 rfl ?_
    refine j_iload C 3 dX8_isWord_25 rfl ?_
    obtain ⟨g3, h⟩ := gd_some h
    refine j_schar C (of_decide_eq_true g1) (inb_in g3) wd_469 (by decide) rfl dX8_isWord_27 ?_
    refine j_aload_n C 0 dX8_isWord_30 rfl ?_
    refine j_getr (o := 36) (j := 0) C inT8 (ci := 7) rfl (by decide) (rfl) rfl rfl wd_209 dX8_isWord_31 (o' := 37) rfl ?_
    refine j_iload_n C 2 dX8_isWord_34 rfl ?_
    refine j_iload C 3 dX8_isWord_35 rfl ?_
    refine j_iadd C dX8_isWord_37 ?_
    obtain ⟨r4, s5, hc6, h⟩ := bnd_some h
    refine k_N (v := some (.int r4)) C sb_X11_at (c11_at _ hc6) rfl (by decide) wn_439 rfl dX8_isWord_38 ?_
    show J (ωC α) κ _ _ 41 _ [.int r4, .int ((strByt.getD x1 []).getD x4.toNatClampNeg 0)] s5
    refine j_icmp_eq (tgt := 46) C dX8_isWord_41 (by decide) (fun c7 => ?_) (fun c7 => ?_)
    · replace h := it c7 h
      refine j_iinc (L' := [(4, .int (x4 + 1)), (0, .ref (wad (ωC α) 36)), (1, .ref (wK (ωC α) x1)), (2, .int x2)]) C 3 dX8_isWord_46 rfl rfl rfl rfl ?_
      refine j_goto (tgt := 15) C dX8_isWord_49 (by decide) ?_
      exact j_sub [1, 2, 3, 0] rfl (hk15 _ _ h)
    · replace h := ie c7 h
      refine j_iconst (v := 0) C dX8_isWord_44 (by decide) ?_
      obtain ⟨hv, hs⟩ := s2_inj h
      subst hv
      subst hs
      exact j_zret C e rfl dX8_isWord_45
set_option maxRecDepth 10000 in
theorem c8_isWord (l : Launch) {α : WA} {fu : Nat} {a1 : Nat} {a2 : Int32} {a3 : Int32} {σ σ' : M2} {v : Int32}  (h : F8_isWord fu a1 a2 a3 σ = some (v, σ')) : Ct l (ωC α) yX8_isWord cX8_isWord 5 (some FieldType.boolean) 7 [.ref (wad (ωC α) 36), .ref (wK (ωC α) a1), .int a2, .int a3] σ (some (.int v)) σ' := by
  unfold F8_isWord at h
  refine Ct.of (own := "EveryoneWins$Tape") (L := [(0, .ref (wad (ωC α) 36)), (1, .ref (wK (ωC α) a1)), (2, .int a2), (3, .int a3)]) (by decide +kernel) rfl rfl rfl (fun κ hl e C => ?_)
  show J (ωC α) κ 7 5 0 [(0, .ref (wad (ωC α) 36)), (1, .ref (wK (ωC α) a1)), (2, .int a2), (3, .int a3)] [] σ
  refine j_aload_n C 1 dX8_isWord_0 rfl ?_
  obtain ⟨g1, h⟩ := gd_some h
  refine j_slen C (of_decide_eq_true g1) wd_468 (by decide) rfl dX8_isWord_1 ?_
  refine j_iload_n C 3 dX8_isWord_4 rfl ?_
  refine j_iload_n C 2 dX8_isWord_5 rfl ?_
  refine j_isub C dX8_isWord_6 ?_
  refine j_icmp_eq (tgt := 12) C dX8_isWord_7 (by decide) (fun c2 => ?_) (fun c2 => ?_)
  · replace h := it c2 h
    refine j_iconst (v := 0) C dX8_isWord_12 (by decide) ?_
    refine j_istore (L' := [(4, .int (0 : Int32)), (0, .ref (wad (ωC α) 36)), (1, .ref (wK (ωC α) a1)), (2, .int a2), (3, .int a3)]) C dX8_isWord_13 rfl rfl ?_
    exact j_sub [1, 2, 3, 0] rfl (b8_isWord_15 C e h)
  · replace h := ie c2 h
    refine j_iconst (v := 0) C dX8_isWord_10 (by decide) ?_
    obtain ⟨hv, hs⟩ := s2_inj h
    subst hv
    subst hs
    exact j_zret C e rfl dX8_isWord_11
set_option maxRecDepth 10000 in
theorem c8_word (l : Launch) {α : WA} {fu : Nat} {a1 : Int32} {a2 : Int32} {σ σ' : M2} {v : Int32}  (h : F8_word fu a1 a2 σ = some (v, σ')) : Ct l (ωC α) yX8_word cX8_word 3 (some FieldType.int) 8 [.ref (wad (ωC α) 36), .int a1, .int a2] σ (some (.int v)) σ' := by
  unfold F8_word at h
  refine Ct.of (own := "EveryoneWins$Tape") (L := [(0, .ref (wad (ωC α) 36)), (1, .int a1), (2, .int a2)]) (by decide +kernel) rfl rfl rfl (fun κ hl e C => ?_)
  show J (ωC α) κ 8 3 0 [(0, .ref (wad (ωC α) 36)), (1, .int a1), (2, .int a2)] [] σ
  refine j_aload_n C 0 dX8_word_0 rfl ?_
  refine j_ldcS (q := 0) C 1 (by decide) rfl dX8_word_1 ?_
  refine j_iload_n C 1 dX8_word_3 rfl ?_
  refine j_iload_n C 2 dX8_word_4 rfl ?_
  obtain ⟨r1, s2, hc3, h⟩ := bnd_some h
  refine k_V (v := some (.int r1)) C vb_X8_isWord (ci := 7) (T := TX8) (N := 5) rfl (by decide) (c8_isWord _ hc3) rfl (by decide) wd_464 (rfl) rfl dX8_word_5 ?_
  show J (ωC α) κ _ _ 8 _ [.int r1] s2
  refine j_if_eq (tgt := 15) C dX8_word_8 (by decide) (fun c4 => ?_) (fun c4 => ?_)
  · replace h := it c4 h
    refine j_aload_n C 0 dX8_word_15 rfl ?_
    refine j_ldcS (q := 0) C 2 (by decide) rfl dX8_word_16 ?_
    refine j_iload_n C 1 dX8_word_18 rfl ?_
    refine j_iload_n C 2 dX8_word_19 rfl ?_
    obtain ⟨r5, s6, hc7, h⟩ := bnd_some h
    refine k_V (v := some (.int r5)) C vb_X8_isWord (ci := 7) (T := TX8) (N := 5) rfl (by decide) (c8_isWord _ hc7) rfl (by decide) wd_464 (rfl) rfl dX8_word_20 ?_
    show J (ωC α) κ _ _ 23 _ [.int r5] s6
    refine j_if_eq (tgt := 30) C dX8_word_23 (by decide) (fun c8 => ?_) (fun c8 => ?_)
    · replace h := it c8 h
      refine j_aload_n C 0 dX8_word_30 rfl ?_
      refine j_ldcS (q := 0) C 3 (by decide) rfl dX8_word_31 ?_
      refine j_iload_n C 1 dX8_word_33 rfl ?_
      refine j_iload_n C 2 dX8_word_34 rfl ?_
      obtain ⟨r9, s10, hc11, h⟩ := bnd_some h
      refine k_V (v := some (.int r9)) C vb_X8_isWord (ci := 7) (T := TX8) (N := 5) rfl (by decide) (c8_isWord _ hc11) rfl (by decide) wd_464 (rfl) rfl dX8_word_35 ?_
      show J (ωC α) κ _ _ 38 _ [.int r9] s10
      refine j_if_eq (tgt := 45) C dX8_word_38 (by decide) (fun c12 => ?_) (fun c12 => ?_)
      · replace h := it c12 h
        refine j_aload_n C 0 dX8_word_45 rfl ?_
        refine j_ldcS (q := 0) C 4 (by decide) rfl dX8_word_46 ?_
        refine j_iload_n C 1 dX8_word_48 rfl ?_
        refine j_iload_n C 2 dX8_word_49 rfl ?_
        obtain ⟨r13, s14, hc15, h⟩ := bnd_some h
        refine k_V (v := some (.int r13)) C vb_X8_isWord (ci := 7) (T := TX8) (N := 5) rfl (by decide) (c8_isWord _ hc15) rfl (by decide) wd_464 (rfl) rfl dX8_word_50 ?_
        show J (ωC α) κ _ _ 53 _ [.int r13] s14
        refine j_if_eq (tgt := 60) C dX8_word_53 (by decide) (fun c16 => ?_) (fun c16 => ?_)
        · replace h := it c16 h
          refine j_aload_n C 0 dX8_word_60 rfl ?_
          refine j_ldcS (q := 0) C 5 (by decide) rfl dX8_word_61 ?_
          refine j_iload_n C 1 dX8_word_63 rfl ?_
          refine j_iload_n C 2 dX8_word_64 rfl ?_
          obtain ⟨r17, s18, hc19, h⟩ := bnd_some h
          refine k_V (v := some (.int r17)) C vb_X8_isWord (ci := 7) (T := TX8) (N := 5) rfl (by decide) (c8_isWord _ hc19) rfl (by decide) wd_464 (rfl) rfl dX8_word_65 ?_
          show J (ωC α) κ _ _ 68 _ [.int r17] s18
          refine j_if_eq (tgt := 76) C dX8_word_68 (by decide) (fun c20 => ?_) (fun c20 => ?_)
          · replace h := it c20 h
            refine j_aload_n C 0 dX8_word_76 rfl ?_
            refine j_ldcS (q := 0) C 6 (by decide) rfl dX8_word_77 ?_
            refine j_iload_n C 1 dX8_word_79 rfl ?_
            refine j_iload_n C 2 dX8_word_80 rfl ?_
            obtain ⟨r21, s22, hc23, h⟩ := bnd_some h
            refine k_V (v := some (.int r21)) C vb_X8_isWord (ci := 7) (T := TX8) (N := 5) rfl (by decide) (c8_isWord _ hc23) rfl (by decide) wd_464 (rfl) rfl dX8_word_81 ?_
            show J (ωC α) κ _ _ 84 _ [.int r21] s22
            refine j_if_eq (tgt := 92) C dX8_word_84 (by decide) (fun c24 => ?_) (fun c24 => ?_)
            · replace h := it c24 h
              refine j_aload_n C 0 dX8_word_92 rfl ?_
              refine j_ldcS (q := 0) C 7 (by decide) rfl dX8_word_93 ?_
              refine j_iload_n C 1 dX8_word_95 rfl ?_
              refine j_iload_n C 2 dX8_word_96 rfl ?_
              obtain ⟨r25, s26, hc27, h⟩ := bnd_some h
              refine k_V (v := some (.int r25)) C vb_X8_isWord (ci := 7) (T := TX8) (N := 5) rfl (by decide) (c8_isWord _ hc27) rfl (by decide) wd_464 (rfl) rfl dX8_word_97 ?_
              show J (ωC α) κ _ _ 100 _ [.int r25] s26
              refine j_if_eq (tgt := 109) C dX8_word_100 (by decide) (fun c28 => ?_) (fun c28 => ?_)
              · replace h := it c28 h
                refine j_aload_n C 0 dX8_word_109 rfl ?_
                refine j_ldcS (q := 0) C 8 (by decide) rfl dX8_word_110 ?_
                refine j_iload_n C 1 dX8_word_112 rfl ?_
                refine j_iload_n C 2 dX8_word_113 rfl ?_
                obtain ⟨r29, s30, hc31, h⟩ := bnd_some h
                refine k_V (v := some (.int r29)) C vb_X8_isWord (ci := 7) (T := TX8) (N := 5) rfl (by decide) (c8_isWord _ hc31) rfl (by decide) wd_464 (rfl) rfl dX8_word_114 ?_
                show J (ωC α) κ _ _ 117 _ [.int r29] s30
                refine j_if_eq (tgt := 126) C dX8_word_117 (by decide) (fun c32 => ?_) (fun c32 => ?_)
                · replace h := it c32 h
                  refine j_aload_n C 0 dX8_word_126 rfl ?_
                  refine j_ldcS (q := 0) C 9 (by decide) rfl dX8_word_127 ?_
                  refine j_iload_n C 1 dX8_word_129 rfl ?_
                  refine j_iload_n C 2 dX8_word_130 rfl ?_
                  obtain ⟨r33, s34, hc35, h⟩ := bnd_some h
                  refine k_V (v := some (.int r33)) C vb_X8_isWord (ci := 7) (T := TX8) (N := 5) rfl (by decide) (c8_isWord _ hc35) rfl (by decide) wd_464 (rfl) rfl dX8_word_131 ?_
                  show J (ωC α) κ _ _ 134 _ [.int r33] s34
                  refine j_if_eq (tgt := 143) C dX8_word_134 (by decide) (fun c36 => ?_) (fun c36 => ?_)
                  · replace h := it c36 h
                    refine j_aload_n C 0 dX8_word_143 rfl ?_
                    refine j_ldcS (q := 0) C 10 (by decide) rfl dX8_word_144 ?_
                    refine j_iload_n C 1 dX8_word_146 rfl ?_
                    refine j_iload_n C 2 dX8_word_147 rfl ?_
                    obtain ⟨r37, s38, hc39, h⟩ := bnd_some h
                    refine k_V (v := some (.int r37)) C vb_X8_isWord (ci := 7) (T := TX8) (N := 5) rfl (by decide) (c8_isWord _ hc39) rfl (by decide) wd_464 (rfl) rfl dX8_word_148 ?_
                    show J (ωC α) κ _ _ 151 _ [.int r37] s38
                    refine j_if_eq (tgt := 160) C dX8_word_151 (by decide) (fun c40 => ?_) (fun c40 => ?_)
                    · replace h := it c40 h
                      refine j_aload_n C 0 dX8_word_160 rfl ?_
                      refine j_ldcS (q := 0) C 11 (by decide) rfl dX8_word_161 ?_
                      refine j_iload_n C 1 dX8_word_163 rfl ?_
                      refine j_iload_n C 2 dX8_word_164 rfl ?_
                      obtain ⟨r41, s42, hc43, h⟩ := bnd_some h
                      refine k_V (v := some (.int r41)) C vb_X8_isWord (ci := 7) (T := TX8) (N := 5) rfl (by decide) (c8_isWord _ hc43) rfl (by decide) wd_464 (rfl) rfl dX8_word_165 ?_
                      show J (ωC α) κ _ _ 168 _ [.int r41] s42
                      refine j_if_eq (tgt := 177) C dX8_word_168 (by decide) (fun c44 => ?_) (fun c44 => ?_)
                      · replace h := it c44 h
                        refine j_aload_n C 0 dX8_word_177 rfl ?_
                        refine j_ldcS (q := 0) C 12 (by decide) rfl dX8_word_178 ?_
                        refine j_iload_n C 1 dX8_word_180 rfl ?_
                        refine j_iload_n C 2 dX8_word_181 rfl ?_
                        obtain ⟨r45, s46, hc47, h⟩ := bnd_some h
                        refine k_V (v := some (.int r45)) C vb_X8_isWord (ci := 7) (T := TX8) (N := 5) rfl (by decide) (c8_isWord _ hc47) rfl (by decide) wd_464 (rfl) rfl dX8_word_182 ?_
                        show J (ωC α) κ _ _ 185 _ [.int r45] s46
                        refine j_if_eq (tgt := 194) C dX8_word_185 (by decide) (fun c48 => ?_) (fun c48 => ?_)
                        · replace h := it c48 h
                          refine j_iconst (v := 0) C dX8_word_194 (by decide) ?_
                          obtain ⟨hv, hs⟩ := s2_inj h
                          subst hv
                          subst hs
                          exact j_iret C e dX8_word_195
                        · replace h := ie c48 h
                          refine j_sipush (v := 261) C dX8_word_188 (by decide) ?_
                          refine j_goto (tgt := 195) C dX8_word_191 (by decide) ?_
                          obtain ⟨hv, hs⟩ := s2_inj h
                          subst hv
                          subst hs
                          exact j_iret C e dX8_word_195
                      · replace h := ie c44 h
                        refine j_sipush (v := 260) C dX8_word_171 (by decide) ?_
                        refine j_goto (tgt := 195) C dX8_word_174 (by decide) ?_
                        obtain ⟨hv, hs⟩ := s2_inj h
                        subst hv
                        subst hs
                        exact j_iret C e dX8_word_195
                    · replace h := ie c40 h
                      refine j_sipush (v := 259) C dX8_word_154 (by decide) ?_
                      refine j_goto (tgt := 195) C dX8_word_157 (by decide) ?_
                      obtain ⟨hv, hs⟩ := s2_inj h
                      subst hv
                      subst hs
                      exact j_iret C e dX8_word_195
                  · replace h := ie c36 h
                    refine j_sipush (v := 258) C dX8_word_137 (by decide) ?_
                    refine j_goto (tgt := 195) C dX8_word_140 (by decide) ?_
                    obtain ⟨hv, hs⟩ := s2_inj h
                    subst hv
                    subst hs
                    exact j_iret C e dX8_word_195
                · replace h := ie c32 h
                  refine j_sipush (v := 257) C dX8_word_120 (by decide) ?_
                  refine j_goto (tgt := 195) C dX8_word_123 (by decide) ?_
                  obtain ⟨hv, hs⟩ := s2_inj h
                  subst hv
                  subst hs
                  exact j_iret C e dX8_word_195
              · replace h := ie c28 h
                refine j_sipush (v := 256) C dX8_word_103 (by decide) ?_
                refine j_goto (tgt := 195) C dX8_word_106 (by decide) ?_
                obtain ⟨hv, hs⟩ := s2_inj h
                subst hv
                subst hs
                exact j_iret C e dX8_word_195
            · replace h := ie c24 h
              refine j_bipush (v := 7) C dX8_word_87 (by decide) ?_
              refine j_goto (tgt := 195) C dX8_word_89 (by decide) ?_
              obtain ⟨hv, hs⟩ := s2_inj h
              subst hv
              subst hs
              exact j_iret C e dX8_word_195
          · replace h := ie c20 h
            refine j_bipush (v := 6) C dX8_word_71 (by decide) ?_
            refine j_goto (tgt := 195) C dX8_word_73 (by decide) ?_
            obtain ⟨hv, hs⟩ := s2_inj h
            subst hv
            subst hs
            exact j_iret C e dX8_word_195
        · replace h := ie c16 h
          refine j_iconst (v := 5) C dX8_word_56 (by decide) ?_
          refine j_goto (tgt := 195) C dX8_word_57 (by decide) ?_
          obtain ⟨hv, hs⟩ := s2_inj h
          subst hv
          subst hs
          exact j_iret C e dX8_word_195
      · replace h := ie c12 h
        refine j_iconst (v := 4) C dX8_word_41 (by decide) ?_
        refine j_goto (tgt := 195) C dX8_word_42 (by decide) ?_
        obtain ⟨hv, hs⟩ := s2_inj h
        subst hv
        subst hs
        exact j_iret C e dX8_word_195
    · replace h := ie c8 h
      refine j_iconst (v := 3) C dX8_word_26 (by decide) ?_
      refine j_goto (tgt := 195) C dX8_word_27 (by decide) ?_
      obtain ⟨hv, hs⟩ := s2_inj h
      subst hv
      subst hs
      exact j_iret C e dX8_word_195
  · replace h := ie c4 h
    refine j_iconst (v := 2) C dX8_word_11 (by decide) ?_
    refine j_goto (tgt := 195) C dX8_word_12 (by decide) ?_
    obtain ⟨hv, hs⟩ := s2_inj h
    subst hv
    subst hs
    exact j_iret C e dX8_word_195
set_option maxRecDepth 10000 in
theorem b8_number_5 {α : WA} {κ : KT} {fu : Nat} {v : Int32} {σ' : M2} {x2 : Int32} {x3 : Int32} {x4 : Int32} (C : Cx (ωC α) κ cX8_number 5 "EveryoneWins$Tape" (some FieldType.int)) (e : κ.2.2.2.2.2.2.2.2.2 = (some (.int v), σ'))  {σ : M2} (h : F8_number_5 fu x2 x3 x4 σ = some (v, σ')) : J (ωC α) κ 2 5 5 [(0, .ref (wad (ωC α) 36)), (2, .int x2), (3, .int x3), (4, .int x4)] [] σ := by
  unfold F8_number_5 at h
  refine wl2_ind (fun x3 x4 σ => J (ωC α) κ 2 5 5 [(0, .ref (wad (ωC α) 36)), (2, .int x2), (3, .int x3), (4, .int x4)] [] σ) ?_ fu x3 x4 σ h
  intro k5 hk5 x3 x4 σ h
  try dsimp only at h
  show J (ωC α) κ 2 5 5 [(0, .ref (wad (ωC α) 36)), (2, .int x2), (3, .int x3), (4, .int x4)] [] σ
  refine j_iload C 3 dX8_number_5 rfl ?_
  refine j_iload_n C 1 dX8_number_7 rfl ?_
  refine j_icmp_ge (tgt := 35) C dX8_number_8 (by decide) (fun c1 => ?_) (fun c1 => ?_)
  · replace h := it c1 h
    refine j_iload_n C 2 dX8_number_35 rfl ?_
    obtain ⟨hv, hs⟩ := s2_inj h
    subst hv
    subst hs
    exact j_iret C e dX8_number_36
  · replace h := ie c1 h
    refine j_iload_n C 2 dX8_number_11 rfl ?_
    refine j_bipush (v := 10) C dX8_number_12 (by decide) ?_
    refine j_imul C dX8_number_14 ?_
    refine j_aload_n C 0 dX8_number_15 rfl ?_
    refine j_getr (o := 36) (j := 0) C inT8 (ci := 7) rfl (by decide) (rfl) rfl rfl wd_209 dX8_number_16 (o' := 37) rfl ?_
    refine j_iload C 3 dX8_number_19 rfl ?_
    obtain ⟨r2, s3, hc4, h⟩ := bnd_some h
    refine k_N (v := some (.int r2)) C sb_X11_at (c11_at _ hc4) rfl (by decide) wn_439 rfl dX8_number_21 ?_
    show J (ωC α) κ _ _ 24 _ [.int r2, .int (x3 * (10 : Int32))] s3
    refine j_iadd C dX8_number_24 ?_
    refine j_bipush (v := 48) C dX8_number_25 (by decide) ?_
    refine j_isub C dX8_number_27 ?_
    refine j_istore_n (L' := [(3, .int (((x3 * (10 : Int32)) + r2) - (48 : Int32))), (0, .ref (wad (ωC α) 36)), (2, .int x2), (4, .int x4)]) C dX8_number_28 rfl rfl rfl ?_
    refine j_iinc (L' := [(4, .int (x4 + 1)), (3, .int (((x3 * (10 : Int32)) + r2) - (48 : Int32))), (0, .ref (wad (ωC α) 36)), (2, .int x2)]) C 3 dX8_number_29 rfl rfl rfl rfl ?_
    refine j_goto (tgt := 5) C dX8_number_32 (by decide) ?_
    exact j_sub [2, 3, 1, 0] rfl (hk5 _ _ _ h)
set_option maxRecDepth 10000 in
theorem c8_number (l : Launch) {α : WA} {fu : Nat} {a1 : Int32} {a2 : Int32} {σ σ' : M2} {v : Int32}  (h : F8_number fu a1 a2 σ = some (v, σ')) : Ct l (ωC α) yX8_number cX8_number 5 (some FieldType.int) 2 [.ref (wad (ωC α) 36), .int a1, .int a2] σ (some (.int v)) σ' := by
  unfold F8_number at h
  refine Ct.of (own := "EveryoneWins$Tape") (L := [(0, .ref (wad (ωC α) 36)), (1, .int a1), (2, .int a2)]) (by decide +kernel) rfl rfl rfl (fun κ hl e C => ?_)
  show J (ωC α) κ 2 5 0 [(0, .ref (wad (ωC α) 36)), (1, .int a1), (2, .int a2)] [] σ
  refine j_iconst (v := 0) C dX8_number_0 (by decide) ?_
  refine j_istore_n (L' := [(3, .int (0 : Int32)), (0, .ref (wad (ωC α) 36)), (1, .int a1), (2, .int a2)]) C dX8_number_1 rfl rfl rfl ?_
  refine j_iload_n C 2 dX8_number_2 rfl ?_
  refine j_istore (L' := [(4, .int a1), (3, .int (0 : Int32)), (0, .ref (wad (ωC α) 36)), (1, .int a1), (2, .int a2)]) C dX8_number_3 rfl rfl ?_
  exact j_sub [2, 4, 1, 0] rfl (b8_number_5 C e h)
set_option maxRecDepth 10000 in
theorem c8_isSign (l : Launch) {α : WA}  {a1 : Int32} {σ σ' : M2} {v : Int32}  (h : F8_isSign a1 σ = some (v, σ')) : Ct l (ωC α) yX8_isSign cX8_isSign 1 (some FieldType.boolean) 1 [.int a1] σ (some (.int v)) σ' := by
  unfold F8_isSign at h
  refine Ct.of (own := "EveryoneWins$Tape") (L := [(0, .int a1)]) (by decide +kernel) rfl rfl rfl (fun κ hl e C => ?_)
  show J (ωC α) κ 1 1 0 [(0, .int a1)] [] σ
  refine j_iload_n C 0 dX8_isSign_0 rfl ?_
  refine j_bipush (v := 40) C dX8_isSign_1 (by decide) ?_
  refine j_icmp_eq (tgt := 48) C dX8_isSign_3 (by decide) (fun c1 => ?_) (fun c1 => ?_)
  · replace h := it c1 h
    refine j_iconst (v := 1) C dX8_isSign_48 (by decide) ?_
    refine j_goto (tgt := 53) C dX8_isSign_49 (by decide) ?_
    obtain ⟨hv, hs⟩ := s2_inj h
    subst hv
    subst hs
    exact j_zret C e rfl dX8_isSign_53
  · replace h := ie c1 h
    refine j_iload_n C 0 dX8_isSign_6 rfl ?_
    refine j_bipush (v := 41) C dX8_isSign_7 (by decide) ?_
    refine j_icmp_eq (tgt := 48) C dX8_isSign_9 (by decide) (fun c2 => ?_) (fun c2 => ?_)
    · replace h := it c2 h
      refine j_iconst (v := 1) C dX8_isSign_48 (by decide) ?_
      refine j_goto (tgt := 53) C dX8_isSign_49 (by decide) ?_
      obtain ⟨hv, hs⟩ := s2_inj h
      subst hv
      subst hs
      exact j_zret C e rfl dX8_isSign_53
    · replace h := ie c2 h
      refine j_iload_n C 0 dX8_isSign_12 rfl ?_
      refine j_bipush (v := 59) C dX8_isSign_13 (by decide) ?_
      refine j_icmp_eq (tgt := 48) C dX8_isSign_15 (by decide) (fun c3 => ?_) (fun c3 => ?_)
      · replace h := it c3 h
        refine j_iconst (v := 1) C dX8_isSign_48 (by decide) ?_
        refine j_goto (tgt := 53) C dX8_isSign_49 (by decide) ?_
        obtain ⟨hv, hs⟩ := s2_inj h
        subst hv
        subst hs
        exact j_zret C e rfl dX8_isSign_53
      · replace h := ie c3 h
        refine j_iload_n C 0 dX8_isSign_18 rfl ?_
        refine j_bipush (v := 43) C dX8_isSign_19 (by decide) ?_
        refine j_icmp_eq (tgt := 48) C dX8_isSign_21 (by decide) (fun c4 => ?_) (fun c4 => ?_)
        · replace h := it c4 h
          refine j_iconst (v := 1) C dX8_isSign_48 (by decide) ?_
          refine j_goto (tgt := 53) C dX8_isSign_49 (by decide) ?_
          obtain ⟨hv, hs⟩ := s2_inj h
          subst hv
          subst hs
          exact j_zret C e rfl dX8_isSign_53
        · replace h := ie c4 h
          refine j_iload_n C 0 dX8_isSign_24 rfl ?_
          refine j_bipush (v := 45) C dX8_isSign_25 (by decide) ?_
          refine j_icmp_eq (tgt := 48) C dX8_isSign_27 (by decide) (fun c5 => ?_) (fun c5 => ?_)
          · replace h := it c5 h
            refine j_iconst (v := 1) C dX8_isSign_48 (by decide) ?_
            refine j_goto (tgt := 53) C dX8_isSign_49 (by decide) ?_
            obtain ⟨hv, hs⟩ := s2_inj h
            subst hv
            subst hs
            exact j_zret C e rfl dX8_isSign_53
          · replace h := ie c5 h
            refine j_iload_n C 0 dX8_isSign_30 rfl ?_
            refine j_bipush (v := 42) C dX8_isSign_31 (by decide) ?_
            refine j_icmp_eq (tgt := 48) C dX8_isSign_33 (by decide) (fun c6 => ?_) (fun c6 => ?_)
            · replace h := it c6 h
              refine j_iconst (v := 1) C dX8_isSign_48 (by decide) ?_
              refine j_goto (tgt := 53) C dX8_isSign_49 (by decide) ?_
              obtain ⟨hv, hs⟩ := s2_inj h
              subst hv
              subst hs
              exact j_zret C e rfl dX8_isSign_53
            · replace h := ie c6 h
              refine j_iload_n C 0 dX8_isSign_36 rfl ?_
              refine j_bipush (v := 60) C dX8_isSign_37 (by decide) ?_
              refine j_icmp_eq (tgt := 48) C dX8_isSign_39 (by decide) (fun c7 => ?_) (fun c7 => ?_)
              · replace h := it c7 h
                refine j_iconst (v := 1) C dX8_isSign_48 (by decide) ?_
                refine j_goto (tgt := 53) C dX8_isSign_49 (by decide) ?_
                obtain ⟨hv, hs⟩ := s2_inj h
                subst hv
                subst hs
                exact j_zret C e rfl dX8_isSign_53
              · replace h := ie c7 h
                refine j_iload_n C 0 dX8_isSign_42 rfl ?_
                refine j_bipush (v := 61) C dX8_isSign_43 (by decide) ?_
                refine j_icmp_ne (tgt := 52) C dX8_isSign_45 (by decide) (fun c8 => ?_) (fun c8 => ?_)
                · replace h := ie c8 h
                  refine j_iconst (v := 0) C dX8_isSign_52 (by decide) ?_
                  obtain ⟨hv, hs⟩ := s2_inj h
                  subst hv
                  subst hs
                  exact j_zret C e rfl dX8_isSign_53
                · replace h := it c8 h
                  refine j_iconst (v := 1) C dX8_isSign_48 (by decide) ?_
                  refine j_goto (tgt := 53) C dX8_isSign_49 (by decide) ?_
                  obtain ⟨hv, hs⟩ := s2_inj h
                  subst hv
                  subst hs
                  exact j_zret C e rfl dX8_isSign_53
set_option maxRecDepth 10000 in
theorem c8_tokenOf (l : Launch) {α : WA} {fu : Nat} {a1 : Int32} {a2 : Int32} {σ σ' : M2} {v : Int32}  (h : F8_tokenOf fu a1 a2 σ = some (v, σ')) : Ct l (ωC α) yX8_tokenOf cX8_tokenOf 4 (some FieldType.int) 9 [.ref (wad (ωC α) 36), .int a1, .int a2] σ (some (.int v)) σ' := by
  unfold F8_tokenOf at h
  refine Ct.of (own := "EveryoneWins$Tape") (L := [(0, .ref (wad (ωC α) 36)), (1, .int a1), (2, .int a2)]) (by decide +kernel) rfl rfl rfl (fun κ hl e C => ?_)
  show J (ωC α) κ 9 4 0 [(0, .ref (wad (ωC α) 36)), (1, .int a1), (2, .int a2)] [] σ
  refine j_aload_n C 0 dX8_tokenOf_0 rfl ?_
  refine j_getr (o := 36) (j := 0) C inT8 (ci := 7) rfl (by decide) (rfl) rfl rfl wd_209 dX8_tokenOf_1 (o' := 37) rfl ?_
  refine j_iload_n C 1 dX8_tokenOf_4 rfl ?_
  obtain ⟨r1, s2, hc3, h⟩ := bnd_some h
  refine k_N (v := some (.int r1)) C sb_X11_at (c11_at _ hc3) rfl (by decide) wn_439 rfl dX8_tokenOf_5 ?_
  show J (ωC α) κ _ _ 8 _ [.int r1] s2
  refine j_istore_n (L' := [(3, .int r1), (0, .ref (wad (ωC α) 36)), (1, .int a1), (2, .int a2)]) C dX8_tokenOf_8 rfl rfl rfl ?_
  refine j_iload_n C 0 dX8_tokenOf_9 rfl ?_
  obtain ⟨r4, s5, hc6, h⟩ := bnd_some h
  refine k_S (v := some (.int r4)) C sb_X8_isLetter (c8_isLetter _ hc6) rfl (by decide) wd_449 rfl dX8_tokenOf_10 ?_
  show J (ωC α) κ _ _ 13 _ [.int r4] s5
  refine j_if_eq (tgt := 23) C dX8_tokenOf_13 (by decide) (fun c7 => ?_) (fun c7 => ?_)
  · replace h := it c7 h
    refine j_iload_n C 0 dX8_tokenOf_23 rfl ?_
    obtain ⟨r8, s9, hc10, h⟩ := bnd_some h
    refine k_S (v := some (.int r8)) C sb_X8_isDigit (c8_isDigit _ hc10) rfl (by decide) wd_452 rfl dX8_tokenOf_24 ?_
    show J (ωC α) κ _ _ 27 _ [.int r8] s9
    refine j_if_eq (tgt := 52) C dX8_tokenOf_27 (by decide) (fun c11 => ?_) (fun c11 => ?_)
    · replace h := it c11 h
      refine j_iload_n C 0 dX8_tokenOf_52 rfl ?_
      obtain ⟨r12, s13, hc14, h⟩ := bnd_some h
      refine k_S (v := some (.int r12)) C sb_X8_isSign (c8_isSign _ hc14) rfl (by decide) wd_485 rfl dX8_tokenOf_53 ?_
      show J (ωC α) κ _ _ 56 _ [.int r12] s13
      refine j_if_eq (tgt := 63) C dX8_tokenOf_56 (by decide) (fun c15 => ?_) (fun c15 => ?_)
      · replace h := it c15 h
        refine j_iconst (v := 0) C dX8_tokenOf_63 (by decide) ?_
        obtain ⟨hv, hs⟩ := s2_inj h
        subst hv
        subst hs
        exact j_iret C e dX8_tokenOf_64
      · replace h := ie c15 h
        refine j_iload_n C 0 dX8_tokenOf_59 rfl ?_
        refine j_goto (tgt := 64) C dX8_tokenOf_60 (by decide) ?_
        obtain ⟨hv, hs⟩ := s2_inj h
        subst hv
        subst hs
        exact j_iret C e dX8_tokenOf_64
    · replace h := ie c11 h
      refine j_iload_n C 3 dX8_tokenOf_30 rfl ?_
      refine j_iload_n C 2 dX8_tokenOf_31 rfl ?_
      refine j_isub C dX8_tokenOf_32 ?_
      refine j_iconst (v := 4) C dX8_tokenOf_33 (by decide) ?_
      refine j_icmp_le (tgt := 41) C dX8_tokenOf_34 (by decide) (fun c16 => ?_) (fun c16 => ?_)
      · replace h := it c16 h
        refine j_sipush (v := 512) C dX8_tokenOf_41 (by decide) ?_
        refine j_aload_n C 1 dX8_tokenOf_44 rfl ?_
        refine j_iload_n C 2 dX8_tokenOf_45 rfl ?_
        refine j_iload_n C 3 dX8_tokenOf_46 rfl ?_
        obtain ⟨r17, s18, hc19, h⟩ := bnd_some h
        refine k_V (v := some (.int r17)) C vb_X8_number (ci := 7) (T := TX8) (N := 5) rfl (by decide) (c8_number _ hc19) rfl (by decide) wd_481 (rfl) rfl dX8_tokenOf_47 ?_
        show J (ωC α) κ _ _ 50 _ [.int r17, .int (512 : Int32)] s18
        refine j_iadd C dX8_tokenOf_50 ?_
        obtain ⟨hv, hs⟩ := s2_inj h
        subst hv
        subst hs
        exact j_iret C e dX8_tokenOf_51
      · replace h := ie c16 h
        refine j_iconst (v := 0) C dX8_tokenOf_37 (by decide) ?_
        refine j_goto (tgt := 51) C dX8_tokenOf_38 (by decide) ?_
        obtain ⟨hv, hs⟩ := s2_inj h
        subst hv
        subst hs
        exact j_iret C e dX8_tokenOf_51
  · replace h := ie c7 h
    refine j_aload_n C 1 dX8_tokenOf_16 rfl ?_
    refine j_iload_n C 2 dX8_tokenOf_17 rfl ?_
    refine j_iload_n C 3 dX8_tokenOf_18 rfl ?_
    obtain ⟨r20, s21, hc22, h⟩ := bnd_some h
    refine k_V (v := some (.int r20)) C vb_X8_word (ci := 7) (T := TX8) (N := 5) rfl (by decide) (c8_word _ hc22) rfl (by decide) wd_459 (rfl) rfl dX8_tokenOf_19 ?_
    show J (ωC α) κ _ _ 22 _ [.int r20] s21
    obtain ⟨hv, hs⟩ := s2_inj h
    subst hv
    subst hs
    exact j_iret C e dX8_tokenOf_22
set_option maxRecDepth 10000 in
theorem c8_keep (l : Launch) {α : WA}  {a1 : Int32} {a2 : Int32} {σ σ' : M2}  (h : F8_keep a1 a2 σ = some ((), σ')) : Ct l (ωC α) yX8_keep cX8_keep 3 (none) 2 [.ref (wad (ωC α) 36), .int a1, .int a2] σ (none) σ' := by
  unfold F8_keep at h
  refine Ct.of (own := "EveryoneWins$Tape") (L := [(0, .ref (wad (ωC α) 36)), (1, .int a1), (2, .int a2)]) (by decide +kernel) rfl rfl rfl (fun κ hl e C => ?_)
  show J (ωC α) κ 2 3 0 [(0, .ref (wad (ωC α) 36)), (1, .int a1), (2, .int a2)] [] σ
  refine j_aload_n C 0 dX8_keep_0 rfl ?_
  refine j_getr (o := 36) (j := 2) C inT8 (ci := 7) rfl (by decide) (rfl) rfl rfl wd_211 dX8_keep_1 (o' := 39) rfl ?_
  refine j_aload_n C 0 dX8_keep_4 rfl ?_
  refine j_geti (o := 36) (j := 4) C inT8 (ci := 7) rfl (by decide) (rfl) rfl rfl wd_214 dX8_keep_5 ?_
  refine j_iload_n C 1 dX8_keep_8 rfl ?_
  obtain ⟨r1, s2, hc3, h⟩ := bnd_some h
  refine k_N (v := none) C sb_X11_set (c11_set _ hc3) rfl (by decide) wn_492 rfl dX8_keep_9 ?_
  show J (ωC α) κ _ _ 12 _ [] s2
  refine j_aload_n C 0 dX8_keep_12 rfl ?_
  refine j_getr (o := 36) (j := 1) C inT8 (ci := 7) rfl (by decide) (rfl) rfl rfl wd_210 dX8_keep_13 (o' := 38) rfl ?_
  refine j_aload_n C 0 dX8_keep_16 rfl ?_
  refine j_geti (o := 36) (j := 4) C inT8 (ci := 7) rfl (by decide) (rfl) rfl rfl wd_214 dX8_keep_17 ?_
  refine j_iload_n C 2 dX8_keep_20 rfl ?_
  obtain ⟨r4, s5, hc6, h⟩ := bnd_some h
  refine k_N (v := none) C sb_X11_set (c11_set _ hc6) rfl (by decide) wn_492 rfl dX8_keep_21 ?_
  show J (ωC α) κ _ _ 24 _ [] s5
  refine j_aload_n C 0 dX8_keep_24 rfl ?_
  refine j_dup C dX8_keep_25 rfl ?_
  refine j_geti (o := 36) (j := 4) C inT8 (ci := 7) rfl (by decide) (rfl) rfl rfl wd_214 dX8_keep_26 ?_
  refine j_iconst (v := 1) C dX8_keep_29 (by decide) ?_
  refine j_iadd C dX8_keep_30 ?_
  refine j_puti (o := 36) (j := 4) C inT8 tyX8_ok nmX8 (ci := 7) rfl (by decide) (rfl) rfl rfl rfl (tyX8_ok 4 (by decide)) rfl rfl wd_214 dX8_keep_31 ?_
  obtain ⟨-, hs⟩ := s2_inj h
  subst hs
  exact j_vret C e dX8_keep_34
set_option maxRecDepth 10000 in
theorem b8_cut_53 {α : WA} {κ : KT} {fu : Nat} {σ' : M2} {x1 : Int32} {x2 : Int32} (C : Cx (ωC α) κ cX8_cut 3 "EveryoneWins$Tape" (none)) (e : κ.2.2.2.2.2.2.2.2.2 = (none, σ')) {k9 : Int32 → Int32 → M2 → Option (Unit × M2)} (hk9 : ∀ (x1' : Int32) (x2' : Int32) (σ : M2), k9 x1' x2' σ = some ((), σ') → J (ωC α) κ 10 3 9 [(0, .ref (wad (ωC α) 36)), (1, .int x1'), (2, .int x2')] [] σ) {σ : M2} (h : F8_cut_53 fu k9 x1 x2 σ = some ((), σ')) : J (ωC α) κ 10 3 53 [(0, .ref (wad (ωC α) 36)), (1, .int x1), (2, .int x2)] [] σ := by
  unfold F8_cut_53 at h
  refine j_iinc (L' := [(2, .int (x2 + 1)), (0, .ref (wad (ωC α) 36)), (1, .int x1)]) C 2 dX8_cut_53 rfl rfl rfl rfl ?_
  refine j_goto (tgt := 9) C dX8_cut_56 (by decide) ?_
  exact j_sub [1, 2, 0] rfl (hk9 _ _ _ h)
set_option maxRecDepth 10000 in
theorem b8_cut_9 {α : WA} {κ : KT} {fu : Nat} {σ' : M2} {x1 : Int32} {x2 : Int32} (C : Cx (ωC α) κ cX8_cut 3 "EveryoneWins$Tape" (none)) (e : κ.2.2.2.2.2.2.2.2.2 = (none, σ'))  {σ : M2} (h : F8_cut_9 fu x1 x2 σ = some ((), σ')) : J (ωC α) κ 10 3 9 [(0, .ref (wad (ωC α) 36)), (1, .int x1), (2, .int x2)] [] σ := by
  unfold F8_cut_9 at h
  refine wl2_ind (fun x1 x2 σ => J (ωC α) κ 10 3 9 [(0, .ref (wad (ωC α) 36)), (1, .int x1), (2, .int x2)] [] σ) ?_ fu x1 x2 σ h
  intro k9 hk9 x1 x2 σ h
  try dsimp only at h
  show J (ωC α) κ 10 3 9 [(0, .ref (wad (ωC α) 36)), (1, .int x1), (2, .int x2)] [] σ
  refine j_iload_n C 2 dX8_cut_9 rfl ?_
  refine j_aload_n C 0 dX8_cut_10 rfl ?_
  refine j_geti (o := 36) (j := 3) C inT8 (ci := 7) rfl (by decide) (rfl) rfl rfl wd_212 dX8_cut_11 ?_
  refine j_icmp_ge (tgt := 59) C dX8_cut_14 (by decide) (fun c1 => ?_) (fun c1 => ?_)
  · replace h := it c1 h
    obtain ⟨-, hs⟩ := s2_inj h
    subst hs
    exact j_vret C e dX8_cut_59
  · replace h := ie c1 h
    refine j_iload_n C 2 dX8_cut_17 rfl ?_
    refine j_iload_n C 1 dX8_cut_18 rfl ?_
    refine j_icmp_lt (tgt := 53) C dX8_cut_19 (by decide) (fun c2 => ?_) (fun c2 => ?_)
    · replace h := it c2 h
      exact (b8_cut_53 C e hk9 h)
    · replace h := ie c2 h
      refine j_aload_n C 0 dX8_cut_22 rfl ?_
      refine j_getr (o := 36) (j := 0) C inT8 (ci := 7) rfl (by decide) (rfl) rfl rfl wd_209 dX8_cut_23 (o' := 37) rfl ?_
      refine j_iload_n C 2 dX8_cut_26 rfl ?_
      obtain ⟨r3, s4, hc5, h⟩ := bnd_some h
      refine k_N (v := some (.int r3)) C sb_X11_at (c11_at _ hc5) rfl (by decide) wn_439 rfl dX8_cut_27 ?_
      show J (ωC α) κ _ _ 30 _ [.int r3] s4
      obtain ⟨r6, s7, hc8, h⟩ := bnd_some h
      refine k_S (v := some (.int r6)) C sb_X8_isBlank (c8_isBlank _ hc8) rfl (by decide) wd_442 rfl dX8_cut_30 ?_
      show J (ωC α) κ _ _ 33 _ [.int r6] s7
      refine j_if_ne (tgt := 53) C dX8_cut_33 (by decide) (fun c9 => ?_) (fun c9 => ?_)
      · replace h := ie c9 h
        exact (b8_cut_53 C e hk9 h)
      · replace h := it c9 h
        refine j_aload_n C 0 dX8_cut_36 rfl ?_
        refine j_iload_n C 2 dX8_cut_37 rfl ?_
        obtain ⟨r10, s11, hc12, h⟩ := bnd_some h
        refine k_V (v := some (.int r10)) C vb_X8_endOf (ci := 7) (T := TX8) (N := 5) rfl (by decide) (c8_endOf _ hc12) rfl (by decide) wd_445 (rfl) rfl dX8_cut_38 ?_
        show J (ωC α) κ _ _ 41 _ [.int r10] s11
        refine j_istore_n (L' := [(1, .int r10), (0, .ref (wad (ωC α) 36)), (2, .int x2)]) C dX8_cut_41 rfl rfl rfl ?_
        refine j_aload_n C 1 dX8_cut_42 rfl ?_
        refine j_iload_n C 2 dX8_cut_43 rfl ?_
        refine j_aload_n C 1 dX8_cut_44 rfl ?_
        refine j_iload_n C 2 dX8_cut_45 rfl ?_
        refine j_iload_n C 0 dX8_cut_46 rfl ?_
        obtain ⟨r13, s14, hc15, h⟩ := bnd_some h
        refine k_V (v := some (.int r13)) C vb_X8_tokenOf (ci := 7) (T := TX8) (N := 5) rfl (by decide) (c8_tokenOf _ hc15) rfl (by decide) wd_455 (rfl) rfl dX8_cut_47 ?_
        show J (ωC α) κ _ _ 50 _ [.int r13, .int x2, .ref (wad (ωC α) 36)] s14
        obtain ⟨r16, s17, hc18, h⟩ := bnd_some h
        refine k_V (v := none) C vb_X8_keep (ci := 7) (T := TX8) (N := 5) rfl (by decide) (c8_keep _ hc18) rfl (by decide) wd_488 (rfl) rfl dX8_cut_50 ?_
        show J (ωC α) κ _ _ 53 _ [] s17
        exact j_sub [1, 0, 2] rfl (b8_cut_53 C e hk9 h)
set_option maxRecDepth 10000 in
theorem c8_cut (l : Launch) {α : WA} {fu : Nat}  {σ σ' : M2}  (h : F8_cut fu σ = some ((), σ')) : Ct l (ωC α) yX8_cut cX8_cut 3 (none) 10 [.ref (wad (ωC α) 36)] σ (none) σ' := by
  unfold F8_cut at h
  refine Ct.of (own := "EveryoneWins$Tape") (L := [(0, .ref (wad (ωC α) 36))]) (by decide +kernel) rfl rfl rfl (fun κ hl e C => ?_)
  show J (ωC α) κ 10 3 0 [(0, .ref (wad (ωC α) 36))] [] σ
  refine j_aload_n C 0 dX8_cut_0 rfl ?_
  refine j_iconst (v := 0) C dX8_cut_1 (by decide) ?_
  refine j_puti (o := 36) (j := 4) C inT8 tyX8_ok nmX8 (ci := 7) rfl (by decide) (rfl) rfl rfl rfl (tyX8_ok 4 (by decide)) rfl rfl wd_214 dX8_cut_2 ?_
  refine j_iconst (v := 0) C dX8_cut_5 (by decide) ?_
  refine j_istore_n (L' := [(1, .int (0 : Int32)), (0, .ref (wad (ωC α) 36))]) C dX8_cut_6 rfl rfl rfl ?_
  refine j_iconst (v := 0) C dX8_cut_7 (by decide) ?_
  refine j_istore_n (L' := [(2, .int (0 : Int32)), (1, .int (0 : Int32)), (0, .ref (wad (ωC α) 36))]) C dX8_cut_8 rfl rfl rfl ?_
  exact j_sub [2, 1, 0] rfl (b8_cut_9 C e h)
set_option maxRecDepth 10000 in
theorem c8_token (l : Launch) {α : WA}  {a1 : Int32} {σ σ' : M2} {v : Int32}  (h : F8_token a1 σ = some (v, σ')) : Ct l (ωC α) yX8_token cX8_token 2 (some FieldType.int) 1 [.ref (wad (ωC α) 36), .int a1] σ (some (.int v)) σ' := by
  unfold F8_token at h
  refine Ct.of (own := "EveryoneWins$Tape") (L := [(0, .ref (wad (ωC α) 36)), (1, .int a1)]) (by decide +kernel) rfl rfl rfl (fun κ hl e C => ?_)
  show J (ωC α) κ 1 2 0 [(0, .ref (wad (ωC α) 36)), (1, .int a1)] [] σ
  refine j_iload_n C 1 dX8_token_0 rfl ?_
  refine j_if_lt (tgt := 30) C dX8_token_1 (by decide) (fun c1 => ?_) (fun c1 => ?_)
  · replace h := it c1 h
    refine j_iconst (v := 1) C dX8_token_30 (by decide) ?_
    obtain ⟨hv, hs⟩ := s2_inj h
    subst hv
    subst hs
    exact j_iret C e dX8_token_31
  · replace h := ie c1 h
    refine j_iload_n C 1 dX8_token_4 rfl ?_
    refine j_aload_n C 0 dX8_token_5 rfl ?_
    refine j_geti (o := 36) (j := 4) C inT8 (ci := 7) rfl (by decide) (rfl) rfl rfl wd_214 dX8_token_6 ?_
    refine j_icmp_ge (tgt := 30) C dX8_token_9 (by decide) (fun c2 => ?_) (fun c2 => ?_)
    · replace h := it c2 h
      refine j_iconst (v := 1) C dX8_token_30 (by decide) ?_
      obtain ⟨hv, hs⟩ := s2_inj h
      subst hv
      subst hs
      exact j_iret C e dX8_token_31
    · replace h := ie c2 h
      refine j_iload_n C 1 dX8_token_12 rfl ?_
      refine j_aload_n C 0 dX8_token_13 rfl ?_
      refine j_getr (o := 36) (j := 1) C inT8 (ci := 7) rfl (by decide) (rfl) rfl rfl wd_210 dX8_token_14 (o' := 38) rfl ?_
      refine j_alen (o := 38) (t := 0) (N := 160) (v := 160) C rfl (by decide) rfl dX8_token_17 ?_
      refine j_icmp_ge (tgt := 30) C dX8_token_18 (by decide) (fun c3 => ?_) (fun c3 => ?_)
      · replace h := it c3 h
        refine j_iconst (v := 1) C dX8_token_30 (by decide) ?_
        obtain ⟨hv, hs⟩ := s2_inj h
        subst hv
        subst hs
        exact j_iret C e dX8_token_31
      · replace h := ie c3 h
        refine j_aload_n C 0 dX8_token_21 rfl ?_
        refine j_getr (o := 36) (j := 1) C inT8 (ci := 7) rfl (by decide) (rfl) rfl rfl wd_210 dX8_token_22 (o' := 38) rfl ?_
        refine j_iload_n C 1 dX8_token_25 rfl ?_
        obtain ⟨g4, h⟩ := gd_some h
        refine j_iaload (N := 160) C (rfl) (inb_in g4) dX8_token_26 ?_
        refine j_goto (tgt := 31) C dX8_token_27 (by decide) ?_
        obtain ⟨hv, hs⟩ := s2_inj h
        subst hv
        subst hs
        exact j_iret C e dX8_token_31
set_option maxRecDepth 10000 in
theorem c6_step (l : Launch) {α : WA}   {σ σ' : M2}  (h : F6_step  σ = some ((), σ')) : Ct l (ωC α) yX6_step cX6_step 1 (none) 2 [.ref (wad (ωC α) 40)] σ (none) σ' := by
  unfold F6_step at h
  refine Ct.of (own := "EveryoneWins$Reader") (L := [(0, .ref (wad (ωC α) 40))]) (by decide +kernel) rfl rfl rfl (fun κ hl e C => ?_)
  show J (ωC α) κ 2 1 0 [(0, .ref (wad (ωC α) 40))] [] σ
  refine j_aload_n C 0 dX6_step_0 rfl ?_
  refine j_dup C dX6_step_1 rfl ?_
  refine j_geti (o := 40) (j := 1) C inT6 (ci := 5) rfl (by decide) (rfl) rfl rfl wd_233 dX6_step_2 ?_
  refine j_iconst (v := 1) C dX6_step_5 (by decide) ?_
  refine j_iadd C dX6_step_6 ?_
  refine j_puti (o := 40) (j := 1) C inT6 tyX6_ok nmX6 (ci := 5) rfl (by decide) (rfl) rfl rfl rfl (tyX6_ok 1 (by decide)) rfl rfl wd_233 dX6_step_7 ?_
  refine j_aload_n C 0 dX6_step_10 rfl ?_
  refine j_aload_n C 0 dX6_step_11 rfl ?_
  refine j_getr (o := 40) (j := 0) C inT6 (ci := 5) rfl (by decide) (rfl) rfl rfl wd_232 dX6_step_12 (o' := 36) rfl ?_
  refine j_aload_n C 0 dX6_step_15 rfl ?_
  refine j_geti (o := 40) (j := 1) C inT6 (ci := 5) rfl (by decide) (rfl) rfl rfl wd_233 dX6_step_16 ?_
  obtain ⟨r1, s2, hc3, h⟩ := bnd_some h
  refine k_V (v := some (.int r1)) C vb_X8_token (ci := 7) (T := TX8) (N := 5) rfl (by decide) (c8_token _ hc3) rfl (by decide) wd_495 (rfl) rfl dX6_step_19 ?_
  show J (ωC α) κ _ _ 22 _ [.int r1, .ref (wad (ωC α) 40)] s2
  refine j_puti (o := 40) (j := 2) C inT6 tyX6_ok nmX6 (ci := 5) rfl (by decide) (rfl) rfl rfl rfl (tyX6_ok 2 (by decide)) rfl rfl wd_234 dX6_step_22 ?_
  obtain ⟨-, hs⟩ := s2_inj h
  subst hs
  exact j_vret C e dX6_step_25
set_option maxRecDepth 10000 in
theorem b8_place_30 {α : WA} {κ : KT}  {v : Int32} {σ' : M2}  (C : Cx (ωC α) κ cX8_place 2 "EveryoneWins$Tape" (some FieldType.int)) (e : κ.2.2.2.2.2.2.2.2.2 = (some (.int v), σ'))  {σ : M2} (h : F8_place_30  σ = some (v, σ')) : J (ωC α) κ 1 2 30 [(0, .ref (wad (ωC α) 36))] [] σ := by
  unfold F8_place_30 at h
  refine j_aload_n C 0 dX8_place_30 rfl ?_
  refine j_geti (o := 36) (j := 3) C inT8 (ci := 7) rfl (by decide) (rfl) rfl rfl wd_212 dX8_place_31 ?_
  obtain ⟨hv, hs⟩ := s2_inj h
  subst hv
  subst hs
  exact j_iret C e dX8_place_34
set_option maxRecDepth 10000 in
theorem c8_place (l : Launch) {α : WA}  {a1 : Int32} {σ σ' : M2} {v : Int32}  (h : F8_place a1 σ = some (v, σ')) : Ct l (ωC α) yX8_place cX8_place 2 (some FieldType.int) 1 [.ref (wad (ωC α) 36), .int a1] σ (some (.int v)) σ' := by
  unfold F8_place at h
  refine Ct.of (own := "EveryoneWins$Tape") (L := [(0, .ref (wad (ωC α) 36)), (1, .int a1)]) (by decide +kernel) rfl rfl rfl (fun κ hl e C => ?_)
  show J (ωC α) κ 1 2 0 [(0, .ref (wad (ωC α) 36)), (1, .int a1)] [] σ
  refine j_iload_n C 1 dX8_place_0 rfl ?_
  refine j_if_lt (tgt := 30) C dX8_place_1 (by decide) (fun c1 => ?_) (fun c1 => ?_)
  · replace h := it c1 h
    exact j_sub [0] rfl (b8_place_30 C e h)
  · replace h := ie c1 h
    refine j_iload_n C 1 dX8_place_4 rfl ?_
    refine j_aload_n C 0 dX8_place_5 rfl ?_
    refine j_geti (o := 36) (j := 4) C inT8 (ci := 7) rfl (by decide) (rfl) rfl rfl wd_214 dX8_place_6 ?_
    refine j_icmp_ge (tgt := 30) C dX8_place_9 (by decide) (fun c2 => ?_) (fun c2 => ?_)
    · replace h := it c2 h
      exact j_sub [0] rfl (b8_place_30 C e h)
    · replace h := ie c2 h
      refine j_iload_n C 1 dX8_place_12 rfl ?_
      refine j_aload_n C 0 dX8_place_13 rfl ?_
      refine j_getr (o := 36) (j := 2) C inT8 (ci := 7) rfl (by decide) (rfl) rfl rfl wd_211 dX8_place_14 (o' := 39) rfl ?_
      refine j_alen (o := 39) (t := 0) (N := 160) (v := 160) C rfl (by decide) rfl dX8_place_17 ?_
      refine j_icmp_ge (tgt := 30) C dX8_place_18 (by decide) (fun c3 => ?_) (fun c3 => ?_)
      · replace h := it c3 h
        exact j_sub [0] rfl (b8_place_30 C e h)
      · replace h := ie c3 h
        refine j_aload_n C 0 dX8_place_21 rfl ?_
        refine j_getr (o := 36) (j := 2) C inT8 (ci := 7) rfl (by decide) (rfl) rfl rfl wd_211 dX8_place_22 (o' := 39) rfl ?_
        refine j_iload_n C 1 dX8_place_25 rfl ?_
        obtain ⟨g4, h⟩ := gd_some h
        refine j_iaload (N := 160) C (rfl) (inb_in g4) dX8_place_26 ?_
        refine j_goto (tgt := 34) C dX8_place_27 (by decide) ?_
        obtain ⟨hv, hs⟩ := s2_inj h
        subst hv
        subst hs
        exact j_iret C e dX8_place_34
set_option maxRecDepth 10000 in
theorem b6_fail_22 {α : WA} {κ : KT}  {σ' : M2}  (C : Cx (ωC α) κ cX6_fail 1 "EveryoneWins$Reader" (none)) (e : κ.2.2.2.2.2.2.2.2.2 = (none, σ'))  {σ : M2} (h : F6_fail_22  σ = some ((), σ')) : J (ωC α) κ 2 1 22 [(0, .ref (wad (ωC α) 40))] [] σ := by
  unfold F6_fail_22 at h
  refine j_aload_n C 0 dX6_fail_22 rfl ?_
  refine j_iconst (v := 0) C dX6_fail_23 (by decide) ?_
  refine j_puti (o := 40) (j := 2) C inT6 tyX6_ok nmX6 (ci := 5) rfl (by decide) (rfl) rfl rfl rfl (tyX6_ok 2 (by decide)) rfl rfl wd_234 dX6_fail_24 ?_
  obtain ⟨-, hs⟩ := s2_inj h
  subst hs
  exact j_vret C e dX6_fail_27
set_option maxRecDepth 10000 in
theorem c6_fail (l : Launch) {α : WA}   {σ σ' : M2}  (h : F6_fail  σ = some ((), σ')) : Ct l (ωC α) yX6_fail cX6_fail 1 (none) 2 [.ref (wad (ωC α) 40)] σ (none) σ' := by
  unfold F6_fail at h
  refine Ct.of (own := "EveryoneWins$Reader") (L := [(0, .ref (wad (ωC α) 40))]) (by decide +kernel) rfl rfl rfl (fun κ hl e C => ?_)
  show J (ωC α) κ 2 1 0 [(0, .ref (wad (ωC α) 40))] [] σ
  refine j_aload_n C 0 dX6_fail_0 rfl ?_
  refine j_geti (o := 40) (j := 4) C inT6 (ci := 5) rfl (by decide) (rfl) rfl rfl wd_236 dX6_fail_1 ?_
  refine j_if_ge (tgt := 22) C dX6_fail_4 (by decide) (fun c1 => ?_) (fun c1 => ?_)
  · replace h := it c1 h
    exact (b6_fail_22 C e h)
  · replace h := ie c1 h
    refine j_aload_n C 0 dX6_fail_7 rfl ?_
    refine j_aload_n C 0 dX6_fail_8 rfl ?_
    refine j_getr (o := 40) (j := 0) C inT6 (ci := 5) rfl (by decide) (rfl) rfl rfl wd_232 dX6_fail_9 (o' := 36) rfl ?_
    refine j_aload_n C 0 dX6_fail_12 rfl ?_
    refine j_geti (o := 40) (j := 1) C inT6 (ci := 5) rfl (by decide) (rfl) rfl rfl wd_233 dX6_fail_13 ?_
    obtain ⟨r2, s3, hc4, h⟩ := bnd_some h
    refine k_V (v := some (.int r2)) C vb_X8_place (ci := 7) (T := TX8) (N := 5) rfl (by decide) (c8_place _ hc4) rfl (by decide) wd_515 (rfl) rfl dX6_fail_16 ?_
    show J (ωC α) κ _ _ 19 _ [.int r2, .ref (wad (ωC α) 40)] s3
    refine j_puti (o := 40) (j := 4) C inT6 tyX6_ok nmX6 (ci := 5) rfl (by decide) (rfl) rfl rfl rfl (tyX6_ok 4 (by decide)) rfl rfl wd_236 dX6_fail_19 ?_
    exact (b6_fail_22 C e h)
set_option maxRecDepth 10000 in
theorem c6_expect (l : Launch) {α : WA}  {a1 : Int32} {σ σ' : M2}  (h : F6_expect a1 σ = some ((), σ')) : Ct l (ωC α) yX6_expect cX6_expect 2 (none) 3 [.ref (wad (ωC α) 40), .int a1] σ (none) σ' := by
  unfold F6_expect at h
  refine Ct.of (own := "EveryoneWins$Reader") (L := [(0, .ref (wad (ωC α) 40)), (1, .int a1)]) (by decide +kernel) rfl rfl rfl (fun κ hl e C => ?_)
  show J (ωC α) κ 3 2 0 [(0, .ref (wad (ωC α) 40)), (1, .int a1)] [] σ
  refine j_aload_n C 0 dX6_expect_0 rfl ?_
  refine j_geti (o := 40) (j := 2) C inT6 (ci := 5) rfl (by decide) (rfl) rfl rfl wd_234 dX6_expect_1 ?_
  refine j_iload_n C 1 dX6_expect_4 rfl ?_
  refine j_icmp_ne (tgt := 15) C dX6_expect_5 (by decide) (fun c1 => ?_) (fun c1 => ?_)
  · replace h := ie c1 h
    refine j_aload_n C 0 dX6_expect_15 rfl ?_
    obtain ⟨r2, s3, hc4, h⟩ := bnd_some h
    refine k_V (v := none) C vb_X6_fail (ci := 5) (T := TX6) (N := 5) rfl (by decide) (c6_fail _ hc4) rfl (by decide) wd_511 (rfl) rfl dX6_expect_16 ?_
    show J (ωC α) κ _ _ 19 _ [] s3
    obtain ⟨-, hs⟩ := s2_inj h
    subst hs
    exact j_vret C e dX6_expect_19
  · replace h := it c1 h
    refine j_aload_n C 0 dX6_expect_8 rfl ?_
    obtain ⟨r5, s6, hc7, h⟩ := bnd_some h
    refine k_V (v := none) C vb_X6_step (ci := 5) (T := TX6) (N := 5) rfl (by decide) (c6_step _ hc7) rfl (by decide) wd_507 (rfl) rfl dX6_expect_9 ?_
    show J (ωC α) κ _ _ 12 _ [] s6
    refine j_goto (tgt := 19) C dX6_expect_12 (by decide) ?_
    obtain ⟨-, hs⟩ := s2_inj h
    subst hs
    exact j_vret C e dX6_expect_19
set_option maxRecDepth 10000 in
theorem c9_add (l : Launch) {α : WA}  {t : Nat} {a1 : Int32} {σ σ' : M2}  (h : F9_add t a1 σ = some ((), σ')) : Ct l (ωC α) yX9_add cX9_add 2 (none) 1 [.ref (wad (ωC α) t), .int a1] σ (none) σ' := by
  unfold F9_add at h
  refine Ct.of (own := "EveryoneWins$Text") (L := [(0, .ref (wad (ωC α) t)), (1, .int a1)]) (by decide +kernel) rfl rfl rfl (fun κ hl e C => ?_)
  show J (ωC α) κ 1 2 0 [(0, .ref (wad (ωC α) t)), (1, .int a1)] [] σ
  refine j_aload_n C 0 dX9_add_0 rfl ?_
  obtain ⟨g1, h⟩ := gd_some h
  refine j_geti (o := t) (j := 3) C inT9 (ci := 8) rfl (by decide) (isO_sh g1) rfl rfl wd_178 dX9_add_1 ?_
  refine j_aload_n C 0 dX9_add_4 rfl ?_
  refine j_getr (o := t) (j := 0) C inT9 (ci := 8) rfl (by decide) (isO_sh g1) rfl rfl wd_175 dX9_add_5 (o' := crf t 0) rfl ?_
  obtain ⟨g2, h⟩ := gd_some h
  refine j_alen (N := (csh (crf t 0)).2) C (isA_sh g2) (by decide) rfl dX9_add_8 ?_
  refine j_icmp_ge (tgt := 32) C dX9_add_9 (by decide) (fun c3 => ?_) (fun c3 => ?_)
  · replace h := it c3 h
    obtain ⟨-, hs⟩ := s2_inj h
    subst hs
    exact j_vret C e dX9_add_32
  · replace h := ie c3 h
    refine j_aload_n C 0 dX9_add_12 rfl ?_
    refine j_getr (o := t) (j := 0) C inT9 (ci := 8) rfl (by decide) (isO_sh g1) rfl rfl wd_175 dX9_add_13 (o' := crf t 0) rfl ?_
    refine j_aload_n C 0 dX9_add_16 rfl ?_
    refine j_geti (o := t) (j := 3) C inT9 (ci := 8) rfl (by decide) (isO_sh g1) rfl rfl wd_178 dX9_add_17 ?_
    refine j_iload_n C 1 dX9_add_20 rfl ?_
    obtain ⟨g4, h⟩ := gd_some h
    refine j_iastore (N := (csh (crf t 0)).2) C (isA_sh g2) (inb_in g4) dX9_add_21 ?_
    refine j_aload_n C 0 dX9_add_22 rfl ?_
    refine j_dup C dX9_add_23 rfl ?_
    refine j_geti (o := t) (j := 3) C inT9 (ci := 8) rfl (by decide) (isO_sh g1) rfl rfl wd_178 dX9_add_24 ?_
    refine j_iconst (v := 1) C dX9_add_27 (by decide) ?_
    refine j_iadd C dX9_add_28 ?_
    refine j_puti (o := t) (j := 3) C inT9 tyX9_ok nmX9 (ci := 8) rfl (by decide) (isO_sh g1) rfl rfl rfl (tyX9_ok 3 (by decide)) rfl rfl wd_178 dX9_add_29 ?_
    obtain ⟨-, hs⟩ := s2_inj h
    subst hs
    exact j_vret C e dX9_add_32
set_option maxRecDepth 10000 in
theorem c9_addName (l : Launch) {α : WA}  {t : Nat} {a1 : Int32} {σ σ' : M2}  (h : F9_addName t a1 σ = some ((), σ')) : Ct l (ωC α) yX9_addName cX9_addName 2 (none) 2 [.ref (wad (ωC α) t), .int a1] σ (none) σ' := by
  unfold F9_addName at h
  refine Ct.of (own := "EveryoneWins$Text") (L := [(0, .ref (wad (ωC α) t)), (1, .int a1)]) (by decide +kernel) rfl rfl rfl (fun κ hl e C => ?_)
  show J (ωC α) κ 2 2 0 [(0, .ref (wad (ωC α) t)), (1, .int a1)] [] σ
  refine j_aload_n C 0 dX9_addName_0 rfl ?_
  refine j_iconst (v := -1) C dX9_addName_1 (by decide) ?_
  refine j_iload_n C 1 dX9_addName_2 rfl ?_
  refine j_isub C dX9_addName_3 ?_
  obtain ⟨g1, h⟩ := gd_some h
  obtain ⟨r2, s3, hc4, h⟩ := bnd_some h
  refine k_V (v := none) C vb_X9_add (ci := 8) (T := TX9) (N := 5) rfl (by decide) (c9_add _ hc4) rfl (by decide) wd_555 (isO_sh g1) rfl dX9_addName_4 ?_
  show J (ωC α) κ _ _ 7 _ [] s3
  obtain ⟨-, hs⟩ := s2_inj h
  subst hs
  exact j_vret C e dX9_addName_7
set_option maxRecDepth 10000 in
theorem c6_opens (l : Launch) {α : WA}   {σ σ' : M2} {v : Int32}  (h : F6_opens  σ = some (v, σ')) : Ct l (ωC α) yX6_opens cX6_opens 1 (some FieldType.boolean) 3 [.ref (wad (ωC α) 40)] σ (some (.int v)) σ' := by
  unfold F6_opens at h
  refine Ct.of (own := "EveryoneWins$Reader") (L := [(0, .ref (wad (ωC α) 40))]) (by decide +kernel) rfl rfl rfl (fun κ hl e C => ?_)
  show J (ωC α) κ 3 1 0 [(0, .ref (wad (ωC α) 40))] [] σ
  refine j_aload_n C 0 dX6_opens_0 rfl ?_
  refine j_geti (o := 40) (j := 3) C inT6 (ci := 5) rfl (by decide) (rfl) rfl rfl wd_235 dX6_opens_1 ?_
  refine j_iconst (v := 5) C dX6_opens_4 (by decide) ?_
  refine j_icmp_lt (tgt := 14) C dX6_opens_5 (by decide) (fun c1 => ?_) (fun c1 => ?_)
  · replace h := it c1 h
    refine j_aload_n C 0 dX6_opens_14 rfl ?_
    refine j_dup C dX6_opens_15 rfl ?_
    refine j_geti (o := 40) (j := 3) C inT6 (ci := 5) rfl (by decide) (rfl) rfl rfl wd_235 dX6_opens_16 ?_
    refine j_iconst (v := 1) C dX6_opens_19 (by decide) ?_
    refine j_iadd C dX6_opens_20 ?_
    refine j_puti (o := 40) (j := 3) C inT6 tyX6_ok nmX6 (ci := 5) rfl (by decide) (rfl) rfl rfl rfl (tyX6_ok 3 (by decide)) rfl rfl wd_235 dX6_opens_21 ?_
    refine j_iconst (v := 1) C dX6_opens_24 (by decide) ?_
    obtain ⟨hv, hs⟩ := s2_inj h
    subst hv
    subst hs
    exact j_zret C e rfl dX6_opens_25
  · replace h := ie c1 h
    refine j_aload_n C 0 dX6_opens_8 rfl ?_
    obtain ⟨r2, s3, hc4, h⟩ := bnd_some h
    refine k_V (v := none) C vb_X6_fail (ci := 5) (T := TX6) (N := 5) rfl (by decide) (c6_fail _ hc4) rfl (by decide) wd_511 (rfl) rfl dX6_opens_9 ?_
    show J (ωC α) κ _ _ 12 _ [] s3
    refine j_iconst (v := 0) C dX6_opens_12 (by decide) ?_
    obtain ⟨hv, hs⟩ := s2_inj h
    subst hv
    subst hs
    exact j_zret C e rfl dX6_opens_13
set_option maxRecDepth 10000 in
theorem c6_readNegated (l : Launch) {α : WA} {rc : Nat → Nat → M2 → Option (Unit × M2)} {m : Nat} {a1 : Nat} {σ σ' : M2}  (hm : 12 ≤ m) (hrc : ∀ tag t σ σ', rc tag t σ = some ((), σ') → CtR α l m tag t σ σ') (h : F6_readNegated rc a1 σ = some ((), σ')) : Ct l (ωC α) yX6_readNegated cX6_readNegated 2 (none) (m + 1) [.ref (wad (ωC α) 40), .ref (wad (ωC α) a1)] σ (none) σ' := by
  unfold F6_readNegated at h
  refine Ct.of (own := "EveryoneWins$Reader") (L := [(0, .ref (wad (ωC α) 40)), (1, .ref (wad (ωC α) a1))]) (by decide +kernel) rfl rfl rfl (fun κ hl e C => ?_)
  subst hl
  show J (ωC α) κ (m + 1) 2 0 [(0, .ref (wad (ωC α) 40)), (1, .ref (wad (ωC α) a1))] [] σ
  refine j_aload_n C 0 dX6_readNegated_0 rfl ?_
  obtain ⟨r1, s2, hc3, h⟩ := bnd_some h
  refine k_V (v := some (.int r1)) C vb_X6_opens (ci := 5) (T := TX6) (N := 5) rfl (by decide) (c6_opens _ hc3) rfl (by omega) wd_560 (rfl) rfl dX6_readNegated_1 ?_
  show J (ωC α) κ _ _ 4 _ [.int r1] s2
  refine j_if_eq (tgt := 32) C dX6_readNegated_4 (by decide) (fun c4 => ?_) (fun c4 => ?_)
  · replace h := it c4 h
    obtain ⟨-, hs⟩ := s2_inj h
    subst hs
    exact j_vret C e dX6_readNegated_32
  · replace h := ie c4 h
    refine j_aload_n C 0 dX6_readNegated_7 rfl ?_
    obtain ⟨r5, s6, hc7, h⟩ := bnd_some h
    refine k_V (v := none) C vb_X6_step (ci := 5) (T := TX6) (N := 5) rfl (by decide) (c6_step _ hc7) rfl (by omega) wd_507 (rfl) rfl dX6_readNegated_8 ?_
    show J (ωC α) κ _ _ 11 _ [] s6
    refine j_aload_n C 0 dX6_readNegated_11 rfl ?_
    refine j_aload_n C 1 dX6_readNegated_12 rfl ?_
    obtain ⟨r8, s9, hc10, h⟩ := bnd_some h
    refine k_V (v := none) C vb_X6_readOne (ci := 5) (T := TX6) (N := 5) rfl (by decide) ((hrc 2 _ _ _ hc10).2.2 rfl) rfl (by omega) wd_543 (rfl) rfl dX6_readNegated_13 ?_
    show J (ωC α) κ _ _ 16 _ [] s9
    refine j_aload_n C 0 dX6_readNegated_16 rfl ?_
    refine j_dup C dX6_readNegated_17 rfl ?_
    refine j_geti (o := 40) (j := 3) C inT6 (ci := 5) rfl (by decide) (rfl) rfl rfl wd_235 dX6_readNegated_18 ?_
    refine j_iconst (v := 1) C dX6_readNegated_21 (by decide) ?_
    refine j_isub C dX6_readNegated_22 ?_
    refine j_puti (o := 40) (j := 3) C inT6 tyX6_ok nmX6 (ci := 5) rfl (by decide) (rfl) rfl rfl rfl (tyX6_ok 3 (by decide)) rfl rfl wd_235 dX6_readNegated_23 ?_
    refine j_aload_n C 1 dX6_readNegated_26 rfl ?_
    refine j_bipush (v := -7) C dX6_readNegated_27 (by decide) ?_
    obtain ⟨g11, h⟩ := gd_some h
    obtain ⟨r12, s13, hc14, h⟩ := bnd_some h
    refine k_V (v := none) C vb_X9_add (ci := 8) (T := TX9) (N := 5) rfl (by decide) (c9_add _ hc14) rfl (by omega) wd_547 (isO_sh g11) rfl dX6_readNegated_29 ?_
    show J (ωC α) κ _ _ 32 _ [] s13
    obtain ⟨-, hs⟩ := s2_inj h
    subst hs
    exact j_vret C e dX6_readNegated_32
set_option maxRecDepth 10000 in
theorem c6_readInBrackets (l : Launch) {α : WA} {rc : Nat → Nat → M2 → Option (Unit × M2)} {m : Nat} {a1 : Nat} {σ σ' : M2}  (hm : 12 ≤ m) (hrc : ∀ tag t σ σ', rc tag t σ = some ((), σ') → CtR α l m tag t σ σ') (h : F6_readInBrackets rc a1 σ = some ((), σ')) : Ct l (ωC α) yX6_readInBrackets cX6_readInBrackets 2 (none) (m + 1) [.ref (wad (ωC α) 40), .ref (wad (ωC α) a1)] σ (none) σ' := by
  unfold F6_readInBrackets at h
  refine Ct.of (own := "EveryoneWins$Reader") (L := [(0, .ref (wad (ωC α) 40)), (1, .ref (wad (ωC α) a1))]) (by decide +kernel) rfl rfl rfl (fun κ hl e C => ?_)
  subst hl
  show J (ωC α) κ (m + 1) 2 0 [(0, .ref (wad (ωC α) 40)), (1, .ref (wad (ωC α) a1))] [] σ
  refine j_aload_n C 0 dX6_readInBrackets_0 rfl ?_
  obtain ⟨r1, s2, hc3, h⟩ := bnd_some h
  refine k_V (v := some (.int r1)) C vb_X6_opens (ci := 5) (T := TX6) (N := 5) rfl (by decide) (c6_opens _ hc3) rfl (by omega) wd_560 (rfl) rfl dX6_readInBrackets_1 ?_
  show J (ωC α) κ _ _ 4 _ [.int r1] s2
  refine j_if_eq (tgt := 32) C dX6_readInBrackets_4 (by decide) (fun c4 => ?_) (fun c4 => ?_)
  · replace h := it c4 h
    obtain ⟨-, hs⟩ := s2_inj h
    subst hs
    exact j_vret C e dX6_readInBrackets_32
  · replace h := ie c4 h
    refine j_aload_n C 0 dX6_readInBrackets_7 rfl ?_
    obtain ⟨r5, s6, hc7, h⟩ := bnd_some h
    refine k_V (v := none) C vb_X6_step (ci := 5) (T := TX6) (N := 5) rfl (by decide) (c6_step _ hc7) rfl (by omega) wd_507 (rfl) rfl dX6_readInBrackets_8 ?_
    show J (ωC α) κ _ _ 11 _ [] s6
    refine j_aload_n C 0 dX6_readInBrackets_11 rfl ?_
    refine j_aload_n C 1 dX6_readInBrackets_12 rfl ?_
    obtain ⟨r8, s9, hc10, h⟩ := bnd_some h
    refine k_V (v := none) C vb_X6_readE (ci := 5) (T := TX6) (N := 5) rfl (by decide) ((hrc 0 _ _ _ hc10).1 rfl) rfl (by omega) wd_519 (rfl) rfl dX6_readInBrackets_13 ?_
    show J (ωC α) κ _ _ 16 _ [] s9
    refine j_aload_n C 0 dX6_readInBrackets_16 rfl ?_
    refine j_bipush (v := 41) C dX6_readInBrackets_17 (by decide) ?_
    obtain ⟨r11, s12, hc13, h⟩ := bnd_some h
    refine k_V (v := none) C vb_X6_expect (ci := 5) (T := TX6) (N := 5) rfl (by decide) (c6_expect _ hc13) rfl (by omega) wd_503 (rfl) rfl dX6_readInBrackets_19 ?_
    show J (ωC α) κ _ _ 22 _ [] s12
    refine j_aload_n C 0 dX6_readInBrackets_22 rfl ?_
    refine j_dup C dX6_readInBrackets_23 rfl ?_
    refine j_geti (o := 40) (j := 3) C inT6 (ci := 5) rfl (by decide) (rfl) rfl rfl wd_235 dX6_readInBrackets_24 ?_
    refine j_iconst (v := 1) C dX6_readInBrackets_27 (by decide) ?_
    refine j_isub C dX6_readInBrackets_28 ?_
    refine j_puti (o := 40) (j := 3) C inT6 tyX6_ok nmX6 (ci := 5) rfl (by decide) (rfl) rfl rfl rfl (tyX6_ok 3 (by decide)) rfl rfl wd_235 dX6_readInBrackets_29 ?_
    obtain ⟨-, hs⟩ := s2_inj h
    subst hs
    exact j_vret C e dX6_readInBrackets_32
set_option maxRecDepth 10000 in
theorem c6_readOne (l : Launch) {α : WA} {rc : Nat → Nat → M2 → Option (Unit × M2)} {m : Nat} {a1 : Nat} {σ σ' : M2}  (hm : 12 ≤ m) (hrc : ∀ tag t σ σ', rc tag t σ = some ((), σ') → CtR α l m tag t σ σ') (h : F6_readOne rc a1 σ = some ((), σ')) : Ct l (ωC α) yX6_readOne cX6_readOne 2 (none) (m + 2) [.ref (wad (ωC α) 40), .ref (wad (ωC α) a1)] σ (none) σ' := by
  unfold F6_readOne at h
  refine Ct.of (own := "EveryoneWins$Reader") (L := [(0, .ref (wad (ωC α) 40)), (1, .ref (wad (ωC α) a1))]) (by decide +kernel) rfl rfl rfl (fun κ hl e C => ?_)
  subst hl
  show J (ωC α) κ (m + 2) 2 0 [(0, .ref (wad (ωC α) 40)), (1, .ref (wad (ωC α) a1))] [] σ
  refine j_aload_n C 0 dX6_readOne_0 rfl ?_
  refine j_geti (o := 40) (j := 2) C inT6 (ci := 5) rfl (by decide) (rfl) rfl rfl wd_234 dX6_readOne_1 ?_
  refine j_sipush (v := 512) C dX6_readOne_4 (by decide) ?_
  refine j_icmp_lt (tgt := 29) C dX6_readOne_7 (by decide) (fun c1 => ?_) (fun c1 => ?_)
  · replace h := it c1 h
    refine j_aload_n C 0 dX6_readOne_29 rfl ?_
    refine j_geti (o := 40) (j := 2) C inT6 (ci := 5) rfl (by decide) (rfl) rfl rfl wd_234 dX6_readOne_30 ?_
    refine j_sipush (v := 256) C dX6_readOne_33 (by decide) ?_
    refine j_icmp_lt (tgt := 58) C dX6_readOne_36 (by decide) (fun c2 => ?_) (fun c2 => ?_)
    · replace h := it c2 h
      refine j_aload_n C 0 dX6_readOne_58 rfl ?_
      refine j_geti (o := 40) (j := 2) C inT6 (ci := 5) rfl (by decide) (rfl) rfl rfl wd_234 dX6_readOne_59 ?_
      refine j_bipush (v := 45) C dX6_readOne_62 (by decide) ?_
      refine j_icmp_ne (tgt := 75) C dX6_readOne_64 (by decide) (fun c3 => ?_) (fun c3 => ?_)
      · replace h := ie c3 h
        refine j_aload_n C 0 dX6_readOne_75 rfl ?_
        refine j_geti (o := 40) (j := 2) C inT6 (ci := 5) rfl (by decide) (rfl) rfl rfl wd_234 dX6_readOne_76 ?_
        refine j_bipush (v := 40) C dX6_readOne_79 (by decide) ?_
        refine j_icmp_ne (tgt := 92) C dX6_readOne_81 (by decide) (fun c4 => ?_) (fun c4 => ?_)
        · replace h := ie c4 h
          refine j_aload_n C 0 dX6_readOne_92 rfl ?_
          obtain ⟨r5, s6, hc7, h⟩ := bnd_some h
          refine k_V (v := none) C vb_X6_fail (ci := 5) (T := TX6) (N := 5) rfl (by decide) (c6_fail _ hc7) rfl (by omega) wd_511 (rfl) rfl dX6_readOne_93 ?_
          show J (ωC α) κ _ _ 96 _ [] s6
          obtain ⟨-, hs⟩ := s2_inj h
          subst hs
          exact j_vret C e dX6_readOne_96
        · replace h := it c4 h
          refine j_aload_n C 0 dX6_readOne_84 rfl ?_
          refine j_aload_n C 1 dX6_readOne_85 rfl ?_
          obtain ⟨r8, s9, hc10, h⟩ := bnd_some h
          refine k_V (v := none) C vb_X6_readInBrackets (ci := 5) (T := TX6) (N := 5) rfl (by decide) (c6_readInBrackets _ hm hrc hc10) rfl (by omega) wd_564 (rfl) rfl dX6_readOne_86 ?_
          show J (ωC α) κ _ _ 89 _ [] s9
          refine j_goto (tgt := 96) C dX6_readOne_89 (by decide) ?_
          obtain ⟨-, hs⟩ := s2_inj h
          subst hs
          exact j_vret C e dX6_readOne_96
      · replace h := it c3 h
        refine j_aload_n C 0 dX6_readOne_67 rfl ?_
        refine j_aload_n C 1 dX6_readOne_68 rfl ?_
        obtain ⟨r11, s12, hc13, h⟩ := bnd_some h
        refine k_V (v := none) C vb_X6_readNegated (ci := 5) (T := TX6) (N := 5) rfl (by decide) (c6_readNegated _ hm hrc hc13) rfl (by omega) wd_556 (rfl) rfl dX6_readOne_69 ?_
        show J (ωC α) κ _ _ 72 _ [] s12
        refine j_goto (tgt := 96) C dX6_readOne_72 (by decide) ?_
        obtain ⟨-, hs⟩ := s2_inj h
        subst hs
        exact j_vret C e dX6_readOne_96
    · replace h := ie c2 h
      refine j_aload_n C 1 dX6_readOne_39 rfl ?_
      refine j_aload_n C 0 dX6_readOne_40 rfl ?_
      refine j_geti (o := 40) (j := 2) C inT6 (ci := 5) rfl (by decide) (rfl) rfl rfl wd_234 dX6_readOne_41 ?_
      refine j_sipush (v := 256) C dX6_readOne_44 (by decide) ?_
      refine j_isub C dX6_readOne_47 ?_
      obtain ⟨g14, h⟩ := gd_some h
      obtain ⟨r15, s16, hc17, h⟩ := bnd_some h
      refine k_V (v := none) C vb_X9_addName (ci := 8) (T := TX9) (N := 5) rfl (by decide) (c9_addName _ hc17) rfl (by omega) wd_551 (isO_sh g14) rfl dX6_readOne_48 ?_
      show J (ωC α) κ _ _ 51 _ [] s16
      refine j_aload_n C 0 dX6_readOne_51 rfl ?_
      obtain ⟨r18, s19, hc20, h⟩ := bnd_some h
      refine k_V (v := none) C vb_X6_step (ci := 5) (T := TX6) (N := 5) rfl (by decide) (c6_step _ hc20) rfl (by omega) wd_507 (rfl) rfl dX6_readOne_52 ?_
      show J (ωC α) κ _ _ 55 _ [] s19
      refine j_goto (tgt := 96) C dX6_readOne_55 (by decide) ?_
      obtain ⟨-, hs⟩ := s2_inj h
      subst hs
      exact j_vret C e dX6_readOne_96
  · replace h := ie c1 h
    refine j_aload_n C 1 dX6_readOne_10 rfl ?_
    refine j_aload_n C 0 dX6_readOne_11 rfl ?_
    refine j_geti (o := 40) (j := 2) C inT6 (ci := 5) rfl (by decide) (rfl) rfl rfl wd_234 dX6_readOne_12 ?_
    refine j_sipush (v := 512) C dX6_readOne_15 (by decide) ?_
    refine j_isub C dX6_readOne_18 ?_
    obtain ⟨g21, h⟩ := gd_some h
    obtain ⟨r22, s23, hc24, h⟩ := bnd_some h
    refine k_V (v := none) C vb_X9_add (ci := 8) (T := TX9) (N := 5) rfl (by decide) (c9_add _ hc24) rfl (by omega) wd_547 (isO_sh g21) rfl dX6_readOne_19 ?_
    show J (ωC α) κ _ _ 22 _ [] s23
    refine j_aload_n C 0 dX6_readOne_22 rfl ?_
    obtain ⟨r25, s26, hc27, h⟩ := bnd_some h
    refine k_V (v := none) C vb_X6_step (ci := 5) (T := TX6) (N := 5) rfl (by decide) (c6_step _ hc27) rfl (by omega) wd_507 (rfl) rfl dX6_readOne_23 ?_
    show J (ωC α) κ _ _ 26 _ [] s26
    refine j_goto (tgt := 96) C dX6_readOne_26 (by decide) ?_
    obtain ⟨-, hs⟩ := s2_inj h
    subst hs
    exact j_vret C e dX6_readOne_96
set_option maxRecDepth 10000 in
theorem b6_readTerm_7 {α : WA} {κ : KT} {rc : Nat → Nat → M2 → Option (Unit × M2)} {m : Nat} {fu : Nat} {σ' : M2} {x1 : Nat} {x2 : Int32} (C : Cx (ωC α) κ cX6_readTerm 3 "EveryoneWins$Reader" (none)) (e : κ.2.2.2.2.2.2.2.2.2 = (none, σ')) (hm : 12 ≤ m) (hrc : ∀ tag t σ σ', rc tag t σ = some ((), σ') → CtR α κ.2.1 m tag t σ σ')  {σ : M2} (h : F6_readTerm_7 rc fu x1 x2 σ = some ((), σ')) : J (ωC α) κ (m + 3) 3 7 [(0, .ref (wad (ωC α) 40)), (1, .ref (wad (ωC α) x1)), (2, .int x2)] [] σ := by
  unfold F6_readTerm_7 at h
  refine wl1_ind (fun x2 σ => J (ωC α) κ (m + 3) 3 7 [(0, .ref (wad (ωC α) 40)), (1, .ref (wad (ωC α) x1)), (2, .int x2)] [] σ) ?_ fu x2 σ h
  intro k7 hk7 x2 σ h
  try dsimp only at h
  show J (ωC α) κ (m + 3) 3 7 [(0, .ref (wad (ωC α) 40)), (1, .ref (wad (ωC α) x1)), (2, .int x2)] [] σ
  refine j_iload_n C 2 dX6_readTerm_7 rfl ?_
  refine j_sipush (v := 160) C dX6_readTerm_8 (by decide) ?_
  refine j_icmp_ge (tgt := 44) C dX6_readTerm_11 (by decide) (fun c1 => ?_) (fun c1 => ?_)
  · replace h := it c1 h
    obtain ⟨-, hs⟩ := s2_inj h
    subst hs
    exact j_vret C e dX6_readTerm_44
  · replace h := ie c1 h
    refine j_aload_n C 0 dX6_readTerm_14 rfl ?_
    refine j_geti (o := 40) (j := 2) C inT6 (ci := 5) rfl (by decide) (rfl) rfl rfl wd_234 dX6_readTerm_15 ?_
    refine j_bipush (v := 42) C dX6_readTerm_18 (by decide) ?_
    refine j_icmp_ne (tgt := 44) C dX6_readTerm_20 (by decide) (fun c2 => ?_) (fun c2 => ?_)
    · replace h := ie c2 h
      obtain ⟨-, hs⟩ := s2_inj h
      subst hs
      exact j_vret C e dX6_readTerm_44
    · replace h := it c2 h
      refine j_aload_n C 0 dX6_readTerm_23 rfl ?_
      obtain ⟨r3, s4, hc5, h⟩ := bnd_some h
      refine k_V (v := none) C vb_X6_step (ci := 5) (T := TX6) (N := 5) rfl (by decide) (c6_step _ hc5) rfl (by omega) wd_507 (rfl) rfl dX6_readTerm_24 ?_
      show J (ωC α) κ _ _ 27 _ [] s4
      refine j_aload_n C 0 dX6_readTerm_27 rfl ?_
      refine j_aload_n C 1 dX6_readTerm_28 rfl ?_
      obtain ⟨r6, s7, hc8, h⟩ := bnd_some h
      refine k_V (v := none) C vb_X6_readOne (ci := 5) (T := TX6) (N := 5) rfl (by decide) (c6_readOne _ hm hrc hc8) rfl (by omega) wd_543 (rfl) rfl dX6_readTerm_29 ?_
      show J (ωC α) κ _ _ 32 _ [] s7
      refine j_aload_n C 1 dX6_readTerm_32 rfl ?_
      refine j_bipush (v := -9) C dX6_readTerm_33 (by decide) ?_
      obtain ⟨g9, h⟩ := gd_some h
      obtain ⟨r10, s11, hc12, h⟩ := bnd_some h
      refine k_V (v := none) C vb_X9_add (ci := 8) (T := TX9) (N := 5) rfl (by decide) (c9_add _ hc12) rfl (by omega) wd_547 (isO_sh g9) rfl dX6_readTerm_35 ?_
      show J (ωC α) κ _ _ 38 _ [] s11
      refine j_iinc (L' := [(2, .int (x2 + 1)), (0, .ref (wad (ωC α) 40)), (1, .ref (wad (ωC α) x1))]) C 2 dX6_readTerm_38 rfl rfl rfl rfl ?_
      refine j_goto (tgt := 7) C dX6_readTerm_41 (by decide) ?_
      exact j_sub [1, 2, 0] rfl (hk7 _ _ h)
set_option maxRecDepth 10000 in
theorem c6_readTerm (l : Launch) {α : WA} {rc : Nat → Nat → M2 → Option (Unit × M2)} {m : Nat} {fu : Nat} {a1 : Nat} {σ σ' : M2}  (hm : 12 ≤ m) (hrc : ∀ tag t σ σ', rc tag t σ = some ((), σ') → CtR α l m tag t σ σ') (h : F6_readTerm rc fu a1 σ = some ((), σ')) : Ct l (ωC α) yX6_readTerm cX6_readTerm 3 (none) (m + 3) [.ref (wad (ωC α) 40), .ref (wad (ωC α) a1)] σ (none) σ' := by
  unfold F6_readTerm at h
  refine Ct.of (own := "EveryoneWins$Reader") (L := [(0, .ref (wad (ωC α) 40)), (1, .ref (wad (ωC α) a1))]) (by decide +kernel) rfl rfl rfl (fun κ hl e C => ?_)
  subst hl
  show J (ωC α) κ (m + 3) 3 0 [(0, .ref (wad (ωC α) 40)), (1, .ref (wad (ωC α) a1))] [] σ
  refine j_aload_n C 0 dX6_readTerm_0 rfl ?_
  refine j_aload_n C 1 dX6_readTerm_1 rfl ?_
  obtain ⟨r1, s2, hc3, h⟩ := bnd_some h
  refine k_V (v := none) C vb_X6_readOne (ci := 5) (T := TX6) (N := 5) rfl (by decide) (c6_readOne _ hm hrc hc3) rfl (by omega) wd_543 (rfl) rfl dX6_readTerm_2 ?_
  show J (ωC α) κ _ _ 5 _ [] s2
  refine j_iconst (v := 0) C dX6_readTerm_5 (by decide) ?_
  refine j_istore_n (L' := [(2, .int (0 : Int32)), (0, .ref (wad (ωC α) 40)), (1, .ref (wad (ωC α) a1))]) C dX6_readTerm_6 rfl rfl rfl ?_
  exact j_sub [1, 2, 0] rfl (b6_readTerm_7 C e hm hrc h)
set_option maxRecDepth 10000 in
theorem b6_readSum_48 {α : WA} {κ : KT} {rc : Nat → Nat → M2 → Option (Unit × M2)} {m : Nat} {fu : Nat} {σ' : M2} {x1 : Nat} {x2 : Int32} {y0 : Int32} (C : Cx (ωC α) κ cX6_readSum 4 "EveryoneWins$Reader" (none)) (e : κ.2.2.2.2.2.2.2.2.2 = (none, σ')) (hm : 12 ≤ m) (hrc : ∀ tag t σ σ', rc tag t σ = some ((), σ') → CtR α κ.2.1 m tag t σ σ') {k7 : Int32 → M2 → Option (Unit × M2)} (hk7 : ∀ (x2' : Int32) (σ : M2), k7 x2' σ = some ((), σ') → J (ωC α) κ (m + 4) 4 7 [(0, .ref (wad (ωC α) 40)), (1, .ref (wad (ωC α) x1)), (2, .int x2')] [] σ) {σ : M2} (h : F6_readSum_48 rc fu k7 x1 x2 y0 σ = some ((), σ')) : J (ωC α) κ (m + 4) 4 48 [(0, .ref (wad (ωC α) 40)), (1, .ref (wad (ωC α) x1)), (2, .int x2)] [.int y0] σ := by
  unfold F6_readSum_48 at h
  refine j_istore_n (L' := [(3, .int y0), (0, .ref (wad (ωC α) 40)), (1, .ref (wad (ωC α) x1)), (2, .int x2)]) C dX6_readSum_48 rfl rfl rfl ?_
  refine j_aload_n C 1 dX6_readSum_49 rfl ?_
  obtain ⟨r1, s2, hc3, h⟩ := bnd_some h
  refine k_V (v := none) C vb_X6_step (ci := 5) (T := TX6) (N := 5) rfl (by decide) (c6_step _ hc3) rfl (by omega) wd_507 (rfl) rfl dX6_readSum_50 ?_
  show J (ωC α) κ _ _ 53 _ [] s2
  refine j_aload_n C 1 dX6_readSum_53 rfl ?_
  refine j_aload_n C 2 dX6_readSum_54 rfl ?_
  obtain ⟨r4, s5, hc6, h⟩ := bnd_some h
  refine k_V (v := none) C vb_X6_readTerm (ci := 5) (T := TX6) (N := 5) rfl (by decide) (c6_readTerm _ hm hrc hc6) rfl (by omega) wd_539 (rfl) rfl dX6_readSum_55 ?_
  show J (ωC α) κ _ _ 58 _ [] s5
  refine j_aload_n C 2 dX6_readSum_58 rfl ?_
  refine j_iload_n C 0 dX6_readSum_59 rfl ?_
  obtain ⟨g7, h⟩ := gd_some h
  obtain ⟨r8, s9, hc10, h⟩ := bnd_some h
  refine k_V (v := none) C vb_X9_add (ci := 8) (T := TX9) (N := 5) rfl (by decide) (c9_add _ hc10) rfl (by omega) wd_547 (isO_sh g7) rfl dX6_readSum_60 ?_
  show J (ωC α) κ _ _ 63 _ [] s9
  refine j_iinc (L' := [(2, .int (x2 + 1)), (3, .int y0), (0, .ref (wad (ωC α) 40)), (1, .ref (wad (ωC α) x1))]) C 3 dX6_readSum_63 rfl rfl rfl rfl ?_
  refine j_goto (tgt := 7) C dX6_readSum_66 (by decide) ?_
  exact j_sub [2, 3, 0] rfl (hk7 _ _ h)
set_option maxRecDepth 10000 in
theorem b6_readSum_32 {α : WA} {κ : KT} {rc : Nat → Nat → M2 → Option (Unit × M2)} {m : Nat} {fu : Nat} {σ' : M2} {x1 : Nat} {x2 : Int32} (C : Cx (ωC α) κ cX6_readSum 4 "EveryoneWins$Reader" (none)) (e : κ.2.2.2.2.2.2.2.2.2 = (none, σ')) (hm : 12 ≤ m) (hrc : ∀ tag t σ σ', rc tag t σ = some ((), σ') → CtR α κ.2.1 m tag t σ σ') {k7 : Int32 → M2 → Option (Unit × M2)} (hk7 : ∀ (x2' : Int32) (σ : M2), k7 x2' σ = some ((), σ') → J (ωC α) κ (m + 4) 4 7 [(0, .ref (wad (ωC α) 40)), (1, .ref (wad (ωC α) x1)), (2, .int x2')] [] σ) {σ : M2} (h : F6_readSum_32 rc fu k7 x1 x2 σ = some ((), σ')) : J (ωC α) κ (m + 4) 4 32 [(0, .ref (wad (ωC α) 40)), (1, .ref (wad (ωC α) x1)), (2, .int x2)] [] σ := by
  unfold F6_readSum_32 at h
  refine j_aload_n C 0 dX6_readSum_32 rfl ?_
  refine j_geti (o := 40) (j := 2) C inT6 (ci := 5) rfl (by decide) (rfl) rfl rfl wd_234 dX6_readSum_33 ?_
  refine j_bipush (v := 43) C dX6_readSum_36 (by decide) ?_
  refine j_icmp_ne (tgt := 46) C dX6_readSum_38 (by decide) (fun c1 => ?_) (fun c1 => ?_)
  · replace h := ie c1 h
    refine j_bipush (v := -11) C dX6_readSum_46 (by decide) ?_
    exact (b6_readSum_48 C e hm hrc hk7 h)
  · replace h := it c1 h
    refine j_bipush (v := -10) C dX6_readSum_41 (by decide) ?_
    refine j_goto (tgt := 48) C dX6_readSum_43 (by decide) ?_
    exact (b6_readSum_48 C e hm hrc hk7 h)
set_option maxRecDepth 10000 in
theorem b6_readSum_7 {α : WA} {κ : KT} {rc : Nat → Nat → M2 → Option (Unit × M2)} {m : Nat} {fu : Nat} {σ' : M2} {x1 : Nat} {x2 : Int32} (C : Cx (ωC α) κ cX6_readSum 4 "EveryoneWins$Reader" (none)) (e : κ.2.2.2.2.2.2.2.2.2 = (none, σ')) (hm : 12 ≤ m) (hrc : ∀ tag t σ σ', rc tag t σ = some ((), σ') → CtR α κ.2.1 m tag t σ σ')  {σ : M2} (h : F6_readSum_7 rc fu x1 x2 σ = some ((), σ')) : J (ωC α) κ (m + 4) 4 7 [(0, .ref (wad (ωC α) 40)), (1, .ref (wad (ωC α) x1)), (2, .int x2)] [] σ := by
  unfold F6_readSum_7 at h
  refine wl1_ind (fun x2 σ => J (ωC α) κ (m + 4) 4 7 [(0, .ref (wad (ωC α) 40)), (1, .ref (wad (ωC α) x1)), (2, .int x2)] [] σ) ?_ fu x2 σ h
  intro k7 hk7 x2 σ h
  try dsimp only at h
  show J (ωC α) κ (m + 4) 4 7 [(0, .ref (wad (ωC α) 40)), (1, .ref (wad (ωC α) x1)), (2, .int x2)] [] σ
  refine j_iload_n C 2 dX6_readSum_7 rfl ?_
  refine j_sipush (v := 160) C dX6_readSum_8 (by decide) ?_
  refine j_icmp_ge (tgt := 69) C dX6_readSum_11 (by decide) (fun c1 => ?_) (fun c1 => ?_)
  · replace h := it c1 h
    obtain ⟨-, hs⟩ := s2_inj h
    subst hs
    exact j_vret C e dX6_readSum_69
  · replace h := ie c1 h
    refine j_aload_n C 0 dX6_readSum_14 rfl ?_
    refine j_geti (o := 40) (j := 2) C inT6 (ci := 5) rfl (by decide) (rfl) rfl rfl wd_234 dX6_readSum_15 ?_
    refine j_bipush (v := 43) C dX6_readSum_18 (by decide) ?_
    refine j_icmp_eq (tgt := 32) C dX6_readSum_20 (by decide) (fun c2 => ?_) (fun c2 => ?_)
    · replace h := it c2 h
      exact (b6_readSum_32 C e hm hrc hk7 h)
    · replace h := ie c2 h
      refine j_aload_n C 0 dX6_readSum_23 rfl ?_
      refine j_geti (o := 40) (j := 2) C inT6 (ci := 5) rfl (by decide) (rfl) rfl rfl wd_234 dX6_readSum_24 ?_
      refine j_bipush (v := 45) C dX6_readSum_27 (by decide) ?_
      refine j_icmp_ne (tgt := 69) C dX6_readSum_29 (by decide) (fun c3 => ?_) (fun c3 => ?_)
      · replace h := ie c3 h
        obtain ⟨-, hs⟩ := s2_inj h
        subst hs
        exact j_vret C e dX6_readSum_69
      · replace h := it c3 h
        exact (b6_readSum_32 C e hm hrc hk7 h)
set_option maxRecDepth 10000 in
theorem c6_readSum (l : Launch) {α : WA} {rc : Nat → Nat → M2 → Option (Unit × M2)} {m : Nat} {fu : Nat} {a1 : Nat} {σ σ' : M2}  (hm : 12 ≤ m) (hrc : ∀ tag t σ σ', rc tag t σ = some ((), σ') → CtR α l m tag t σ σ') (h : F6_readSum rc fu a1 σ = some ((), σ')) : Ct l (ωC α) yX6_readSum cX6_readSum 4 (none) (m + 4) [.ref (wad (ωC α) 40), .ref (wad (ωC α) a1)] σ (none) σ' := by
  unfold F6_readSum at h
  refine Ct.of (own := "EveryoneWins$Reader") (L := [(0, .ref (wad (ωC α) 40)), (1, .ref (wad (ωC α) a1))]) (by decide +kernel) rfl rfl rfl (fun κ hl e C => ?_)
  subst hl
  show J (ωC α) κ (m + 4) 4 0 [(0, .ref (wad (ωC α) 40)), (1, .ref (wad (ωC α) a1))] [] σ
  refine j_aload_n C 0 dX6_readSum_0 rfl ?_
  refine j_aload_n C 1 dX6_readSum_1 rfl ?_
  obtain ⟨r1, s2, hc3, h⟩ := bnd_some h
  refine k_V (v := none) C vb_X6_readTerm (ci := 5) (T := TX6) (N := 5) rfl (by decide) (c6_readTerm _ hm hrc hc3) rfl (by omega) wd_539 (rfl) rfl dX6_readSum_2 ?_
  show J (ωC α) κ _ _ 5 _ [] s2
  refine j_iconst (v := 0) C dX6_readSum_5 (by decide) ?_
  refine j_istore_n (L' := [(2, .int (0 : Int32)), (0, .ref (wad (ωC α) 40)), (1, .ref (wad (ωC α) a1))]) C dX6_readSum_6 rfl rfl rfl ?_
  exact j_sub [1, 2, 0] rfl (b6_readSum_7 C e hm hrc h)
set_option maxRecDepth 10000 in
theorem b6_readComparison_39 {α : WA} {κ : KT} {rc : Nat → Nat → M2 → Option (Unit × M2)} {m : Nat} {fu : Nat} {σ' : M2} {x1 : Nat} {y0 : Int32} (C : Cx (ωC α) κ cX6_readComparison 3 "EveryoneWins$Reader" (none)) (e : κ.2.2.2.2.2.2.2.2.2 = (none, σ')) (hm : 12 ≤ m) (hrc : ∀ tag t σ σ', rc tag t σ = some ((), σ') → CtR α κ.2.1 m tag t σ σ')  {σ : M2} (h : F6_readComparison_39 rc fu x1 y0 σ = some ((), σ')) : J (ωC α) κ (m + 5) 3 39 [(0, .ref (wad (ωC α) 40)), (1, .ref (wad (ωC α) x1))] [.int y0] σ := by
  unfold F6_readComparison_39 at h
  refine j_istore_n (L' := [(2, .int y0), (0, .ref (wad (ωC α) 40)), (1, .ref (wad (ωC α) x1))]) C dX6_readComparison_39 rfl rfl rfl ?_
  refine j_aload_n C 1 dX6_readComparison_40 rfl ?_
  obtain ⟨r1, s2, hc3, h⟩ := bnd_some h
  refine k_V (v := none) C vb_X6_step (ci := 5) (T := TX6) (N := 5) rfl (by decide) (c6_step _ hc3) rfl (by omega) wd_507 (rfl) rfl dX6_readComparison_41 ?_
  show J (ωC α) κ _ _ 44 _ [] s2
  refine j_aload_n C 1 dX6_readComparison_44 rfl ?_
  refine j_aload_n C 2 dX6_readComparison_45 rfl ?_
  obtain ⟨r4, s5, hc6, h⟩ := bnd_some h
  refine k_V (v := none) C vb_X6_readSum (ci := 5) (T := TX6) (N := 5) rfl (by decide) (c6_readSum _ hm hrc hc6) rfl (by omega) wd_535 (rfl) rfl dX6_readComparison_46 ?_
  show J (ωC α) κ _ _ 49 _ [] s5
  refine j_aload_n C 2 dX6_readComparison_49 rfl ?_
  refine j_iload_n C 0 dX6_readComparison_50 rfl ?_
  obtain ⟨g7, h⟩ := gd_some h
  obtain ⟨r8, s9, hc10, h⟩ := bnd_some h
  refine k_V (v := none) C vb_X9_add (ci := 8) (T := TX9) (N := 5) rfl (by decide) (c9_add _ hc10) rfl (by omega) wd_547 (isO_sh g7) rfl dX6_readComparison_51 ?_
  show J (ωC α) κ _ _ 54 _ [] s9
  obtain ⟨-, hs⟩ := s2_inj h
  subst hs
  exact j_vret C e dX6_readComparison_54
set_option maxRecDepth 10000 in
theorem b6_readComparison_23 {α : WA} {κ : KT} {rc : Nat → Nat → M2 → Option (Unit × M2)} {m : Nat} {fu : Nat} {σ' : M2} {x1 : Nat} (C : Cx (ωC α) κ cX6_readComparison 3 "EveryoneWins$Reader" (none)) (e : κ.2.2.2.2.2.2.2.2.2 = (none, σ')) (hm : 12 ≤ m) (hrc : ∀ tag t σ σ', rc tag t σ = some ((), σ') → CtR α κ.2.1 m tag t σ σ')  {σ : M2} (h : F6_readComparison_23 rc fu x1 σ = some ((), σ')) : J (ωC α) κ (m + 5) 3 23 [(0, .ref (wad (ωC α) 40)), (1, .ref (wad (ωC α) x1))] [] σ := by
  unfold F6_readComparison_23 at h
  refine j_aload_n C 0 dX6_readComparison_23 rfl ?_
  refine j_geti (o := 40) (j := 2) C inT6 (ci := 5) rfl (by decide) (rfl) rfl rfl wd_234 dX6_readComparison_24 ?_
  refine j_bipush (v := 60) C dX6_readComparison_27 (by decide) ?_
  refine j_icmp_ne (tgt := 37) C dX6_readComparison_29 (by decide) (fun c1 => ?_) (fun c1 => ?_)
  · replace h := ie c1 h
    refine j_bipush (v := -13) C dX6_readComparison_37 (by decide) ?_
    exact (b6_readComparison_39 C e hm hrc h)
  · replace h := it c1 h
    refine j_bipush (v := -12) C dX6_readComparison_32 (by decide) ?_
    refine j_goto (tgt := 39) C dX6_readComparison_34 (by decide) ?_
    exact (b6_readComparison_39 C e hm hrc h)
set_option maxRecDepth 10000 in
theorem c6_readComparison (l : Launch) {α : WA} {rc : Nat → Nat → M2 → Option (Unit × M2)} {m : Nat} {fu : Nat} {a1 : Nat} {σ σ' : M2}  (hm : 12 ≤ m) (hrc : ∀ tag t σ σ', rc tag t σ = some ((), σ') → CtR α l m tag t σ σ') (h : F6_readComparison rc fu a1 σ = some ((), σ')) : Ct l (ωC α) yX6_readComparison cX6_readComparison 3 (none) (m + 5) [.ref (wad (ωC α) 40), .ref (wad (ωC α) a1)] σ (none) σ' := by
  unfold F6_readComparison at h
  refine Ct.of (own := "EveryoneWins$Reader") (L := [(0, .ref (wad (ωC α) 40)), (1, .ref (wad (ωC α) a1))]) (by decide +kernel) rfl rfl rfl (fun κ hl e C => ?_)
  subst hl
  show J (ωC α) κ (m + 5) 3 0 [(0, .ref (wad (ωC α) 40)), (1, .ref (wad (ωC α) a1))] [] σ
  refine j_aload_n C 0 dX6_readComparison_0 rfl ?_
  refine j_aload_n C 1 dX6_readComparison_1 rfl ?_
  obtain ⟨r1, s2, hc3, h⟩ := bnd_some h
  refine k_V (v := none) C vb_X6_readSum (ci := 5) (T := TX6) (N := 5) rfl (by decide) (c6_readSum _ hm hrc hc3) rfl (by omega) wd_535 (rfl) rfl dX6_readComparison_2 ?_
  show J (ωC α) κ _ _ 5 _ [] s2
  refine j_aload_n C 0 dX6_readComparison_5 rfl ?_
  refine j_geti (o := 40) (j := 2) C inT6 (ci := 5) rfl (by decide) (rfl) rfl rfl wd_234 dX6_readComparison_6 ?_
  refine j_bipush (v := 60) C dX6_readComparison_9 (by decide) ?_
  refine j_icmp_eq (tgt := 23) C dX6_readComparison_11 (by decide) (fun c4 => ?_) (fun c4 => ?_)
  · replace h := it c4 h
    exact (b6_readComparison_23 C e hm hrc h)
  · replace h := ie c4 h
    refine j_aload_n C 0 dX6_readComparison_14 rfl ?_
    refine j_geti (o := 40) (j := 2) C inT6 (ci := 5) rfl (by decide) (rfl) rfl rfl wd_234 dX6_readComparison_15 ?_
    refine j_bipush (v := 61) C dX6_readComparison_18 (by decide) ?_
    refine j_icmp_ne (tgt := 54) C dX6_readComparison_20 (by decide) (fun c5 => ?_) (fun c5 => ?_)
    · replace h := ie c5 h
      obtain ⟨-, hs⟩ := s2_inj h
      subst hs
      exact j_vret C e dX6_readComparison_54
    · replace h := it c5 h
      exact (b6_readComparison_23 C e hm hrc h)
set_option maxRecDepth 10000 in
theorem c6_readNot (l : Launch) {α : WA} {rc : Nat → Nat → M2 → Option (Unit × M2)} {m : Nat} {fu : Nat} {a1 : Nat} {σ σ' : M2}  (hm : 12 ≤ m) (hrc : ∀ tag t σ σ', rc tag t σ = some ((), σ') → CtR α l m tag t σ σ') (h : F6_readNot rc fu a1 σ = some ((), σ')) : Ct l (ωC α) yX6_readNot cX6_readNot 2 (none) (m + 6) [.ref (wad (ωC α) 40), .ref (wad (ωC α) a1)] σ (none) σ' := by
  unfold F6_readNot at h
  refine Ct.of (own := "EveryoneWins$Reader") (L := [(0, .ref (wad (ωC α) 40)), (1, .ref (wad (ωC α) a1))]) (by decide +kernel) rfl rfl rfl (fun κ hl e C => ?_)
  subst hl
  show J (ωC α) κ (m + 6) 2 0 [(0, .ref (wad (ωC α) 40)), (1, .ref (wad (ωC α) a1))] [] σ
  refine j_aload_n C 0 dX6_readNot_0 rfl ?_
  refine j_geti (o := 40) (j := 2) C inT6 (ci := 5) rfl (by decide) (rfl) rfl rfl wd_234 dX6_readNot_1 ?_
  refine j_bipush (v := 7) C dX6_readNot_4 (by decide) ?_
  refine j_icmp_eq (tgt := 17) C dX6_readNot_6 (by decide) (fun c1 => ?_) (fun c1 => ?_)
  · replace h := it c1 h
    refine j_aload_n C 0 dX6_readNot_17 rfl ?_
    obtain ⟨r2, s3, hc4, h⟩ := bnd_some h
    refine k_V (v := some (.int r2)) C vb_X6_opens (ci := 5) (T := TX6) (N := 5) rfl (by decide) (c6_opens _ hc4) rfl (by omega) wd_560 (rfl) rfl dX6_readNot_18 ?_
    show J (ωC α) κ _ _ 21 _ [.int r2] s3
    refine j_if_eq (tgt := 49) C dX6_readNot_21 (by decide) (fun c5 => ?_) (fun c5 => ?_)
    · replace h := it c5 h
      obtain ⟨-, hs⟩ := s2_inj h
      subst hs
      exact j_vret C e dX6_readNot_49
    · replace h := ie c5 h
      refine j_aload_n C 0 dX6_readNot_24 rfl ?_
      obtain ⟨r6, s7, hc8, h⟩ := bnd_some h
      refine k_V (v := none) C vb_X6_step (ci := 5) (T := TX6) (N := 5) rfl (by decide) (c6_step _ hc8) rfl (by omega) wd_507 (rfl) rfl dX6_readNot_25 ?_
      show J (ωC α) κ _ _ 28 _ [] s7
      refine j_aload_n C 0 dX6_readNot_28 rfl ?_
      refine j_aload_n C 1 dX6_readNot_29 rfl ?_
      obtain ⟨r9, s10, hc11, h⟩ := bnd_some h
      refine k_V (v := none) C vb_X6_readNot (ci := 5) (T := TX6) (N := 5) rfl (by decide) ((hrc 1 _ _ _ hc11).2.1 rfl) rfl (by omega) wd_527 (rfl) rfl dX6_readNot_30 ?_
      show J (ωC α) κ _ _ 33 _ [] s10
      refine j_aload_n C 0 dX6_readNot_33 rfl ?_
      refine j_dup C dX6_readNot_34 rfl ?_
      refine j_geti (o := 40) (j := 3) C inT6 (ci := 5) rfl (by decide) (rfl) rfl rfl wd_235 dX6_readNot_35 ?_
      refine j_iconst (v := 1) C dX6_readNot_38 (by decide) ?_
      refine j_isub C dX6_readNot_39 ?_
      refine j_puti (o := 40) (j := 3) C inT6 tyX6_ok nmX6 (ci := 5) rfl (by decide) (rfl) rfl rfl rfl (tyX6_ok 3 (by decide)) rfl rfl wd_235 dX6_readNot_40 ?_
      refine j_aload_n C 1 dX6_readNot_43 rfl ?_
      refine j_bipush (v := -8) C dX6_readNot_44 (by decide) ?_
      obtain ⟨g12, h⟩ := gd_some h
      obtain ⟨r13, s14, hc15, h⟩ := bnd_some h
      refine k_V (v := none) C vb_X9_add (ci := 8) (T := TX9) (N := 5) rfl (by decide) (c9_add _ hc15) rfl (by omega) wd_547 (isO_sh g12) rfl dX6_readNot_46 ?_
      show J (ωC α) κ _ _ 49 _ [] s14
      obtain ⟨-, hs⟩ := s2_inj h
      subst hs
      exact j_vret C e dX6_readNot_49
  · replace h := ie c1 h
    refine j_aload_n C 0 dX6_readNot_9 rfl ?_
    refine j_aload_n C 1 dX6_readNot_10 rfl ?_
    obtain ⟨r16, s17, hc18, h⟩ := bnd_some h
    refine k_V (v := none) C vb_X6_readComparison (ci := 5) (T := TX6) (N := 5) rfl (by decide) (c6_readComparison _ hm hrc hc18) rfl (by omega) wd_531 (rfl) rfl dX6_readNot_11 ?_
    show J (ωC α) κ _ _ 14 _ [] s17
    refine j_goto (tgt := 49) C dX6_readNot_14 (by decide) ?_
    obtain ⟨-, hs⟩ := s2_inj h
    subst hs
    exact j_vret C e dX6_readNot_49
