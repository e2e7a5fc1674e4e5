set_option maxRecDepth 10000 in
theorem b12_wordFrom_72 {α : WA} {κ : KT} {fu : Nat} {v : Int32} {σ' : M2} {x1 : Int32} {x2 : Int32} {x3 : Int32} {x5 : Int32} {y0 : Int32} {y1 : Int32} (C : Cx (ωM α) κ cX12_wordFrom 6 "EveryoneWinsModel" (some FieldType.int)) (e : κ.2.2.2.2.2.2.2.2.2 = (some (.int v), σ')) {k2 : Int32 → M2 → Option (Int32 × M2)} (hk2 : ∀ (x3' : Int32) (σ : M2), k2 x3' σ = some (v, σ') → J (ωM α) κ 1 6 2 [(0, .ref (wad (ωM α) 0)), (1, .int x1), (2, .int x2), (3, .int x3')] [] σ) {k26 : Int32 → Int32 → M2 → Option (Int32 × M2)} (hk26 : ∀ (x4' : Int32) (x5' : Int32) (σ : M2), k26 x4' x5' σ = some (v, σ') → J (ωM α) κ 1 6 26 [(0, .ref (wad (ωM α) 0)), (1, .int x1), (2, .int x2), (3, .int x3), (4, .int x4'), (5, .int x5')] [] σ) {σ : M2} (h : F12_wordFrom_72 fu k2 k26 x1 x2 x3 x5 y0 y1 σ = some (v, σ')) : J (ωM α) κ 1 6 72 [(0, .ref (wad (ωM α) 0)), (1, .int x1), (2, .int x2), (3, .int x3), (5, .int x5)] [.int y0, .int y1] σ := by
  unfold F12_wordFrom_72 at h
  refine j_icmp_ne (tgt := 79) C dX12_wordFrom_72 (by decide) (fun c1 => ?_) (fun c1 => ?_)
  · replace h := ie c1 h
    refine j_iconst (v := 0) C dX12_wordFrom_79 (by decide) ?_
    exact (b12_wordFrom_80 C e hk2 hk26 h)
  · replace h := it c1 h
    refine j_iconst (v := 1) C dX12_wordFrom_75 (by decide) ?_
    refine j_goto (tgt := 80) C dX12_wordFrom_76 (by decide) ?_
    exact (b12_wordFrom_80 C e hk2 hk26 h)
set_option maxRecDepth 10000 in
theorem b12_wordFrom_26 {α : WA} {κ : KT} {fu : Nat} {v : Int32} {σ' : M2} {x1 : Int32} {x2 : Int32} {x3 : Int32} {x4 : Int32} {x5 : Int32} (C : Cx (ωM α) κ cX12_wordFrom 6 "EveryoneWinsModel" (some FieldType.int)) (e : κ.2.2.2.2.2.2.2.2.2 = (some (.int v), σ')) {k2 : Int32 → M2 → Option (Int32 × M2)} (hk2 : ∀ (x3' : Int32) (σ : M2), k2 x3' σ = some (v, σ') → J (ωM α) κ 1 6 2 [(0, .ref (wad (ωM α) 0)), (1, .int x1), (2, .int x2), (3, .int x3')] [] σ) {σ : M2} (h : F12_wordFrom_26 fu k2 x1 x2 x3 x4 x5 σ = some (v, σ')) : J (ωM α) κ 1 6 26 [(0, .ref (wad (ωM α) 0)), (1, .int x1), (2, .int x2), (3, .int x3), (4, .int x4), (5, .int x5)] [] σ := by
  unfold F12_wordFrom_26 at h
  refine wl2_ind (fun x4 x5 σ => J (ωM α) κ 1 6 26 [(0, .ref (wad (ωM α) 0)), (1, .int x1), (2, .int x2), (3, .int x3), (4, .int x4), (5, .int x5)] [] σ) ?_ fu x4 x5 σ h
  intro k26 hk26 x4 x5 σ h
  try dsimp only at h
  show J (ωM α) κ 1 6 26 [(0, .ref (wad (ωM α) 0)), (1, .int x1), (2, .int x2), (3, .int x3), (4, .int x4), (5, .int x5)] [] σ
  refine j_iload C 5 dX12_wordFrom_26 rfl ?_
  refine j_bipush (v := 8) C dX12_wordFrom_28 (by decide) ?_
  refine j_icmp_ge (tgt := 88) C dX12_wordFrom_30 (by decide) (fun c1 => ?_) (fun c1 => ?_)
  · replace h := it c1 h
    exact j_sub [0, 1, 2, 3, 4] rfl (b12_wordFrom_88 C e hk2 h)
  · replace h := ie c1 h
    refine j_iload C 4 dX12_wordFrom_33 rfl ?_
    refine j_if_eq (tgt := 88) C dX12_wordFrom_35 (by decide) (fun c2 => ?_) (fun c2 => ?_)
    · replace h := it c2 h
      exact j_sub [0, 1, 2, 3, 4] rfl (b12_wordFrom_88 C e hk2 h)
    · replace h := ie c2 h
      refine j_aload_n C 0 dX12_wordFrom_38 rfl ?_
      refine j_getr (o := 0) (j := 23) C inT12 (ci := 11) rfl (by decide) (rfl) rfl rfl wd_1122 dX12_wordFrom_39 (o' := 14) rfl ?_
      refine j_bipush (v := 8) C dX12_wordFrom_42 (by decide) ?_
      refine j_iload_n C 3 dX12_wordFrom_44 rfl ?_
      refine j_imul C dX12_wordFrom_45 ?_
      refine j_iload C 5 dX12_wordFrom_46 rfl ?_
      refine j_iadd C dX12_wordFrom_48 ?_
      obtain ⟨g3, h⟩ := gd_some h
      refine j_iaload (N := 96) C (rfl) (inb_in g3) dX12_wordFrom_49 ?_
      refine j_iload_n C 1 dX12_wordFrom_50 rfl ?_
      refine j_iload C 5 dX12_wordFrom_51 rfl ?_
      refine j_iadd C dX12_wordFrom_53 ?_
      refine j_iload_n C 2 dX12_wordFrom_54 rfl ?_
      refine j_icmp_ge (tgt := 70) C dX12_wordFrom_55 (by decide) (fun c4 => ?_) (fun c4 => ?_)
      · replace h := it c4 h
        refine j_bipush (v := 32) C dX12_wordFrom_70 (by decide) ?_
        exact j_sub [0, 1, 2, 3, 5] rfl (b12_wordFrom_72 C e hk2 hk26 h)
      · replace h := ie c4 h
        refine j_aload_n C 0 dX12_wordFrom_58 rfl ?_
        refine j_getr (o := 0) (j := 6) C inT12 (ci := 11) rfl (by decide) (rfl) rfl rfl wd_1105 dX12_wordFrom_59 (o' := 5) rfl ?_
        refine j_iload_n C 1 dX12_wordFrom_62 rfl ?_
        refine j_iload C 5 dX12_wordFrom_63 rfl ?_
        refine j_iadd C dX12_wordFrom_65 ?_
        obtain ⟨g5, h⟩ := gd_some h
        refine j_iaload (N := 160) C (rfl) (inb_in g5) dX12_wordFrom_66 ?_
        refine j_goto (tgt := 72) C dX12_wordFrom_67 (by decide) ?_
        exact j_sub [0, 1, 2, 3, 5] rfl (b12_wordFrom_72 C e hk2 hk26 h)
set_option maxRecDepth 10000 in
theorem b12_wordFrom_21 {α : WA} {κ : KT} {fu : Nat} {v : Int32} {σ' : M2} {x1 : Int32} {x2 : Int32} {x3 : Int32} {y0 : Int32} (C : Cx (ωM α) κ cX12_wordFrom 6 "EveryoneWinsModel" (some FieldType.int)) (e : κ.2.2.2.2.2.2.2.2.2 = (some (.int v), σ')) {k2 : Int32 → M2 → Option (Int32 × M2)} (hk2 : ∀ (x3' : Int32) (σ : M2), k2 x3' σ = some (v, σ') → J (ωM α) κ 1 6 2 [(0, .ref (wad (ωM α) 0)), (1, .int x1), (2, .int x2), (3, .int x3')] [] σ) {σ : M2} (h : F12_wordFrom_21 fu k2 x1 x2 x3 y0 σ = some (v, σ')) : J (ωM α) κ 1 6 21 [(0, .ref (wad (ωM α) 0)), (1, .int x1), (2, .int x2), (3, .int x3)] [.int y0] σ := by
  unfold F12_wordFrom_21 at h
  refine j_istore (L' := [(4, .int y0), (0, .ref (wad (ωM α) 0)), (1, .int x1), (2, .int x2), (3, .int x3)]) C dX12_wordFrom_21 rfl rfl ?_
  refine j_iconst (v := 0) C dX12_wordFrom_23 (by decide) ?_
  refine j_istore (L' := [(5, .int (0 : Int32)), (4, .int y0), (0, .ref (wad (ωM α) 0)), (1, .int x1), (2, .int x2), (3, .int x3)]) C dX12_wordFrom_24 rfl rfl ?_
  exact j_sub [2, 3, 4, 5, 1, 0] rfl (b12_wordFrom_26 C e hk2 h)
set_option maxRecDepth 10000 in
theorem b12_wordFrom_2 {α : WA} {κ : KT} {fu : Nat} {v : Int32} {σ' : M2} {x1 : Int32} {x2 : Int32} {x3 : Int32} (C : Cx (ωM α) κ cX12_wordFrom 6 "EveryoneWinsModel" (some FieldType.int)) (e : κ.2.2.2.2.2.2.2.2.2 = (some (.int v), σ'))  {σ : M2} (h : F12_wordFrom_2 fu x1 x2 x3 σ = some (v, σ')) : J (ωM α) κ 1 6 2 [(0, .ref (wad (ωM α) 0)), (1, .int x1), (2, .int x2), (3, .int x3)] [] σ := by
  unfold F12_wordFrom_2 at h
  refine wl1_ind (fun x3 σ => J (ωM α) κ 1 6 2 [(0, .ref (wad (ωM α) 0)), (1, .int x1), (2, .int x2), (3, .int x3)] [] σ) ?_ fu x3 σ h
  intro k2 hk2 x3 σ h
  try dsimp only at h
  show J (ωM α) κ 1 6 2 [(0, .ref (wad (ωM α) 0)), (1, .int x1), (2, .int x2), (3, .int x3)] [] σ
  refine j_iload_n C 3 dX12_wordFrom_2 rfl ?_
  refine j_bipush (v := 12) C dX12_wordFrom_3 (by decide) ?_
  refine j_icmp_ge (tgt := 101) C dX12_wordFrom_5 (by decide) (fun c1 => ?_) (fun c1 => ?_)
  · replace h := it c1 h
    refine j_bipush (v := 12) C dX12_wordFrom_101 (by decide) ?_
    obtain ⟨hv, hs⟩ := s2_inj h
    subst hv
    subst hs
    exact j_iret C e dX12_wordFrom_103
  · replace h := ie c1 h
    refine j_iload_n C 2 dX12_wordFrom_8 rfl ?_
    refine j_iload_n C 1 dX12_wordFrom_9 rfl ?_
    refine j_isub C dX12_wordFrom_10 ?_
    refine j_bipush (v := 8) C dX12_wordFrom_11 (by decide) ?_
    refine j_icmp_gt (tgt := 20) C dX12_wordFrom_13 (by decide) (fun c2 => ?_) (fun c2 => ?_)
    · replace h := it c2 h
      refine j_iconst (v := 0) C dX12_wordFrom_20 (by decide) ?_
      exact (b12_wordFrom_21 C e hk2 h)
    · replace h := ie c2 h
      refine j_iconst (v := 1) C dX12_wordFrom_16 (by decide) ?_
      refine j_goto (tgt := 21) C dX12_wordFrom_17 (by decide) ?_
      exact (b12_wordFrom_21 C e hk2 h)
set_option maxRecDepth 10000 in
theorem c12_wordFrom (l : Launch) {α : WA} {fu : Nat} {a1 : Int32} {a2 : Int32} {σ σ' : M2} {v : Int32}  (h : F12_wordFrom fu a1 a2 σ = some (v, σ')) : Ct l (ωM α) yX12_wordFrom cX12_wordFrom 6 (some FieldType.int) 1 [.ref (wad (ωM α) 0), .int a1, .int a2] σ (some (.int v)) σ' := by
  unfold F12_wordFrom at h
  refine Ct.of (own := "EveryoneWinsModel") (L := [(0, .ref (wad (ωM α) 0)), (1, .int a1), (2, .int a2)]) (by decide +kernel) rfl rfl rfl (fun κ hl e C => ?_)
  show J (ωM α) κ 1 6 0 [(0, .ref (wad (ωM α) 0)), (1, .int a1), (2, .int a2)] [] σ
  refine j_iconst (v := 0) C dX12_wordFrom_0 (by decide) ?_
  refine j_istore_n (L' := [(3, .int (0 : Int32)), (0, .ref (wad (ωM α) 0)), (1, .int a1), (2, .int a2)]) C dX12_wordFrom_1 rfl rfl rfl ?_
  exact j_sub [1, 2, 3, 0] rfl (b12_wordFrom_2 C e h)
set_option maxRecDepth 10000 in
theorem b12_next_390 {α : WA} {κ : KT} {fu : Nat} {σ' : M2} {y0 : Int32} (C : Cx (ωM α) κ cX12_next 3 "EveryoneWinsModel" (none)) (e : κ.2.2.2.2.2.2.2.2.2 = (none, σ'))  {σ : M2} (h : F12_next_390 fu y0 σ = some ((), σ')) : J (ωM α) κ 2 3 390 [(0, .ref (wad (ωM α) 0))] [.int y0, .ref (wad (ωM α) 0)] σ := by
  unfold F12_next_390 at h
  refine j_puti (o := 0) (j := 21) C inT12 tyX12_ok nmX12 (ci := 11) rfl (by decide) (rfl) rfl rfl rfl (tyX12_ok 21 (by decide)) rfl rfl wd_1120 dX12_next_390 ?_
  refine j_aload_n C 0 dX12_next_393 rfl ?_
  refine j_dup C dX12_next_394 rfl ?_
  refine j_geti (o := 0) (j := 19) C inT12 (ci := 11) rfl (by decide) (rfl) rfl rfl wd_1118 dX12_next_395 ?_
  refine j_iconst (v := 1) C dX12_next_398 (by decide) ?_
  refine j_iadd C dX12_next_399 ?_
  refine j_puti (o := 0) (j := 19) C inT12 tyX12_ok nmX12 (ci := 11) rfl (by decide) (rfl) rfl rfl rfl (tyX12_ok 19 (by decide)) rfl rfl wd_1118 dX12_next_400 ?_
  obtain ⟨-, hs⟩ := s2_inj h
  subst hs
  exact j_vret C e dX12_next_403
set_option maxRecDepth 10000 in
theorem b12_next_379 {α : WA} {κ : KT} {fu : Nat} {σ' : M2} {x1 : Int32} {y0 : Int32} (C : Cx (ωM α) κ cX12_next 3 "EveryoneWinsModel" (none)) (e : κ.2.2.2.2.2.2.2.2.2 = (none, σ'))  {σ : M2} (h : F12_next_379 fu x1 y0 σ = some ((), σ')) : J (ωM α) κ 2 3 379 [(0, .ref (wad (ωM α) 0)), (1, .int x1)] [.int y0] σ := by
  unfold F12_next_379 at h
  refine j_istore_n (L' := [(2, .int y0), (0, .ref (wad (ωM α) 0)), (1, .int x1)]) C dX12_next_379 rfl rfl rfl ?_
  refine j_aload_n C 1 dX12_next_380 rfl ?_
  refine j_iload_n C 0 dX12_next_381 rfl ?_
  refine j_if_eq (tgt := 389) C dX12_next_382 (by decide) (fun c1 => ?_) (fun c1 => ?_)
  · replace h := it c1 h
    refine j_iconst (v := -1) C dX12_next_389 (by decide) ?_
    exact j_sub [1] rfl (b12_next_390 C e h)
  · replace h := ie c1 h
    refine j_iload_n C 2 dX12_next_385 rfl ?_
    refine j_goto (tgt := 390) C dX12_next_386 (by decide) ?_
    exact j_sub [1] rfl (b12_next_390 C e h)
set_option maxRecDepth 10000 in
theorem b12_next_374 {α : WA} {κ : KT} {fu : Nat} {σ' : M2} {x1 : Int32} (C : Cx (ωM α) κ cX12_next 3 "EveryoneWinsModel" (none)) (e : κ.2.2.2.2.2.2.2.2.2 = (none, σ'))  {σ : M2} (h : F12_next_374 fu x1 σ = some ((), σ')) : J (ωM α) κ 2 3 374 [(0, .ref (wad (ωM α) 0)), (1, .int x1)] [] σ := by
  unfold F12_next_374 at h
  refine j_iconst (v := 1) C dX12_next_374 (by decide) ?_
  refine j_goto (tgt := 379) C dX12_next_375 (by decide) ?_
  exact (b12_next_379 C e h)
set_option maxRecDepth 10000 in
theorem b12_next_320 {α : WA} {κ : KT} {fu : Nat} {σ' : M2} {y0 : Int32} (C : Cx (ωM α) κ cX12_next 3 "EveryoneWinsModel" (none)) (e : κ.2.2.2.2.2.2.2.2.2 = (none, σ'))  {σ : M2} (h : F12_next_320 fu y0 σ = some ((), σ')) : J (ωM α) κ 2 3 320 [] [.int y0, .ref (wad (ωM α) 0)] σ := by
  unfold F12_next_320 at h
  refine j_puti (o := 0) (j := 21) C inT12 tyX12_ok nmX12 (ci := 11) rfl (by decide) (rfl) rfl rfl rfl (tyX12_ok 21 (by decide)) rfl rfl wd_1120 dX12_next_320 ?_
  refine j_goto (tgt := 403) C dX12_next_323 (by decide) ?_
  obtain ⟨-, hs⟩ := s2_inj h
  subst hs
  exact j_vret C e dX12_next_403
set_option maxRecDepth 10000 in
theorem b12_next_309 {α : WA} {κ : KT} {fu : Nat} {σ' : M2} {x2 : Int32} (C : Cx (ωM α) κ cX12_next 3 "EveryoneWinsModel" (none)) (e : κ.2.2.2.2.2.2.2.2.2 = (none, σ'))  {σ : M2} (h : F12_next_309 fu x2 σ = some ((), σ')) : J (ωM α) κ 2 3 309 [(0, .ref (wad (ωM α) 0)), (2, .int x2)] [] σ := by
  unfold F12_next_309 at h
  refine j_aload_n C 0 dX12_next_309 rfl ?_
  refine j_iload_n C 1 dX12_next_310 rfl ?_
  refine j_iconst (v := 4) C dX12_next_311 (by decide) ?_
  refine j_icmp_le (tgt := 319) C dX12_next_312 (by decide) (fun c1 => ?_) (fun c1 => ?_)
  · replace h := it c1 h
    refine j_iconst (v := 1) C dX12_next_319 (by decide) ?_
    exact j_sub [] rfl (b12_next_320 C e h)
  · replace h := ie c1 h
    refine j_iconst (v := -1) C dX12_next_315 (by decide) ?_
    refine j_goto (tgt := 320) C dX12_next_316 (by decide) ?_
    exact j_sub [] rfl (b12_next_320 C e h)
set_option maxRecDepth 10000 in
theorem b12_next_290 {α : WA} {κ : KT} {fu : Nat} {σ' : M2} {x2 : Int32} {y0 : Int32} (C : Cx (ωM α) κ cX12_next 3 "EveryoneWinsModel" (none)) (e : κ.2.2.2.2.2.2.2.2.2 = (none, σ')) {k230 : Int32 → M2 → Option (Unit × M2)} (hk230 : ∀ (x2' : Int32) (σ : M2), k230 x2' σ = some ((), σ') → J (ωM α) κ 2 3 230 [(0, .ref (wad (ωM α) 0)), (2, .int x2')] [] σ) {σ : M2} (h : F12_next_290 fu k230 x2 y0 σ = some ((), σ')) : J (ωM α) κ 2 3 290 [(0, .ref (wad (ωM α) 0)), (2, .int x2)] [.int y0, .ref (wad (ωM α) 0)] σ := by
  unfold F12_next_290 at h
  refine j_puti (o := 0) (j := 22) C inT12 tyX12_ok nmX12 (ci := 11) rfl (by decide) (rfl) rfl rfl rfl (tyX12_ok 22 (by decide)) rfl rfl wd_1121 dX12_next_290 ?_
  refine j_iinc (L' := [(2, .int (x2 + 1)), (0, .ref (wad (ωM α) 0))]) C 1 dX12_next_293 rfl rfl rfl rfl ?_
  refine j_aload_n C 1 dX12_next_296 rfl ?_
  refine j_dup C dX12_next_297 rfl ?_
  refine j_geti (o := 0) (j := 19) C inT12 (ci := 11) rfl (by decide) (rfl) rfl rfl wd_1118 dX12_next_298 ?_
  refine j_iconst (v := 1) C dX12_next_301 (by decide) ?_
  refine j_iadd C dX12_next_302 ?_
  refine j_puti (o := 0) (j := 19) C inT12 tyX12_ok nmX12 (ci := 11) rfl (by decide) (rfl) rfl rfl rfl (tyX12_ok 19 (by decide)) rfl rfl wd_1118 dX12_next_303 ?_
  refine j_goto (tgt := 230) C dX12_next_306 (by decide) ?_
  exact j_sub [1, 0] rfl (hk230 _ _ h)
set_option maxRecDepth 10000 in
theorem b12_next_230 {α : WA} {κ : KT} {fu : Nat} {σ' : M2} {x2 : Int32} (C : Cx (ωM α) κ cX12_next 3 "EveryoneWinsModel" (none)) (e : κ.2.2.2.2.2.2.2.2.2 = (none, σ'))  {σ : M2} (h : F12_next_230 fu x2 σ = some ((), σ')) : J (ωM α) κ 2 3 230 [(0, .ref (wad (ωM α) 0)), (2, .int x2)] [] σ := by
  unfold F12_next_230 at h
  refine wl1_ind (fun x2 σ => J (ωM α) κ 2 3 230 [(0, .ref (wad (ωM α) 0)), (2, .int x2)] [] σ) ?_ fu x2 σ h
  intro k230 hk230 x2 σ h
  try dsimp only at h
  show J (ωM α) κ 2 3 230 [(0, .ref (wad (ωM α) 0)), (2, .int x2)] [] σ
  refine j_aload_n C 0 dX12_next_230 rfl ?_
  refine j_geti (o := 0) (j := 19) C inT12 (ci := 11) rfl (by decide) (rfl) rfl rfl wd_1118 dX12_next_231 ?_
  refine j_aload_n C 0 dX12_next_234 rfl ?_
  refine j_geti (o := 0) (j := 7) C inT12 (ci := 11) rfl (by decide) (rfl) rfl rfl wd_1106 dX12_next_235 ?_
  refine j_icmp_ge (tgt := 309) C dX12_next_238 (by decide) (fun c1 => ?_) (fun c1 => ?_)
  · replace h := it c1 h
    exact (b12_next_309 C e h)
  · replace h := ie c1 h
    refine j_aload_n C 0 dX12_next_241 rfl ?_
    refine j_getr (o := 0) (j := 6) C inT12 (ci := 11) rfl (by decide) (rfl) rfl rfl wd_1105 dX12_next_242 (o' := 5) rfl ?_
    refine j_aload_n C 0 dX12_next_245 rfl ?_
    refine j_geti (o := 0) (j := 19) C inT12 (ci := 11) rfl (by decide) (rfl) rfl rfl wd_1118 dX12_next_246 ?_
    obtain ⟨g2, h⟩ := gd_some h
    refine j_iaload (N := 160) C (rfl) (inb_in g2) dX12_next_249 ?_
    refine j_bipush (v := 48) C dX12_next_250 (by decide) ?_
    refine j_bipush (v := 57) C dX12_next_252 (by decide) ?_
    obtain ⟨r3, s4, hc5, h⟩ := bnd_some h
    refine k_S (v := some (.int r3)) C sb_X12_in (c12_in _ hc5) rfl (by decide) wd_1060 rfl dX12_next_254 ?_
    show J (ωM α) κ _ _ 257 _ [.int r3] s4
    refine j_if_eq (tgt := 309) C dX12_next_257 (by decide) (fun c6 => ?_) (fun c6 => ?_)
    · replace h := it c6 h
      exact (b12_next_309 C e h)
    · replace h := ie c6 h
      refine j_aload_n C 0 dX12_next_260 rfl ?_
      refine j_iload_n C 1 dX12_next_261 rfl ?_
      refine j_iconst (v := 4) C dX12_next_262 (by decide) ?_
      refine j_icmp_ge (tgt := 289) C dX12_next_263 (by decide) (fun c7 => ?_) (fun c7 => ?_)
      · replace h := it c7 h
        refine j_iconst (v := 0) C dX12_next_289 (by decide) ?_
        exact (b12_next_290 C e hk230 h)
      · replace h := ie c7 h
        refine j_bipush (v := 10) C dX12_next_266 (by decide) ?_
        refine j_aload_n C 0 dX12_next_268 rfl ?_
        refine j_geti (o := 0) (j := 22) C inT12 (ci := 11) rfl (by decide) (rfl) rfl rfl wd_1121 dX12_next_269 ?_
        refine j_imul C dX12_next_272 ?_
        refine j_aload_n C 0 dX12_next_273 rfl ?_
        refine j_getr (o := 0) (j := 6) C inT12 (ci := 11) rfl (by decide) (rfl) rfl rfl wd_1105 dX12_next_274 (o' := 5) rfl ?_
        refine j_aload_n C 0 dX12_next_277 rfl ?_
        refine j_geti (o := 0) (j := 19) C inT12 (ci := 11) rfl (by decide) (rfl) rfl rfl wd_1118 dX12_next_278 ?_
        obtain ⟨g8, h⟩ := gd_some h
        refine j_iaload (N := 160) C (rfl) (inb_in g8) dX12_next_281 ?_
        refine j_iadd C dX12_next_282 ?_
        refine j_bipush (v := 48) C dX12_next_283 (by decide) ?_
        refine j_isub C dX12_next_285 ?_
        refine j_goto (tgt := 290) C dX12_next_286 (by decide) ?_
        exact (b12_next_290 C e hk230 h)
set_option maxRecDepth 10000 in
theorem b12_next_211 {α : WA} {κ : KT} {fu : Nat} {σ' : M2} {y0 : Int32} (C : Cx (ωM α) κ cX12_next 3 "EveryoneWinsModel" (none)) (e : κ.2.2.2.2.2.2.2.2.2 = (none, σ'))  {σ : M2} (h : F12_next_211 fu y0 σ = some ((), σ')) : J (ωM α) κ 2 3 211 [] [.int y0, .ref (wad (ωM α) 0)] σ := by
  unfold F12_next_211 at h
  refine j_puti (o := 0) (j := 22) C inT12 tyX12_ok nmX12 (ci := 11) rfl (by decide) (rfl) rfl rfl rfl (tyX12_ok 22 (by decide)) rfl rfl wd_1121 dX12_next_211 ?_
  refine j_goto (tgt := 403) C dX12_next_214 (by decide) ?_
  obtain ⟨-, hs⟩ := s2_inj h
  subst hs
  exact j_vret C e dX12_next_403
set_option maxRecDepth 10000 in
theorem b12_next_195 {α : WA} {κ : KT} {fu : Nat} {σ' : M2} {x2 : Int32} {y0 : Int32} (C : Cx (ωM α) κ cX12_next 3 "EveryoneWinsModel" (none)) (e : κ.2.2.2.2.2.2.2.2.2 = (none, σ'))  {σ : M2} (h : F12_next_195 fu x2 y0 σ = some ((), σ')) : J (ωM α) κ 2 3 195 [(0, .ref (wad (ωM α) 0)), (2, .int x2)] [.int y0, .ref (wad (ωM α) 0)] σ := by
  unfold F12_next_195 at h
  refine j_puti (o := 0) (j := 21) C inT12 tyX12_ok nmX12 (ci := 11) rfl (by decide) (rfl) rfl rfl rfl (tyX12_ok 21 (by decide)) rfl rfl wd_1120 dX12_next_195 ?_
  refine j_aload_n C 0 dX12_next_198 rfl ?_
  refine j_iload_n C 1 dX12_next_199 rfl ?_
  refine j_iconst (v := 3) C dX12_next_200 (by decide) ?_
  refine j_icmp_ge (tgt := 208) C dX12_next_201 (by decide) (fun c1 => ?_) (fun c1 => ?_)
  · replace h := it c1 h
    refine j_iload_n C 1 dX12_next_208 rfl ?_
    refine j_iconst (v := 3) C dX12_next_209 (by decide) ?_
    refine j_isub C dX12_next_210 ?_
    exact j_sub [] rfl (b12_next_211 C e h)
  · replace h := ie c1 h
    refine j_iload_n C 1 dX12_next_204 rfl ?_
    refine j_goto (tgt := 211) C dX12_next_205 (by decide) ?_
    exact j_sub [] rfl (b12_next_211 C e h)
set_option maxRecDepth 10000 in
theorem b12_next_146 {α : WA} {κ : KT} {fu : Nat} {σ' : M2}  (C : Cx (ωM α) κ cX12_next 3 "EveryoneWinsModel" (none)) (e : κ.2.2.2.2.2.2.2.2.2 = (none, σ'))  {σ : M2} (h : F12_next_146 fu σ = some ((), σ')) : J (ωM α) κ 2 3 146 [(0, .ref (wad (ωM α) 0))] [] σ := by
  unfold F12_next_146 at h
  refine j_aload_n C 0 dX12_next_146 rfl ?_
  refine j_aload_n C 0 dX12_next_147 rfl ?_
  refine j_geti (o := 0) (j := 20) C inT12 (ci := 11) rfl (by decide) (rfl) rfl rfl wd_1119 dX12_next_148 ?_
  refine j_aload_n C 0 dX12_next_151 rfl ?_
  refine j_geti (o := 0) (j := 19) C inT12 (ci := 11) rfl (by decide) (rfl) rfl rfl wd_1118 dX12_next_152 ?_
  obtain ⟨r1, s2, hc3, h⟩ := bnd_some h
  refine k_V (v := some (.int r1)) C vb_X12_wordFrom (ci := 11) (T := TX12) (N := 45) rfl (by decide) (c12_wordFrom _ hc3) rfl (by decide) wd_1063 (rfl) rfl dX12_next_155 ?_
  show J (ωM α) κ _ _ 158 _ [.int r1] s2
  refine j_istore_n (L' := [(2, .int r1), (0, .ref (wad (ωM α) 0))]) C dX12_next_158 rfl rfl rfl ?_
  refine j_aload_n C 1 dX12_next_159 rfl ?_
  refine j_iload_n C 0 dX12_next_160 rfl ?_
  refine j_iconst (v := 3) C dX12_next_161 (by decide) ?_
  refine j_icmp_ge (tgt := 169) C dX12_next_162 (by decide) (fun c4 => ?_) (fun c4 => ?_)
  · replace h := it c4 h
    refine j_iload_n C 0 dX12_next_169 rfl ?_
    refine j_bipush (v := 9) C dX12_next_170 (by decide) ?_
    refine j_icmp_ge (tgt := 179) C dX12_next_172 (by decide) (fun c5 => ?_) (fun c5 => ?_)
    · replace h := it c5 h
      refine j_iload_n C 0 dX12_next_179 rfl ?_
      refine j_bipush (v := 12) C dX12_next_180 (by decide) ?_
      refine j_icmp_ne (tgt := 189) C dX12_next_182 (by decide) (fun c6 => ?_) (fun c6 => ?_)
      · replace h := ie c6 h
        refine j_iconst (v := 4) C dX12_next_189 (by decide) ?_
        refine j_iload_n C 0 dX12_next_190 rfl ?_
        refine j_iadd C dX12_next_191 ?_
        refine j_bipush (v := 9) C dX12_next_192 (by decide) ?_
        refine j_isub C dX12_next_194 ?_
        exact j_sub [1, 0] rfl (b12_next_195 C e h)
      · replace h := it c6 h
        refine j_iconst (v := -1) C dX12_next_185 (by decide) ?_
        refine j_goto (tgt := 195) C dX12_next_186 (by decide) ?_
        exact j_sub [1, 0] rfl (b12_next_195 C e h)
    · replace h := ie c5 h
      refine j_iconst (v := 2) C dX12_next_175 (by decide) ?_
      refine j_goto (tgt := 195) C dX12_next_176 (by decide) ?_
      exact j_sub [1, 0] rfl (b12_next_195 C e h)
  · replace h := ie c4 h
    refine j_iconst (v := 3) C dX12_next_165 (by decide) ?_
    refine j_goto (tgt := 195) C dX12_next_166 (by decide) ?_
    exact j_sub [1, 0] rfl (b12_next_195 C e h)
set_option maxRecDepth 10000 in
theorem b12_next_103 {α : WA} {κ : KT} {fu : Nat} {σ' : M2}  (C : Cx (ωM α) κ cX12_next 3 "EveryoneWinsModel" (none)) (e : κ.2.2.2.2.2.2.2.2.2 = (none, σ'))  {σ : M2} (h : F12_next_103 fu σ = some ((), σ')) : J (ωM α) κ 2 3 103 [(0, .ref (wad (ωM α) 0))] [] σ := by
  unfold F12_next_103 at h
  refine wl0_ind (fun  σ => J (ωM α) κ 2 3 103 [(0, .ref (wad (ωM α) 0))] [] σ) ?_ fu  σ h
  intro k103 hk103  σ h
  try dsimp only at h
  show J (ωM α) κ 2 3 103 [(0, .ref (wad (ωM α) 0))] [] σ
  refine j_aload_n C 0 dX12_next_103 rfl ?_
  refine j_geti (o := 0) (j := 19) C inT12 (ci := 11) rfl (by decide) (rfl) rfl rfl wd_1118 dX12_next_104 ?_
  refine j_aload_n C 0 dX12_next_107 rfl ?_
  refine j_geti (o := 0) (j := 7) C inT12 (ci := 11) rfl (by decide) (rfl) rfl rfl wd_1106 dX12_next_108 ?_
  refine j_icmp_ge (tgt := 146) C dX12_next_111 (by decide) (fun c1 => ?_) (fun c1 => ?_)
  · replace h := it c1 h
    exact (b12_next_146 C e h)
  · replace h := ie c1 h
    refine j_aload_n C 0 dX12_next_114 rfl ?_
    refine j_getr (o := 0) (j := 6) C inT12 (ci := 11) rfl (by decide) (rfl) rfl rfl wd_1105 dX12_next_115 (o' := 5) rfl ?_
    refine j_aload_n C 0 dX12_next_118 rfl ?_
    refine j_geti (o := 0) (j := 19) C inT12 (ci := 11) rfl (by decide) (rfl) rfl rfl wd_1118 dX12_next_119 ?_
    obtain ⟨g2, h⟩ := gd_some h
    refine j_iaload (N := 160) C (rfl) (inb_in g2) dX12_next_122 ?_
    refine j_bipush (v := 97) C dX12_next_123 (by decide) ?_
    refine j_bipush (v := 122) C dX12_next_125 (by decide) ?_
    obtain ⟨r3, s4, hc5, h⟩ := bnd_some h
    refine k_S (v := some (.int r3)) C sb_X12_in (c12_in _ hc5) rfl (by decide) wd_1060 rfl dX12_next_127 ?_
    show J (ωM α) κ _ _ 130 _ [.int r3] s4
    refine j_if_eq (tgt := 146) C dX12_next_130 (by decide) (fun c6 => ?_) (fun c6 => ?_)
    · replace h := it c6 h
      exact (b12_next_146 C e h)
    · replace h := ie c6 h
      refine j_aload_n C 0 dX12_next_133 rfl ?_
      refine j_dup C dX12_next_134 rfl ?_
      refine j_geti (o := 0) (j := 19) C inT12 (ci := 11) rfl (by decide) (rfl) rfl rfl wd_1118 dX12_next_135 ?_
      refine j_iconst (v := 1) C dX12_next_138 (by decide) ?_
      refine j_iadd C dX12_next_139 ?_
      refine j_puti (o := 0) (j := 19) C inT12 tyX12_ok nmX12 (ci := 11) rfl (by decide) (rfl) rfl rfl rfl (tyX12_ok 19 (by decide)) rfl rfl wd_1118 dX12_next_140 ?_
      refine j_goto (tgt := 103) C dX12_next_143 (by decide) ?_
      exact (hk103  _ h)
set_option maxRecDepth 10000 in
theorem b12_next_52 {α : WA} {κ : KT} {fu : Nat} {σ' : M2}  (C : Cx (ωM α) κ cX12_next 3 "EveryoneWinsModel" (none)) (e : κ.2.2.2.2.2.2.2.2.2 = (none, σ'))  {σ : M2} (h : F12_next_52 fu σ = some ((), σ')) : J (ωM α) κ 2 3 52 [(0, .ref (wad (ωM α) 0))] [] σ := by
  unfold F12_next_52 at h
  refine j_aload_n C 0 dX12_next_52 rfl ?_
  refine j_aload_n C 0 dX12_next_53 rfl ?_
  refine j_geti (o := 0) (j := 19) C inT12 (ci := 11) rfl (by decide) (rfl) rfl rfl wd_1118 dX12_next_54 ?_
  refine j_puti (o := 0) (j := 20) C inT12 tyX12_ok nmX12 (ci := 11) rfl (by decide) (rfl) rfl rfl rfl (tyX12_ok 20 (by decide)) rfl rfl wd_1119 dX12_next_57 ?_
  refine j_aload_n C 0 dX12_next_60 rfl ?_
  refine j_iconst (v := 0) C dX12_next_61 (by decide) ?_
  refine j_puti (o := 0) (j := 21) C inT12 tyX12_ok nmX12 (ci := 11) rfl (by decide) (rfl) rfl rfl rfl (tyX12_ok 21 (by decide)) rfl rfl wd_1120 dX12_next_62 ?_
  refine j_aload_n C 0 dX12_next_65 rfl ?_
  refine j_iconst (v := 0) C dX12_next_66 (by decide) ?_
  refine j_puti (o := 0) (j := 22) C inT12 tyX12_ok nmX12 (ci := 11) rfl (by decide) (rfl) rfl rfl rfl (tyX12_ok 22 (by decide)) rfl rfl wd_1121 dX12_next_67 ?_
  refine j_aload_n C 0 dX12_next_70 rfl ?_
  refine j_geti (o := 0) (j := 19) C inT12 (ci := 11) rfl (by decide) (rfl) rfl rfl wd_1118 dX12_next_71 ?_
  refine j_aload_n C 0 dX12_next_74 rfl ?_
  refine j_geti (o := 0) (j := 7) C inT12 (ci := 11) rfl (by decide) (rfl) rfl rfl wd_1106 dX12_next_75 ?_
  refine j_icmp_ne (tgt := 82) C dX12_next_78 (by decide) (fun c1 => ?_) (fun c1 => ?_)
  · replace h := ie c1 h
    refine j_aload_n C 0 dX12_next_82 rfl ?_
    refine j_getr (o := 0) (j := 6) C inT12 (ci := 11) rfl (by decide) (rfl) rfl rfl wd_1105 dX12_next_83 (o' := 5) rfl ?_
    refine j_aload_n C 0 dX12_next_86 rfl ?_
    refine j_geti (o := 0) (j := 19) C inT12 (ci := 11) rfl (by decide) (rfl) rfl rfl wd_1118 dX12_next_87 ?_
    obtain ⟨g2, h⟩ := gd_some h
    refine j_iaload (N := 160) C (rfl) (inb_in g2) dX12_next_90 ?_
    refine j_istore_n (L' := [(1, .int ((up (up (up σ 0 20 (σ 0 19)) 0 21 (0 : Int32)) 0 22 (0 : Int32)) 5 ((up (up (up σ 0 20 (σ 0 19)) 0 21 (0 : Int32)) 0 22 (0 : Int32)) 0 19).toNatClampNeg)), (0, .ref (wad (ωM α) 0))]) C dX12_next_91 rfl rfl rfl ?_
    refine j_iload_n C 0 dX12_next_92 rfl ?_
    refine j_bipush (v := 97) C dX12_next_93 (by decide) ?_
    refine j_bipush (v := 122) C dX12_next_95 (by decide) ?_
    obtain ⟨r3, s4, hc5, h⟩ := bnd_some h
    refine k_S (v := some (.int r3)) C sb_X12_in (c12_in _ hc5) rfl (by decide) wd_1060 rfl dX12_next_97 ?_
    show J (ωM α) κ _ _ 100 _ [.int r3] s4
    refine j_if_eq (tgt := 217) C dX12_next_100 (by decide) (fun c6 => ?_) (fun c6 => ?_)
    · replace h := it c6 h
      refine j_iload_n C 0 dX12_next_217 rfl ?_
      refine j_bipush (v := 48) C dX12_next_218 (by decide) ?_
      refine j_bipush (v := 57) C dX12_next_220 (by decide) ?_
      obtain ⟨r7, s8, hc9, h⟩ := bnd_some h
      refine k_S (v := some (.int r7)) C sb_X12_in (c12_in _ hc9) rfl (by decide) wd_1060 rfl dX12_next_222 ?_
      show J (ωM α) κ _ _ 225 _ [.int r7] s8
      refine j_if_eq (tgt := 326) C dX12_next_225 (by decide) (fun c10 => ?_) (fun c10 => ?_)
      · replace h := it c10 h
        refine j_iload_n C 0 dX12_next_326 rfl ?_
        refine j_bipush (v := 40) C dX12_next_327 (by decide) ?_
        refine j_icmp_eq (tgt := 374) C dX12_next_329 (by decide) (fun c11 => ?_) (fun c11 => ?_)
        · replace h := it c11 h
          exact j_sub [1, 0] rfl (b12_next_374 C e h)
        · replace h := ie c11 h
          refine j_iload_n C 0 dX12_next_332 rfl ?_
          refine j_bipush (v := 41) C dX12_next_333 (by decide) ?_
          refine j_icmp_eq (tgt := 374) C dX12_next_335 (by decide) (fun c12 => ?_) (fun c12 => ?_)
          · replace h := it c12 h
            exact j_sub [1, 0] rfl (b12_next_374 C e h)
          · replace h := ie c12 h
            refine j_iload_n C 0 dX12_next_338 rfl ?_
            refine j_bipush (v := 59) C dX12_next_339 (by decide) ?_
            refine j_icmp_eq (tgt := 374) C dX12_next_341 (by decide) (fun c13 => ?_) (fun c13 => ?_)
            · replace h := it c13 h
              exact j_sub [1, 0] rfl (b12_next_374 C e h)
            · replace h := ie c13 h
              refine j_iload_n C 0 dX12_next_344 rfl ?_
              refine j_bipush (v := 43) C dX12_next_345 (by decide) ?_
              refine j_icmp_eq (tgt := 374) C dX12_next_347 (by decide) (fun c14 => ?_) (fun c14 => ?_)
              · replace h := it c14 h
                exact j_sub [1, 0] rfl (b12_next_374 C e h)
              · replace h := ie c14 h
                refine j_iload_n C 0 dX12_next_350 rfl ?_
                refine j_bipush (v := 45) C dX12_next_351 (by decide) ?_
                refine j_icmp_eq (tgt := 374) C dX12_next_353 (by decide) (fun c15 => ?_) (fun c15 => ?_)
                · replace h := it c15 h
                  exact j_sub [1, 0] rfl (b12_next_374 C e h)
                · replace h := ie c15 h
                  refine j_iload_n C 0 dX12_next_356 rfl ?_
                  refine j_bipush (v := 42) C dX12_next_357 (by decide) ?_
                  refine j_icmp_eq (tgt := 374) C dX12_next_359 (by decide) (fun c16 => ?_) (fun c16 => ?_)
                  · replace h := it c16 h
                    exact j_sub [1, 0] rfl (b12_next_374 C e h)
                  · replace h := ie c16 h
                    refine j_iload_n C 0 dX12_next_362 rfl ?_
                    refine j_bipush (v := 60) C dX12_next_363 (by decide) ?_
                    refine j_icmp_eq (tgt := 374) C dX12_next_365 (by decide) (fun c17 => ?_) (fun c17 => ?_)
                    · replace h := it c17 h
                      exact j_sub [1, 0] rfl (b12_next_374 C e h)
                    · replace h := ie c17 h
                      refine j_iload_n C 0 dX12_next_368 rfl ?_
                      refine j_bipush (v := 61) C dX12_next_369 (by decide) ?_
                      refine j_icmp_ne (tgt := 378) C dX12_next_371 (by decide) (fun c18 => ?_) (fun c18 => ?_)
                      · replace h := ie c18 h
                        refine j_iconst (v := 0) C dX12_next_378 (by decide) ?_
                        exact j_sub [1, 0] rfl (b12_next_379 C e h)
                      · replace h := it c18 h
                        exact j_sub [1, 0] rfl (b12_next_374 C e h)
      · replace h := ie c10 h
        refine j_iconst (v := 0) C dX12_next_228 (by decide) ?_
        refine j_istore_n (L' := [(2, .int (0 : Int32)), (1, .int ((up (up (up σ 0 20 (σ 0 19)) 0 21 (0 : Int32)) 0 22 (0 : Int32)) 5 ((up (up (up σ 0 20 (σ 0 19)) 0 21 (0 : Int32)) 0 22 (0 : Int32)) 0 19).toNatClampNeg)), (0, .ref (wad (ωM α) 0))]) C dX12_next_229 rfl rfl rfl ?_
        exact j_sub [2, 0] rfl (b12_next_230 C e h)
    · replace h := ie c6 h
      exact j_sub [1] rfl (b12_next_103 C e h)
  · replace h := it c1 h
    obtain ⟨-, hs⟩ := s2_inj h
    subst hs
    exact j_vret C e dX12_next_81
set_option maxRecDepth 10000 in
theorem b12_next_39 {α : WA} {κ : KT} {fu : Nat} {σ' : M2}  (C : Cx (ωM α) κ cX12_next 3 "EveryoneWinsModel" (none)) (e : κ.2.2.2.2.2.2.2.2.2 = (none, σ')) {k0 : M2 → Option (Unit × M2)} (hk0 : ∀  (σ : M2), k0  σ = some ((), σ') → J (ωM α) κ 2 3 0 [(0, .ref (wad (ωM α) 0))] [] σ) {σ : M2} (h : F12_next_39 fu k0 σ = some ((), σ')) : J (ωM α) κ 2 3 39 [(0, .ref (wad (ωM α) 0))] [] σ := by
  unfold F12_next_39 at h
  refine j_aload_n C 0 dX12_next_39 rfl ?_
  refine j_dup C dX12_next_40 rfl ?_
  refine j_geti (o := 0) (j := 19) C inT12 (ci := 11) rfl (by decide) (rfl) rfl rfl wd_1118 dX12_next_41 ?_
  refine j_iconst (v := 1) C dX12_next_44 (by decide) ?_
  refine j_iadd C dX12_next_45 ?_
  refine j_puti (o := 0) (j := 19) C inT12 tyX12_ok nmX12 (ci := 11) rfl (by decide) (rfl) rfl rfl rfl (tyX12_ok 19 (by decide)) rfl rfl wd_1118 dX12_next_46 ?_
  refine j_goto (tgt := 0) C dX12_next_49 (by decide) ?_
  exact (hk0  _ h)
set_option maxRecDepth 10000 in
theorem b12_next_0 {α : WA} {κ : KT} {fu : Nat} {σ' : M2}  (C : Cx (ωM α) κ cX12_next 3 "EveryoneWinsModel" (none)) (e : κ.2.2.2.2.2.2.2.2.2 = (none, σ'))  {σ : M2} (h : F12_next_0 fu σ = some ((), σ')) : J (ωM α) κ 2 3 0 [(0, .ref (wad (ωM α) 0))] [] σ := by
  unfold F12_next_0 at h
  refine wl0_ind (fun  σ => J (ωM α) κ 2 3 0 [(0, .ref (wad (ωM α) 0))] [] σ) ?_ fu  σ h
  intro k0 hk0  σ h
  try dsimp only at h
  show J (ωM α) κ 2 3 0 [(0, .ref (wad (ωM α) 0))] [] σ
  refine j_aload_n C 0 dX12_next_0 rfl ?_
  refine j_geti (o := 0) (j := 19) C inT12 (ci := 11) rfl (by decide) (rfl) rfl rfl wd_1118 dX12_next_1 ?_
  refine j_aload_n C 0 dX12_next_4 rfl ?_
  refine j_geti (o := 0) (j := 7) C inT12 (ci := 11) rfl (by decide) (rfl) rfl rfl wd_1106 dX12_next_5 ?_
  refine j_icmp_ge (tgt := 52) C dX12_next_8 (by decide) (fun c1 => ?_) (fun c1 => ?_)
  · replace h := it c1 h
    exact (b12_next_52 C e h)
  · replace h := ie c1 h
    refine j_aload_n C 0 dX12_next_11 rfl ?_
    refine j_getr (o := 0) (j := 6) C inT12 (ci := 11) rfl (by decide) (rfl) rfl rfl wd_1105 dX12_next_12 (o' := 5) rfl ?_
    refine j_aload_n C 0 dX12_next_15 rfl ?_
    refine j_geti (o := 0) (j := 19) C inT12 (ci := 11) rfl (by decide) (rfl) rfl rfl wd_1118 dX12_next_16 ?_
    obtain ⟨g2, h⟩ := gd_some h
    refine j_iaload (N := 160) C (rfl) (inb_in g2) dX12_next_19 ?_
    refine j_bipush (v := 32) C dX12_next_20 (by decide) ?_
    refine j_icmp_eq (tgt := 39) C dX12_next_22 (by decide) (fun c3 => ?_) (fun c3 => ?_)
    · replace h := it c3 h
      exact (b12_next_39 C e hk0 h)
    · replace h := ie c3 h
      refine j_aload_n C 0 dX12_next_25 rfl ?_
      refine j_getr (o := 0) (j := 6) C inT12 (ci := 11) rfl (by decide) (rfl) rfl rfl wd_1105 dX12_next_26 (o' := 5) rfl ?_
      refine j_aload_n C 0 dX12_next_29 rfl ?_
      refine j_geti (o := 0) (j := 19) C inT12 (ci := 11) rfl (by decide) (rfl) rfl rfl wd_1118 dX12_next_30 ?_
      refine j_iaload (N := 160) C (rfl) (inb_in g2) dX12_next_33 ?_
      refine j_bipush (v := 10) C dX12_next_34 (by decide) ?_
      refine j_icmp_ne (tgt := 52) C dX12_next_36 (by decide) (fun c4 => ?_) (fun c4 => ?_)
      · replace h := ie c4 h
        exact (b12_next_52 C e h)
      · replace h := it c4 h
        exact (b12_next_39 C e hk0 h)
set_option maxRecDepth 10000 in
theorem c12_next (l : Launch) {α : WA} {fu : Nat}  {σ σ' : M2}  (h : F12_next fu σ = some ((), σ')) : Ct l (ωM α) yX12_next cX12_next 3 (none) 2 [.ref (wad (ωM α) 0)] σ (none) σ' := by
  unfold F12_next at h
  refine Ct.of (own := "EveryoneWinsModel") (L := [(0, .ref (wad (ωM α) 0))]) (by decide +kernel) rfl rfl rfl (fun κ hl e C => ?_)
  show J (ωM α) κ 2 3 0 [(0, .ref (wad (ωM α) 0))] [] σ
  exact (b12_next_0 C e h)
set_option maxRecDepth 10000 in
theorem c12_rank (l : Launch) {α : WA}  {a1 : Int32} {σ σ' : M2} {v : Int32}  (h : F12_rank a1 σ = some (v, σ')) : Ct l (ωM α) yX12_rank cX12_rank 1 (some FieldType.int) 1 [.int a1] σ (some (.int v)) σ' := by
  unfold F12_rank at h
  refine Ct.of (own := "EveryoneWinsModel") (L := [(0, .int a1)]) (by decide +kernel) rfl rfl rfl (fun κ hl e C => ?_)
  show J (ωM α) κ 1 1 0 [(0, .int a1)] [] σ
  refine j_iload_n C 0 dX12_rank_0 rfl ?_
  refine j_if_ne (tgt := 8) C dX12_rank_1 (by decide) (fun c1 => ?_) (fun c1 => ?_)
  · replace h := ie c1 h
    refine j_iload_n C 0 dX12_rank_8 rfl ?_
    refine j_bipush (v := 11) C dX12_rank_9 (by decide) ?_
    refine j_icmp_ne (tgt := 18) C dX12_rank_11 (by decide) (fun c2 => ?_) (fun c2 => ?_)
    · replace h := ie c2 h
      refine j_iload_n C 0 dX12_rank_18 rfl ?_
      refine j_bipush (v := 12) C dX12_rank_19 (by decide) ?_
      refine j_icmp_ne (tgt := 28) C dX12_rank_21 (by decide) (fun c3 => ?_) (fun c3 => ?_)
      · replace h := ie c3 h
        refine j_iload_n C 0 dX12_rank_28 rfl ?_
        refine j_bipush (v := 13) C dX12_rank_29 (by decide) ?_
        refine j_icmp_ne (tgt := 38) C dX12_rank_31 (by decide) (fun c4 => ?_) (fun c4 => ?_)
        · replace h := ie c4 h
          refine j_iload_n C 0 dX12_rank_38 rfl ?_
          refine j_bipush (v := 15) C dX12_rank_39 (by decide) ?_
          refine j_icmp_gt (tgt := 48) C dX12_rank_41 (by decide) (fun c5 => ?_) (fun c5 => ?_)
          · replace h := it c5 h
            refine j_iload_n C 0 dX12_rank_48 rfl ?_
            refine j_bipush (v := 17) C dX12_rank_49 (by decide) ?_
            refine j_icmp_gt (tgt := 58) C dX12_rank_51 (by decide) (fun c6 => ?_) (fun c6 => ?_)
            · replace h := it c6 h
              refine j_iload_n C 0 dX12_rank_58 rfl ?_
              refine j_bipush (v := 18) C dX12_rank_59 (by decide) ?_
              refine j_icmp_ne (tgt := 69) C dX12_rank_61 (by decide) (fun c7 => ?_) (fun c7 => ?_)
              · replace h := ie c7 h
                refine j_bipush (v := 7) C dX12_rank_69 (by decide) ?_
                obtain ⟨hv, hs⟩ := s2_inj h
                subst hv
                subst hs
                exact j_iret C e dX12_rank_71
              · replace h := it c7 h
                refine j_bipush (v := 6) C dX12_rank_64 (by decide) ?_
                refine j_goto (tgt := 71) C dX12_rank_66 (by decide) ?_
                obtain ⟨hv, hs⟩ := s2_inj h
                subst hv
                subst hs
                exact j_iret C e dX12_rank_71
            · replace h := ie c6 h
              refine j_iconst (v := 5) C dX12_rank_54 (by decide) ?_
              refine j_goto (tgt := 71) C dX12_rank_55 (by decide) ?_
              obtain ⟨hv, hs⟩ := s2_inj h
              subst hv
              subst hs
              exact j_iret C e dX12_rank_71
          · replace h := ie c5 h
            refine j_iconst (v := 4) C dX12_rank_44 (by decide) ?_
            refine j_goto (tgt := 71) C dX12_rank_45 (by decide) ?_
            obtain ⟨hv, hs⟩ := s2_inj h
            subst hv
            subst hs
            exact j_iret C e dX12_rank_71
        · replace h := it c4 h
          refine j_iconst (v := 3) C dX12_rank_34 (by decide) ?_
          refine j_goto (tgt := 71) C dX12_rank_35 (by decide) ?_
          obtain ⟨hv, hs⟩ := s2_inj h
          subst hv
          subst hs
          exact j_iret C e dX12_rank_71
      · replace h := it c3 h
        refine j_iconst (v := 2) C dX12_rank_24 (by decide) ?_
        refine j_goto (tgt := 71) C dX12_rank_25 (by decide) ?_
        obtain ⟨hv, hs⟩ := s2_inj h
        subst hv
        subst hs
        exact j_iret C e dX12_rank_71
    · replace h := it c2 h
      refine j_iconst (v := 1) C dX12_rank_14 (by decide) ?_
      refine j_goto (tgt := 71) C dX12_rank_15 (by decide) ?_
      obtain ⟨hv, hs⟩ := s2_inj h
      subst hv
      subst hs
      exact j_iret C e dX12_rank_71
  · replace h := it c1 h
    refine j_iconst (v := 0) C dX12_rank_4 (by decide) ?_
    refine j_goto (tgt := 71) C dX12_rank_5 (by decide) ?_
    obtain ⟨hv, hs⟩ := s2_inj h
    subst hv
    subst hs
    exact j_iret C e dX12_rank_71
set_option maxRecDepth 10000 in
theorem c12_puts (l : Launch) {α : WA}  {a1 : Int32} {σ σ' : M2}  (h : F12_puts a1 σ = some ((), σ')) : Ct l (ωM α) yX12_puts cX12_puts 2 (none) 1 [.ref (wad (ωM α) 0), .int a1] σ (none) σ' := by
  unfold F12_puts at h
  refine Ct.of (own := "EveryoneWinsModel") (L := [(0, .ref (wad (ωM α) 0)), (1, .int a1)]) (by decide +kernel) rfl rfl rfl (fun κ hl e C => ?_)
  show J (ωM α) κ 1 2 0 [(0, .ref (wad (ωM α) 0)), (1, .int a1)] [] σ
  refine j_aload_n C 0 dX12_puts_0 rfl ?_
  refine j_getr (o := 0) (j := 8) C inT12 (ci := 11) rfl (by decide) (rfl) rfl rfl wd_1107 dX12_puts_1 (o' := 6) rfl ?_
  refine j_sipush (v := 200) C dX12_puts_4 (by decide) ?_
  refine j_aload_n C 0 dX12_puts_7 rfl ?_
  refine j_geti (o := 0) (j := 10) C inT12 (ci := 11) rfl (by decide) (rfl) rfl rfl wd_1109 dX12_puts_8 ?_
  refine j_imul C dX12_puts_11 ?_
  refine j_aload_n C 0 dX12_puts_12 rfl ?_
  refine j_geti (o := 0) (j := 27) C inT12 (ci := 11) rfl (by decide) (rfl) rfl rfl wd_1126 dX12_puts_13 ?_
  refine j_iadd C dX12_puts_16 ?_
  refine j_iload_n C 1 dX12_puts_17 rfl ?_
  obtain ⟨g1, h⟩ := gd_some h
  refine j_iastore (N := 1200) C (rfl) (inb_in g1) dX12_puts_18 ?_
  refine j_aload_n C 0 dX12_puts_19 rfl ?_
  refine j_dup C dX12_puts_20 rfl ?_
  refine j_geti (o := 0) (j := 27) C inT12 (ci := 11) rfl (by decide) (rfl) rfl rfl wd_1126 dX12_puts_21 ?_
  refine j_iconst (v := 1) C dX12_puts_24 (by decide) ?_
  refine j_iadd C dX12_puts_25 ?_
  refine j_puti (o := 0) (j := 27) C inT12 tyX12_ok nmX12 (ci := 11) rfl (by decide) (rfl) rfl rfl rfl (tyX12_ok 27 (by decide)) rfl rfl wd_1126 dX12_puts_26 ?_
  obtain ⟨-, hs⟩ := s2_inj h
  subst hs
  exact j_vret C e dX12_puts_29
set_option maxRecDepth 10000 in
theorem b12_unwinds_67 {α : WA} {κ : KT} {fu : Nat} {σ' : M2} {x1 : Int32} {x2 : Int32} {y0 : Int32} {y1 : Int32} (C : Cx (ωM α) κ cX12_unwinds 3 "EveryoneWinsModel" (none)) (e : κ.2.2.2.2.2.2.2.2.2 = (none, σ')) {k0 : M2 → Option (Unit × M2)} (hk0 : ∀  (σ : M2), k0  σ = some ((), σ') → J (ωM α) κ 2 3 0 [(0, .ref (wad (ωM α) 0)), (1, .int x1)] [] σ) {σ : M2} (h : F12_unwinds_67 fu k0 x1 x2 y0 y1 σ = some ((), σ')) : J (ωM α) κ 2 3 67 [(0, .ref (wad (ωM α) 0)), (1, .int x1), (2, .int x2)] [.int y0, .int y1, .ref (wad (ωM α) 0)] σ := by
  unfold F12_unwinds_67 at h
  refine j_isub C dX12_unwinds_67 ?_
  refine j_puti (o := 0) (j := 26) C inT12 tyX12_ok nmX12 (ci := 11) rfl (by decide) (rfl) rfl rfl rfl (tyX12_ok 26 (by decide)) rfl rfl wd_1125 dX12_unwinds_68 ?_
  refine j_aload_n C 0 dX12_unwinds_71 rfl ?_
  refine j_iload_n C 2 dX12_unwinds_72 rfl ?_
  obtain ⟨r1, s2, hc3, h⟩ := bnd_some h
  refine k_V (v := none) C vb_X12_puts (ci := 11) (T := TX12) (N := 45) rfl (by decide) (c12_puts _ hc3) rfl (by decide) wd_1072 (rfl) rfl dX12_unwinds_73 ?_
  show J (ωM α) κ _ _ 76 _ [] s2
  refine j_goto (tgt := 0) C dX12_unwinds_76 (by decide) ?_
  exact j_sub [0, 1] rfl (hk0  _ h)
set_option maxRecDepth 10000 in
theorem b12_unwinds_62 {α : WA} {κ : KT} {fu : Nat} {σ' : M2} {x1 : Int32} {x2 : Int32} {y0 : Int32} (C : Cx (ωM α) κ cX12_unwinds 3 "EveryoneWinsModel" (none)) (e : κ.2.2.2.2.2.2.2.2.2 = (none, σ')) {k0 : M2 → Option (Unit × M2)} (hk0 : ∀  (σ : M2), k0  σ = some ((), σ') → J (ωM α) κ 2 3 0 [(0, .ref (wad (ωM α) 0)), (1, .int x1)] [] σ) {σ : M2} (h : F12_unwinds_62 fu k0 x1 x2 y0 σ = some ((), σ')) : J (ωM α) κ 2 3 62 [(0, .ref (wad (ωM α) 0)), (1, .int x1), (2, .int x2)] [.int y0, .ref (wad (ωM α) 0)] σ := by
  unfold F12_unwinds_62 at h
  refine j_iconst (v := 1) C dX12_unwinds_62 (by decide) ?_
  refine j_goto (tgt := 67) C dX12_unwinds_63 (by decide) ?_
  exact (b12_unwinds_67 C e hk0 h)
set_option maxRecDepth 10000 in
theorem b12_unwinds_0 {α : WA} {κ : KT} {fu : Nat} {σ' : M2} {x1 : Int32} (C : Cx (ωM α) κ cX12_unwinds 3 "EveryoneWinsModel" (none)) (e : κ.2.2.2.2.2.2.2.2.2 = (none, σ'))  {σ : M2} (h : F12_unwinds_0 fu x1 σ = some ((), σ')) : J (ωM α) κ 2 3 0 [(0, .ref (wad (ωM α) 0)), (1, .int x1)] [] σ := by
  unfold F12_unwinds_0 at h
  refine wl0_ind (fun  σ => J (ωM α) κ 2 3 0 [(0, .ref (wad (ωM α) 0)), (1, .int x1)] [] σ) ?_ fu  σ h
  intro k0 hk0  σ h
  try dsimp only at h
  show J (ωM α) κ 2 3 0 [(0, .ref (wad (ωM α) 0)), (1, .int x1)] [] σ
  refine j_aload_n C 0 dX12_unwinds_0 rfl ?_
  refine j_geti (o := 0) (j := 25) C inT12 (ci := 11) rfl (by decide) (rfl) rfl rfl wd_1124 dX12_unwinds_1 ?_
  refine j_if_le (tgt := 79) C dX12_unwinds_4 (by decide) (fun c1 => ?_) (fun c1 => ?_)
  · replace h := it c1 h
    obtain ⟨-, hs⟩ := s2_inj h
    subst hs
    exact j_vret C e dX12_unwinds_79
  · replace h := ie c1 h
    refine j_aload_n C 0 dX12_unwinds_7 rfl ?_
    refine j_getr (o := 0) (j := 24) C inT12 (ci := 11) rfl (by decide) (rfl) rfl rfl wd_1123 dX12_unwinds_8 (o' := 15) rfl ?_
    refine j_aload_n C 0 dX12_unwinds_11 rfl ?_
    refine j_geti (o := 0) (j := 25) C inT12 (ci := 11) rfl (by decide) (rfl) rfl rfl wd_1124 dX12_unwinds_12 ?_
    refine j_iconst (v := 1) C dX12_unwinds_15 (by decide) ?_
    refine j_isub C dX12_unwinds_16 ?_
    obtain ⟨g2, h⟩ := gd_some h
    refine j_iaload (N := 200) C (rfl) (inb_in g2) dX12_unwinds_17 ?_
    obtain ⟨r3, s4, hc5, h⟩ := bnd_some h
    refine k_S (v := some (.int r3)) C sb_X12_rank (c12_rank _ hc5) rfl (by decide) wd_1080 rfl dX12_unwinds_18 ?_
    show J (ωM α) κ _ _ 21 _ [.int r3] s4
    refine j_iload_n C 1 dX12_unwinds_21 rfl ?_
    refine j_icmp_lt (tgt := 79) C dX12_unwinds_22 (by decide) (fun c6 => ?_) (fun c6 => ?_)
    · replace h := it c6 h
      obtain ⟨-, hs⟩ := s2_inj h
      subst hs
      exact j_vret C e dX12_unwinds_79
    · replace h := ie c6 h
      refine j_aload_n C 0 dX12_unwinds_25 rfl ?_
      refine j_dup C dX12_unwinds_26 rfl ?_
      refine j_geti (o := 0) (j := 25) C inT12 (ci := 11) rfl (by decide) (rfl) rfl rfl wd_1124 dX12_unwinds_27 ?_
      refine j_iconst (v := 1) C dX12_unwinds_30 (by decide) ?_
      refine j_isub C dX12_unwinds_31 ?_
      refine j_puti (o := 0) (j := 25) C inT12 tyX12_ok nmX12 (ci := 11) rfl (by decide) (rfl) rfl rfl rfl (tyX12_ok 25 (by decide)) rfl rfl wd_1124 dX12_unwinds_32 ?_
      refine j_aload_n C 0 dX12_unwinds_35 rfl ?_
      refine j_getr (o := 0) (j := 24) C inT12 (ci := 11) rfl (by decide) (rfl) rfl rfl wd_1123 dX12_unwinds_36 (o' := 15) rfl ?_
      refine j_aload_n C 0 dX12_unwinds_39 rfl ?_
      refine j_geti (o := 0) (j := 25) C inT12 (ci := 11) rfl (by decide) (rfl) rfl rfl wd_1124 dX12_unwinds_40 ?_
      obtain ⟨g7, h⟩ := gd_some h
      refine j_iaload (N := 200) C (rfl) (inb_in g7) dX12_unwinds_43 ?_
      refine j_istore_n (L' := [(2, .int ((up s4 0 25 ((s4 0 25) - (1 : Int32))) 15 ((up s4 0 25 ((s4 0 25) - (1 : Int32))) 0 25).toNatClampNeg)), (0, .ref (wad (ωM α) 0)), (1, .int x1)]) C dX12_unwinds_44 rfl rfl rfl ?_
      refine j_aload_n C 1 dX12_unwinds_45 rfl ?_
      refine j_dup C dX12_unwinds_46 rfl ?_
      refine j_geti (o := 0) (j := 26) C inT12 (ci := 11) rfl (by decide) (rfl) rfl rfl wd_1125 dX12_unwinds_47 ?_
      refine j_iload_n C 0 dX12_unwinds_50 rfl ?_
      refine j_bipush (v := 13) C dX12_unwinds_51 (by decide) ?_
      refine j_icmp_eq (tgt := 62) C dX12_unwinds_53 (by decide) (fun c8 => ?_) (fun c8 => ?_)
      · replace h := it c8 h
        exact j_sub [1, 2, 0] rfl (b12_unwinds_62 C e hk0 h)
      · replace h := ie c8 h
        refine j_iload_n C 0 dX12_unwinds_56 rfl ?_
        refine j_bipush (v := 19) C dX12_unwinds_57 (by decide) ?_
        refine j_icmp_ne (tgt := 66) C dX12_unwinds_59 (by decide) (fun c9 => ?_) (fun c9 => ?_)
        · replace h := ie c9 h
          refine j_iconst (v := 0) C dX12_unwinds_66 (by decide) ?_
          exact j_sub [1, 2, 0] rfl (b12_unwinds_67 C e hk0 h)
        · replace h := it c9 h
          exact j_sub [1, 2, 0] rfl (b12_unwinds_62 C e hk0 h)
set_option maxRecDepth 10000 in
theorem c12_unwinds (l : Launch) {α : WA} {fu : Nat} {a1 : Int32} {σ σ' : M2}  (h : F12_unwinds fu a1 σ = some ((), σ')) : Ct l (ωM α) yX12_unwinds cX12_unwinds 3 (none) 2 [.ref (wad (ωM α) 0), .int a1] σ (none) σ' := by
  unfold F12_unwinds at h
  refine Ct.of (own := "EveryoneWinsModel") (L := [(0, .ref (wad (ωM α) 0)), (1, .int a1)]) (by decide +kernel) rfl rfl rfl (fun κ hl e C => ?_)
  show J (ωM α) κ 2 3 0 [(0, .ref (wad (ωM α) 0)), (1, .int a1)] [] σ
  exact (b12_unwinds_0 C e h)
set_option maxRecDepth 10000 in
theorem c12_holds (l : Launch) {α : WA}  {a1 : Int32} {σ σ' : M2}  (h : F12_holds a1 σ = some ((), σ')) : Ct l (ωM α) yX12_holds cX12_holds 2 (none) 1 [.ref (wad (ωM α) 0), .int a1] σ (none) σ' := by
  unfold F12_holds at h
  refine Ct.of (own := "EveryoneWinsModel") (L := [(0, .ref (wad (ωM α) 0)), (1, .int a1)]) (by decide +kernel) rfl rfl rfl (fun κ hl e C => ?_)
  show J (ωM α) κ 1 2 0 [(0, .ref (wad (ωM α) 0)), (1, .int a1)] [] σ
  refine j_aload_n C 0 dX12_holds_0 rfl ?_
  refine j_getr (o := 0) (j := 24) C inT12 (ci := 11) rfl (by decide) (rfl) rfl rfl wd_1123 dX12_holds_1 (o' := 15) rfl ?_
  refine j_aload_n C 0 dX12_holds_4 rfl ?_
  refine j_geti (o := 0) (j := 25) C inT12 (ci := 11) rfl (by decide) (rfl) rfl rfl wd_1124 dX12_holds_5 ?_
  refine j_iload_n C 1 dX12_holds_8 rfl ?_
  obtain ⟨g1, h⟩ := gd_some h
  refine j_iastore (N := 200) C (rfl) (inb_in g1) dX12_holds_9 ?_
  refine j_aload_n C 0 dX12_holds_10 rfl ?_
  refine j_dup C dX12_holds_11 rfl ?_
  refine j_geti (o := 0) (j := 25) C inT12 (ci := 11) rfl (by decide) (rfl) rfl rfl wd_1124 dX12_holds_12 ?_
  refine j_iconst (v := 1) C dX12_holds_15 (by decide) ?_
  refine j_iadd C dX12_holds_16 ?_
  refine j_puti (o := 0) (j := 25) C inT12 tyX12_ok nmX12 (ci := 11) rfl (by decide) (rfl) rfl rfl rfl (tyX12_ok 25 (by decide)) rfl rfl wd_1124 dX12_holds_17 ?_
  obtain ⟨-, hs⟩ := s2_inj h
  subst hs
  exact j_vret C e dX12_holds_20
set_option maxRecDepth 10000 in
theorem c12_opensOne (l : Launch) {α : WA}  {a1 : Int32} {σ σ' : M2} {v : Int32}  (h : F12_opensOne a1 σ = some (v, σ')) : Ct l (ωM α) yX12_opensOne cX12_opensOne 2 (some FieldType.boolean) 2 [.ref (wad (ωM α) 0), .int a1] σ (some (.int v)) σ' := by
  unfold F12_opensOne at h
  refine Ct.of (own := "EveryoneWinsModel") (L := [(0, .ref (wad (ωM α) 0)), (1, .int a1)]) (by decide +kernel) rfl rfl rfl (fun κ hl e C => ?_)
  show J (ωM α) κ 2 2 0 [(0, .ref (wad (ωM α) 0)), (1, .int a1)] [] σ
  refine j_aload_n C 0 dX12_opensOne_0 rfl ?_
  refine j_geti (o := 0) (j := 26) C inT12 (ci := 11) rfl (by decide) (rfl) rfl rfl wd_1125 dX12_opensOne_1 ?_
  refine j_iconst (v := 5) C dX12_opensOne_4 (by decide) ?_
  refine j_icmp_ne (tgt := 10) C dX12_opensOne_5 (by decide) (fun c1 => ?_) (fun c1 => ?_)
  · replace h := ie c1 h
    refine j_aload_n C 0 dX12_opensOne_10 rfl ?_
    refine j_dup C dX12_opensOne_11 rfl ?_
    refine j_geti (o := 0) (j := 26) C inT12 (ci := 11) rfl (by decide) (rfl) rfl rfl wd_1125 dX12_opensOne_12 ?_
    refine j_iconst (v := 1) C dX12_opensOne_15 (by decide) ?_
    refine j_iadd C dX12_opensOne_16 ?_
    refine j_puti (o := 0) (j := 26) C inT12 tyX12_ok nmX12 (ci := 11) rfl (by decide) (rfl) rfl rfl rfl (tyX12_ok 26 (by decide)) rfl rfl wd_1125 dX12_opensOne_17 ?_
    refine j_aload_n C 0 dX12_opensOne_20 rfl ?_
    refine j_iload_n C 1 dX12_opensOne_21 rfl ?_
    obtain ⟨r2, s3, hc4, h⟩ := bnd_some h
    refine k_V (v := none) C vb_X12_holds (ci := 11) (T := TX12) (N := 45) rfl (by decide) (c12_holds _ hc4) rfl (by decide) wd_1087 (rfl) rfl dX12_opensOne_22 ?_
    show J (ωM α) κ _ _ 25 _ [] s3
    refine j_iconst (v := 1) C dX12_opensOne_25 (by decide) ?_
    obtain ⟨hv, hs⟩ := s2_inj h
    subst hv
    subst hs
    exact j_zret C e rfl dX12_opensOne_26
  · replace h := it c1 h
    refine j_iconst (v := 0) C dX12_opensOne_8 (by decide) ?_
    obtain ⟨hv, hs⟩ := s2_inj h
    subst hv
    subst hs
    exact j_zret C e rfl dX12_opensOne_9
set_option maxRecDepth 10000 in
theorem b12_between_55 {α : WA} {κ : KT} {fu : Nat} {v : Int32} {σ' : M2} {x1 : Int32} (C : Cx (ωM α) κ cX12_between 2 "EveryoneWinsModel" (some FieldType.boolean)) (e : κ.2.2.2.2.2.2.2.2.2 = (some (.int v), σ'))  {σ : M2} (h : F12_between_55 fu x1 σ = some (v, σ')) : J (ωM α) κ 3 2 55 [(0, .ref (wad (ωM α) 0)), (1, .int x1)] [] σ := by
  unfold F12_between_55 at h
  refine j_aload_n C 0 dX12_between_55 rfl ?_
  refine j_iload_n C 1 dX12_between_56 rfl ?_
  obtain ⟨r1, s2, hc3, h⟩ := bnd_some h
  refine k_V (v := none) C vb_X12_holds (ci := 11) (T := TX12) (N := 45) rfl (by decide) (c12_holds _ hc3) rfl (by decide) wd_1087 (rfl) rfl dX12_between_57 ?_
  show J (ωM α) κ _ _ 60 _ [] s2
  refine j_iconst (v := 1) C dX12_between_60 (by decide) ?_
  obtain ⟨hv, hs⟩ := s2_inj h
  subst hv
  subst hs
  exact j_zret C e rfl dX12_between_61
set_option maxRecDepth 10000 in
theorem b12_between_17 {α : WA} {κ : KT} {fu : Nat} {v : Int32} {σ' : M2} {x1 : Int32} {y0 : Int32} (C : Cx (ωM α) κ cX12_between 2 "EveryoneWinsModel" (some FieldType.boolean)) (e : κ.2.2.2.2.2.2.2.2.2 = (some (.int v), σ'))  {σ : M2} (h : F12_between_17 fu x1 y0 σ = some (v, σ')) : J (ωM α) κ 3 2 17 [(0, .ref (wad (ωM α) 0)), (1, .int x1)] [.int y0, .ref (wad (ωM α) 0)] σ := by
  unfold F12_between_17 at h
  obtain ⟨r1, s2, hc3, h⟩ := bnd_some h
  refine k_V (v := none) C vb_X12_unwinds (ci := 11) (T := TX12) (N := 45) rfl (by decide) (c12_unwinds _ hc3) rfl (by decide) wd_1076 (rfl) rfl dX12_between_17 ?_
  show J (ωM α) κ _ _ 20 _ [] s2
  refine j_iload_n C 1 dX12_between_20 rfl ?_
  obtain ⟨r4, s5, hc6, h⟩ := bnd_some h
  refine k_S (v := some (.int r4)) C sb_X12_rank (c12_rank _ hc6) rfl (by decide) wd_1080 rfl dX12_between_21 ?_
  show J (ωM α) κ _ _ 24 _ [.int r4] s5
  refine j_iconst (v := 4) C dX12_between_24 (by decide) ?_
  refine j_icmp_ne (tgt := 55) C dX12_between_25 (by decide) (fun c7 => ?_) (fun c7 => ?_)
  · replace h := ie c7 h
    exact (b12_between_55 C e h)
  · replace h := it c7 h
    refine j_aload_n C 0 dX12_between_28 rfl ?_
    refine j_geti (o := 0) (j := 25) C inT12 (ci := 11) rfl (by decide) (rfl) rfl rfl wd_1124 dX12_between_29 ?_
    refine j_if_le (tgt := 55) C dX12_between_32 (by decide) (fun c8 => ?_) (fun c8 => ?_)
    · replace h := it c8 h
      exact (b12_between_55 C e h)
    · replace h := ie c8 h
      refine j_aload_n C 0 dX12_between_35 rfl ?_
      refine j_getr (o := 0) (j := 24) C inT12 (ci := 11) rfl (by decide) (rfl) rfl rfl wd_1123 dX12_between_36 (o' := 15) rfl ?_
      refine j_aload_n C 0 dX12_between_39 rfl ?_
      refine j_geti (o := 0) (j := 25) C inT12 (ci := 11) rfl (by decide) (rfl) rfl rfl wd_1124 dX12_between_40 ?_
      refine j_iconst (v := 1) C dX12_between_43 (by decide) ?_
      refine j_isub C dX12_between_44 ?_
      obtain ⟨g9, h⟩ := gd_some h
      refine j_iaload (N := 200) C (rfl) (inb_in g9) dX12_between_45 ?_
      obtain ⟨r10, s11, hc12, h⟩ := bnd_some h
      refine k_S (v := some (.int r10)) C sb_X12_rank (c12_rank _ hc12) rfl (by decide) wd_1080 rfl dX12_between_46 ?_
      show J (ωM α) κ _ _ 49 _ [.int r10] s11
      refine j_iconst (v := 4) C dX12_between_49 (by decide) ?_
      refine j_icmp_ne (tgt := 55) C dX12_between_50 (by decide) (fun c13 => ?_) (fun c13 => ?_)
      · replace h := ie c13 h
        exact (b12_between_55 C e h)
      · replace h := it c13 h
        refine j_iconst (v := 0) C dX12_between_53 (by decide) ?_
        obtain ⟨hv, hs⟩ := s2_inj h
        subst hv
        subst hs
        exact j_zret C e rfl dX12_between_54
set_option maxRecDepth 10000 in
theorem c12_between (l : Launch) {α : WA} {fu : Nat} {a1 : Int32} {σ σ' : M2} {v : Int32}  (h : F12_between fu a1 σ = some (v, σ')) : Ct l (ωM α) yX12_between cX12_between 2 (some FieldType.boolean) 3 [.ref (wad (ωM α) 0), .int a1] σ (some (.int v)) σ' := by
  unfold F12_between at h
  refine Ct.of (own := "EveryoneWinsModel") (L := [(0, .ref (wad (ωM α) 0)), (1, .int a1)]) (by decide +kernel) rfl rfl rfl (fun κ hl e C => ?_)
  show J (ωM α) κ 3 2 0 [(0, .ref (wad (ωM α) 0)), (1, .int a1)] [] σ
  refine j_aload_n C 0 dX12_between_0 rfl ?_
  refine j_iload_n C 1 dX12_between_1 rfl ?_
  obtain ⟨r1, s2, hc3, h⟩ := bnd_some h
  refine k_S (v := some (.int r1)) C sb_X12_rank (c12_rank _ hc3) rfl (by decide) wd_1080 rfl dX12_between_2 ?_
  show J (ωM α) κ _ _ 5 _ [.int r1, .ref (wad (ωM α) 0)] s2
  refine j_iconst (v := 4) C dX12_between_5 (by decide) ?_
  refine j_icmp_ne (tgt := 13) C dX12_between_6 (by decide) (fun c4 => ?_) (fun c4 => ?_)
  · replace h := ie c4 h
    refine j_iload_n C 1 dX12_between_13 rfl ?_
    obtain ⟨r5, s6, hc7, h⟩ := bnd_some h
    refine k_S (v := some (.int r5)) C sb_X12_rank (c12_rank _ hc7) rfl (by decide) wd_1080 rfl dX12_between_14 ?_
    show J (ωM α) κ _ _ 17 _ [.int r5, .ref (wad (ωM α) 0)] s6
    exact (b12_between_17 C e h)
  · replace h := it c4 h
    refine j_iconst (v := 5) C dX12_between_9 (by decide) ?_
    refine j_goto (tgt := 17) C dX12_between_10 (by decide) ?_
    exact (b12_between_17 C e h)
set_option maxRecDepth 10000 in
theorem c12_signOf (l : Launch) {α : WA}   {σ σ' : M2} {v : Int32}  (h : F12_signOf  σ = some (v, σ')) : Ct l (ωM α) yX12_signOf cX12_signOf 1 (some FieldType.int) 1 [.ref (wad (ωM α) 0)] σ (some (.int v)) σ' := by
  unfold F12_signOf at h
  refine Ct.of (own := "EveryoneWinsModel") (L := [(0, .ref (wad (ωM α) 0))]) (by decide +kernel) rfl rfl rfl (fun κ hl e C => ?_)
  show J (ωM α) κ 1 1 0 [(0, .ref (wad (ωM α) 0))] [] σ
  refine j_aload_n C 0 dX12_signOf_0 rfl ?_
  refine j_geti (o := 0) (j := 21) C inT12 (ci := 11) rfl (by decide) (rfl) rfl rfl wd_1120 dX12_signOf_1 ?_
  refine j_iconst (v := 4) C dX12_signOf_4 (by decide) ?_
  refine j_icmp_ne (tgt := 13) C dX12_signOf_5 (by decide) (fun c1 => ?_) (fun c1 => ?_)
  · replace h := ie c1 h
    refine j_aload_n C 0 dX12_signOf_13 rfl ?_
    refine j_geti (o := 0) (j := 21) C inT12 (ci := 11) rfl (by decide) (rfl) rfl rfl wd_1120 dX12_signOf_14 ?_
    refine j_iconst (v := 5) C dX12_signOf_17 (by decide) ?_
    refine j_icmp_ne (tgt := 26) C dX12_signOf_18 (by decide) (fun c2 => ?_) (fun c2 => ?_)
    · replace h := ie c2 h
      refine j_aload_n C 0 dX12_signOf_26 rfl ?_
      refine j_geti (o := 0) (j := 21) C inT12 (ci := 11) rfl (by decide) (rfl) rfl rfl wd_1120 dX12_signOf_27 ?_
      refine j_bipush (v := 60) C dX12_signOf_30 (by decide) ?_
      refine j_icmp_ne (tgt := 40) C dX12_signOf_32 (by decide) (fun c3 => ?_) (fun c3 => ?_)
      · replace h := ie c3 h
        refine j_aload_n C 0 dX12_signOf_40 rfl ?_
        refine j_geti (o := 0) (j := 21) C inT12 (ci := 11) rfl (by decide) (rfl) rfl rfl wd_1120 dX12_signOf_41 ?_
        refine j_bipush (v := 61) C dX12_signOf_44 (by decide) ?_
        refine j_icmp_ne (tgt := 54) C dX12_signOf_46 (by decide) (fun c4 => ?_) (fun c4 => ?_)
        · replace h := ie c4 h
          refine j_aload_n C 0 dX12_signOf_54 rfl ?_
          refine j_geti (o := 0) (j := 21) C inT12 (ci := 11) rfl (by decide) (rfl) rfl rfl wd_1120 dX12_signOf_55 ?_
          refine j_bipush (v := 43) C dX12_signOf_58 (by decide) ?_
          refine j_icmp_ne (tgt := 68) C dX12_signOf_60 (by decide) (fun c5 => ?_) (fun c5 => ?_)
          · replace h := ie c5 h
            refine j_aload_n C 0 dX12_signOf_68 rfl ?_
            refine j_geti (o := 0) (j := 21) C inT12 (ci := 11) rfl (by decide) (rfl) rfl rfl wd_1120 dX12_signOf_69 ?_
            refine j_bipush (v := 45) C dX12_signOf_72 (by decide) ?_
            refine j_icmp_ne (tgt := 82) C dX12_signOf_74 (by decide) (fun c6 => ?_) (fun c6 => ?_)
            · replace h := ie c6 h
              refine j_aload_n C 0 dX12_signOf_82 rfl ?_
              refine j_geti (o := 0) (j := 21) C inT12 (ci := 11) rfl (by decide) (rfl) rfl rfl wd_1120 dX12_signOf_83 ?_
              refine j_bipush (v := 42) C dX12_signOf_86 (by decide) ?_
              refine j_icmp_ne (tgt := 96) C dX12_signOf_88 (by decide) (fun c7 => ?_) (fun c7 => ?_)
              · replace h := ie c7 h
                refine j_iconst (v := -1) C dX12_signOf_96 (by decide) ?_
                obtain ⟨hv, hs⟩ := s2_inj h
                subst hv
                subst hs
                exact j_iret C e dX12_signOf_97
              · replace h := it c7 h
                refine j_bipush (v := 18) C dX12_signOf_91 (by decide) ?_
                refine j_goto (tgt := 97) C dX12_signOf_93 (by decide) ?_
                obtain ⟨hv, hs⟩ := s2_inj h
                subst hv
                subst hs
                exact j_iret C e dX12_signOf_97
            · replace h := it c6 h
              refine j_bipush (v := 17) C dX12_signOf_77 (by decide) ?_
              refine j_goto (tgt := 97) C dX12_signOf_79 (by decide) ?_
              obtain ⟨hv, hs⟩ := s2_inj h
              subst hv
              subst hs
              exact j_iret C e dX12_signOf_97
          · replace h := it c5 h
            refine j_bipush (v := 16) C dX12_signOf_63 (by decide) ?_
            refine j_goto (tgt := 97) C dX12_signOf_65 (by decide) ?_
            obtain ⟨hv, hs⟩ := s2_inj h
            subst hv
            subst hs
            exact j_iret C e dX12_signOf_97
        · replace h := it c4 h
          refine j_bipush (v := 15) C dX12_signOf_49 (by decide) ?_
          refine j_goto (tgt := 97) C dX12_signOf_51 (by decide) ?_
          obtain ⟨hv, hs⟩ := s2_inj h
          subst hv
          subst hs
          exact j_iret C e dX12_signOf_97
      · replace h := it c3 h
        refine j_bipush (v := 14) C dX12_signOf_35 (by decide) ?_
        refine j_goto (tgt := 97) C dX12_signOf_37 (by decide) ?_
        obtain ⟨hv, hs⟩ := s2_inj h
        subst hv
        subst hs
        exact j_iret C e dX12_signOf_97
    · replace h := it c2 h
      refine j_bipush (v := 12) C dX12_signOf_21 (by decide) ?_
      refine j_goto (tgt := 97) C dX12_signOf_23 (by decide) ?_
      obtain ⟨hv, hs⟩ := s2_inj h
      subst hv
      subst hs
      exact j_iret C e dX12_signOf_97
  · replace h := it c1 h
    refine j_bipush (v := 11) C dX12_signOf_8 (by decide) ?_
    refine j_goto (tgt := 97) C dX12_signOf_10 (by decide) ?_
    obtain ⟨hv, hs⟩ := s2_inj h
    subst hv
    subst hs
    exact j_iret C e dX12_signOf_97
set_option maxRecDepth 10000 in
theorem b12_eRead_262 {α : WA} {κ : KT} {fu : Nat} {v : Int32} {σ' : M2} {x1 : Int32} {y0 : Int32} (C : Cx (ωM α) κ cX12_eRead 4 "EveryoneWinsModel" (some FieldType.boolean)) (e : κ.2.2.2.2.2.2.2.2.2 = (some (.int v), σ')) {k14 : Int32 → Int32 → M2 → Option (Int32 × M2)} (hk14 : ∀ (x1' : Int32) (x2' : Int32) (σ : M2), k14 x1' x2' σ = some (v, σ') → J (ωM α) κ 4 4 14 [(0, .ref (wad (ωM α) 0)), (1, .int x1'), (2, .int x2')] [] σ) {σ : M2} (h : F12_eRead_262 fu k14 x1 y0 σ = some (v, σ')) : J (ωM α) κ 4 4 262 [(0, .ref (wad (ωM α) 0)), (1, .int x1)] [.int y0] σ := by
  unfold F12_eRead_262 at h
  refine j_istore_n (L' := [(2, .int y0), (0, .ref (wad (ωM α) 0)), (1, .int x1)]) C dX12_eRead_262 rfl rfl rfl ?_
  refine j_goto (tgt := 14) C dX12_eRead_263 (by decide) ?_
  exact j_sub [1, 2, 0] rfl (hk14 _ _ _ h)
set_option maxRecDepth 10000 in
theorem b12_eRead_61 {α : WA} {κ : KT} {fu : Nat} {v : Int32} {σ' : M2} {x2 : Int32} {y0 : Int32} (C : Cx (ωM α) κ cX12_eRead 4 "EveryoneWinsModel" (some FieldType.boolean)) (e : κ.2.2.2.2.2.2.2.2.2 = (some (.int v), σ')) {k14 : Int32 → Int32 → M2 → Option (Int32 × M2)} (hk14 : ∀ (x1' : Int32) (x2' : Int32) (σ : M2), k14 x1' x2' σ = some (v, σ') → J (ωM α) κ 4 4 14 [(0, .ref (wad (ωM α) 0)), (1, .int x1'), (2, .int x2')] [] σ) {σ : M2} (h : F12_eRead_61 fu k14 x2 y0 σ = some (v, σ')) : J (ωM α) κ 4 4 61 [(0, .ref (wad (ωM α) 0)), (2, .int x2)] [.int y0, .ref (wad (ωM α) 0)] σ := by
  unfold F12_eRead_61 at h
  obtain ⟨r1, s2, hc3, h⟩ := bnd_some h
  refine k_V (v := none) C vb_X12_puts (ci := 11) (T := TX12) (N := 45) rfl (by decide) (c12_puts _ hc3) rfl (by decide) wd_1072 (rfl) rfl dX12_eRead_61 ?_
  show J (ωM α) κ _ _ 64 _ [] s2
  refine j_aload_n C 0 dX12_eRead_64 rfl ?_
  refine j_bipush (v := 7) C dX12_eRead_65 (by decide) ?_
  obtain ⟨r4, s5, hc6, h⟩ := bnd_some h
  refine k_V (v := none) C vb_X12_unwinds (ci := 11) (T := TX12) (N := 45) rfl (by decide) (c12_unwinds _ hc6) rfl (by decide) wd_1076 (rfl) rfl dX12_eRead_67 ?_
  show J (ωM α) κ _ _ 70 _ [] s5
  refine j_iconst (v := 0) C dX12_eRead_70 (by decide) ?_
  refine j_istore_n (L' := [(1, .int (0 : Int32)), (0, .ref (wad (ωM α) 0)), (2, .int x2)]) C dX12_eRead_71 rfl rfl rfl ?_
  refine j_goto (tgt := 14) C dX12_eRead_72 (by decide) ?_
  exact j_sub [1, 0, 2] rfl (hk14 _ _ _ h)
set_option maxRecDepth 10000 in
theorem b12_eRead_38 {α : WA} {κ : KT} {fu : Nat} {v : Int32} {σ' : M2} {x2 : Int32} (C : Cx (ωM α) κ cX12_eRead 4 "EveryoneWinsModel" (some FieldType.boolean)) (e : κ.2.2.2.2.2.2.2.2.2 = (some (.int v), σ')) {k14 : Int32 → Int32 → M2 → Option (Int32 × M2)} (hk14 : ∀ (x1' : Int32) (x2' : Int32) (σ : M2), k14 x1' x2' σ = some (v, σ') → J (ωM α) κ 4 4 14 [(0, .ref (wad (ωM α) 0)), (1, .int x1'), (2, .int x2')] [] σ) {σ : M2} (h : F12_eRead_38 fu k14 x2 σ = some (v, σ')) : J (ωM α) κ 4 4 38 [(0, .ref (wad (ωM α) 0)), (2, .int x2)] [] σ := by
  unfold F12_eRead_38 at h
  refine j_aload_n C 0 dX12_eRead_38 rfl ?_
  refine j_aload_n C 0 dX12_eRead_39 rfl ?_
  refine j_geti (o := 0) (j := 21) C inT12 (ci := 11) rfl (by decide) (rfl) rfl rfl wd_1120 dX12_eRead_40 ?_
  refine j_iconst (v := 1) C dX12_eRead_43 (by decide) ?_
  refine j_icmp_ne (tgt := 57) C dX12_eRead_44 (by decide) (fun c1 => ?_) (fun c1 => ?_)
  · replace h := ie c1 h
    refine j_aload_n C 0 dX12_eRead_57 rfl ?_
    refine j_geti (o := 0) (j := 22) C inT12 (ci := 11) rfl (by decide) (rfl) rfl rfl wd_1121 dX12_eRead_58 ?_
    exact (b12_eRead_61 C e hk14 h)
  · replace h := it c1 h
    refine j_ldc (v := 100000) C wd_1071 dX12_eRead_47 ?_
    refine j_aload_n C 0 dX12_eRead_49 rfl ?_
    refine j_geti (o := 0) (j := 22) C inT12 (ci := 11) rfl (by decide) (rfl) rfl rfl wd_1121 dX12_eRead_50 ?_
    refine j_iadd C dX12_eRead_53 ?_
    refine j_goto (tgt := 61) C dX12_eRead_54 (by decide) ?_
    exact (b12_eRead_61 C e hk14 h)
set_option maxRecDepth 10000 in
theorem b12_eRead_99 {α : WA} {κ : KT} {fu : Nat} {v : Int32} {σ' : M2} {x1 : Int32} (C : Cx (ωM α) κ cX12_eRead 4 "EveryoneWinsModel" (some FieldType.boolean)) (e : κ.2.2.2.2.2.2.2.2.2 = (some (.int v), σ')) {k14 : Int32 → Int32 → M2 → Option (Int32 × M2)} (hk14 : ∀ (x1' : Int32) (x2' : Int32) (σ : M2), k14 x1' x2' σ = some (v, σ') → J (ωM α) κ 4 4 14 [(0, .ref (wad (ωM α) 0)), (1, .int x1'), (2, .int x2')] [] σ) {σ : M2} (h : F12_eRead_99 fu k14 x1 σ = some (v, σ')) : J (ωM α) κ 4 4 99 [(0, .ref (wad (ωM α) 0)), (1, .int x1)] [] σ := by
  unfold F12_eRead_99 at h
  refine j_aload_n C 0 dX12_eRead_99 rfl ?_
  refine j_geti (o := 0) (j := 21) C inT12 (ci := 11) rfl (by decide) (rfl) rfl rfl wd_1120 dX12_eRead_100 ?_
  refine j_bipush (v := 45) C dX12_eRead_103 (by decide) ?_
  refine j_icmp_ne (tgt := 124) C dX12_eRead_105 (by decide) (fun c1 => ?_) (fun c1 => ?_)
  · replace h := ie c1 h
    refine j_aload_n C 0 dX12_eRead_124 rfl ?_
    refine j_geti (o := 0) (j := 21) C inT12 (ci := 11) rfl (by decide) (rfl) rfl rfl wd_1120 dX12_eRead_125 ?_
    refine j_bipush (v := 40) C dX12_eRead_128 (by decide) ?_
    refine j_icmp_ne (tgt := 148) C dX12_eRead_130 (by decide) (fun c2 => ?_) (fun c2 => ?_)
    · replace h := ie c2 h
      refine j_iconst (v := 0) C dX12_eRead_148 (by decide) ?_
      obtain ⟨hv, hs⟩ := s2_inj h
      subst hv
      subst hs
      exact j_zret C e rfl dX12_eRead_149
    · replace h := it c2 h
      refine j_aload_n C 0 dX12_eRead_133 rfl ?_
      refine j_iconst (v := 0) C dX12_eRead_134 (by decide) ?_
      obtain ⟨r3, s4, hc5, h⟩ := bnd_some h
      refine k_V (v := some (.int r3)) C vb_X12_opensOne (ci := 11) (T := TX12) (N := 45) rfl (by decide) (c12_opensOne _ hc5) rfl (by decide) wd_1083 (rfl) rfl dX12_eRead_135 ?_
      show J (ωM α) κ _ _ 138 _ [.int r3] s4
      refine j_if_ne (tgt := 143) C dX12_eRead_138 (by decide) (fun c6 => ?_) (fun c6 => ?_)
      · replace h := ie c6 h
        refine j_iconst (v := 1) C dX12_eRead_143 (by decide) ?_
        refine j_istore_n (L' := [(2, .int (1 : Int32)), (0, .ref (wad (ωM α) 0)), (1, .int x1)]) C dX12_eRead_144 rfl rfl rfl ?_
        refine j_goto (tgt := 14) C dX12_eRead_145 (by decide) ?_
        exact j_sub [1, 2, 0] rfl (hk14 _ _ _ h)
      · replace h := it c6 h
        refine j_iconst (v := 0) C dX12_eRead_141 (by decide) ?_
        obtain ⟨hv, hs⟩ := s2_inj h
        subst hv
        subst hs
        exact j_zret C e rfl dX12_eRead_142
  · replace h := it c1 h
    refine j_aload_n C 0 dX12_eRead_108 rfl ?_
    refine j_bipush (v := 19) C dX12_eRead_109 (by decide) ?_
    obtain ⟨r7, s8, hc9, h⟩ := bnd_some h
    refine k_V (v := some (.int r7)) C vb_X12_opensOne (ci := 11) (T := TX12) (N := 45) rfl (by decide) (c12_opensOne _ hc9) rfl (by decide) wd_1083 (rfl) rfl dX12_eRead_111 ?_
    show J (ωM α) κ _ _ 114 _ [.int r7] s8
    refine j_if_ne (tgt := 119) C dX12_eRead_114 (by decide) (fun c10 => ?_) (fun c10 => ?_)
    · replace h := ie c10 h
      refine j_iconst (v := 0) C dX12_eRead_119 (by decide) ?_
      refine j_istore_n (L' := [(2, .int (0 : Int32)), (0, .ref (wad (ωM α) 0)), (1, .int x1)]) C dX12_eRead_120 rfl rfl rfl ?_
      refine j_goto (tgt := 14) C dX12_eRead_121 (by decide) ?_
      exact j_sub [1, 2, 0] rfl (hk14 _ _ _ h)
    · replace h := it c10 h
      refine j_iconst (v := 0) C dX12_eRead_117 (by decide) ?_
      obtain ⟨hv, hs⟩ := s2_inj h
      subst hv
      subst hs
      exact j_zret C e rfl dX12_eRead_118
set_option maxRecDepth 10000 in
theorem b12_eRead_14 {α : WA} {κ : KT} {fu : Nat} {v : Int32} {σ' : M2} {x1 : Int32} {x2 : Int32} (C : Cx (ωM α) κ cX12_eRead 4 "EveryoneWinsModel" (some FieldType.boolean)) (e : κ.2.2.2.2.2.2.2.2.2 = (some (.int v), σ'))  {σ : M2} (h : F12_eRead_14 fu x1 x2 σ = some (v, σ')) : J (ωM α) κ 4 4 14 [(0, .ref (wad (ωM α) 0)), (1, .int x1), (2, .int x2)] [] σ := by
  unfold F12_eRead_14 at h
  refine wl2_ind (fun x1 x2 σ => J (ωM α) κ 4 4 14 [(0, .ref (wad (ωM α) 0)), (1, .int x1), (2, .int x2)] [] σ) ?_ fu x1 x2 σ h
  intro k14 hk14 x1 x2 σ h
  try dsimp only at h
  show J (ωM α) κ 4 4 14 [(0, .ref (wad (ωM α) 0)), (1, .int x1), (2, .int x2)] [] σ
  refine j_aload_n C 0 dX12_eRead_14 rfl ?_
  obtain ⟨r1, s2, hc3, h⟩ := bnd_some h
  refine k_V (v := none) C vb_X12_next (ci := 11) (T := TX12) (N := 45) rfl (by decide) (c12_next _ hc3) rfl (by decide) wd_1056 (rfl) rfl dX12_eRead_15 ?_
  show J (ωM α) κ _ _ 18 _ [] s2
  refine j_iload_n C 1 dX12_eRead_18 rfl ?_
  refine j_if_eq (tgt := 150) C dX12_eRead_19 (by decide) (fun c4 => ?_) (fun c4 => ?_)
  · replace h := it c4 h
    refine j_aload_n C 0 dX12_eRead_150 rfl ?_
    refine j_geti (o := 0) (j := 21) C inT12 (ci := 11) rfl (by decide) (rfl) rfl rfl wd_1120 dX12_eRead_151 ?_
    refine j_bipush (v := 59) C dX12_eRead_154 (by decide) ?_
    refine j_icmp_ne (tgt := 177) C dX12_eRead_156 (by decide) (fun c5 => ?_) (fun c5 => ?_)
    · replace h := ie c5 h
      refine j_aload_n C 0 dX12_eRead_177 rfl ?_
      refine j_geti (o := 0) (j := 21) C inT12 (ci := 11) rfl (by decide) (rfl) rfl rfl wd_1120 dX12_eRead_178 ?_
      refine j_bipush (v := 41) C dX12_eRead_181 (by decide) ?_
      refine j_icmp_ne (tgt := 229) C dX12_eRead_183 (by decide) (fun c6 => ?_) (fun c6 => ?_)
      · replace h := ie c6 h
        refine j_aload_n C 0 dX12_eRead_229 rfl ?_
        obtain ⟨r7, s8, hc9, h⟩ := bnd_some h
        refine k_V (v := some (.int r7)) C vb_X12_signOf (ci := 11) (T := TX12) (N := 45) rfl (by decide) (c12_signOf _ hc9) rfl (by decide) wd_1091 (rfl) rfl dX12_eRead_230 ?_
        show J (ωM α) κ _ _ 233 _ [.int r7] s8
        refine j_istore_n (L' := [(3, .int r7), (0, .ref (wad (ωM α) 0)), (1, .int x1), (2, .int x2)]) C dX12_eRead_233 rfl rfl rfl ?_
        refine j_iload_n C 0 dX12_eRead_234 rfl ?_
        refine j_iconst (v := -1) C dX12_eRead_235 (by decide) ?_
        refine j_icmp_eq (tgt := 247) C dX12_eRead_236 (by decide) (fun c10 => ?_) (fun c10 => ?_)
        · replace h := it c10 h
          refine j_iconst (v := 0) C dX12_eRead_247 (by decide) ?_
          obtain ⟨hv, hs⟩ := s2_inj h
          subst hv
          subst hs
          exact j_zret C e rfl dX12_eRead_248
        · replace h := ie c10 h
          refine j_aload_n C 1 dX12_eRead_239 rfl ?_
          refine j_iload_n C 0 dX12_eRead_240 rfl ?_
          obtain ⟨r11, s12, hc13, h⟩ := bnd_some h
          refine k_V (v := some (.int r11)) C vb_X12_between (ci := 11) (T := TX12) (N := 45) rfl (by decide) (c12_between _ hc13) rfl (by decide) wd_1095 (rfl) rfl dX12_eRead_241 ?_
          show J (ωM α) κ _ _ 244 _ [.int r11] s12
          refine j_if_ne (tgt := 249) C dX12_eRead_244 (by decide) (fun c14 => ?_) (fun c14 => ?_)
          · replace h := ie c14 h
            refine j_iconst (v := 1) C dX12_eRead_249 (by decide) ?_
            refine j_istore_n (L' := [(1, .int (1 : Int32)), (3, .int r7), (0, .ref (wad (ωM α) 0)), (2, .int x2)]) C dX12_eRead_250 rfl rfl rfl ?_
            refine j_iload_n C 1 dX12_eRead_251 rfl ?_
            refine j_bipush (v := 12) C dX12_eRead_252 (by decide) ?_
            refine j_icmp_gt (tgt := 261) C dX12_eRead_254 (by decide) (fun c15 => ?_) (fun c15 => ?_)
            · replace h := it c15 h
              refine j_iconst (v := 0) C dX12_eRead_261 (by decide) ?_
              exact j_sub [2, 0] rfl (b12_eRead_262 C e hk14 h)
            · replace h := ie c15 h
              refine j_iconst (v := 1) C dX12_eRead_257 (by decide) ?_
              refine j_goto (tgt := 262) C dX12_eRead_258 (by decide) ?_
              exact j_sub [2, 0] rfl (b12_eRead_262 C e hk14 h)
          · replace h := it c14 h
            refine j_iconst (v := 0) C dX12_eRead_247 (by decide) ?_
            obtain ⟨hv, hs⟩ := s2_inj h
            subst hv
            subst hs
            exact j_zret C e rfl dX12_eRead_248
      · replace h := it c6 h
        refine j_aload_n C 0 dX12_eRead_186 rfl ?_
        refine j_iconst (v := 1) C dX12_eRead_187 (by decide) ?_
        obtain ⟨r16, s17, hc18, h⟩ := bnd_some h
        refine k_V (v := none) C vb_X12_unwinds (ci := 11) (T := TX12) (N := 45) rfl (by decide) (c12_unwinds _ hc18) rfl (by decide) wd_1076 (rfl) rfl dX12_eRead_188 ?_
        show J (ωM α) κ _ _ 191 _ [] s17
        refine j_aload_n C 0 dX12_eRead_191 rfl ?_
        refine j_geti (o := 0) (j := 25) C inT12 (ci := 11) rfl (by decide) (rfl) rfl rfl wd_1124 dX12_eRead_192 ?_
        refine j_if_ne (tgt := 200) C dX12_eRead_195 (by decide) (fun c19 => ?_) (fun c19 => ?_)
        · replace h := ie c19 h
          refine j_aload_n C 0 dX12_eRead_200 rfl ?_
          refine j_dup C dX12_eRead_201 rfl ?_
          refine j_geti (o := 0) (j := 25) C inT12 (ci := 11) rfl (by decide) (rfl) rfl rfl wd_1124 dX12_eRead_202 ?_
          refine j_iconst (v := 1) C dX12_eRead_205 (by decide) ?_
          refine j_isub C dX12_eRead_206 ?_
          refine j_puti (o := 0) (j := 25) C inT12 tyX12_ok nmX12 (ci := 11) rfl (by decide) (rfl) rfl rfl rfl (tyX12_ok 25 (by decide)) rfl rfl wd_1124 dX12_eRead_207 ?_
          refine j_aload_n C 0 dX12_eRead_210 rfl ?_
          refine j_dup C dX12_eRead_211 rfl ?_
          refine j_geti (o := 0) (j := 26) C inT12 (ci := 11) rfl (by decide) (rfl) rfl rfl wd_1125 dX12_eRead_212 ?_
          refine j_iconst (v := 1) C dX12_eRead_215 (by decide) ?_
          refine j_isub C dX12_eRead_216 ?_
          refine j_puti (o := 0) (j := 26) C inT12 tyX12_ok nmX12 (ci := 11) rfl (by decide) (rfl) rfl rfl rfl (tyX12_ok 26 (by decide)) rfl rfl wd_1125 dX12_eRead_217 ?_
          refine j_aload_n C 0 dX12_eRead_220 rfl ?_
          refine j_bipush (v := 7) C dX12_eRead_221 (by decide) ?_
          obtain ⟨r20, s21, hc22, h⟩ := bnd_some h
          refine k_V (v := none) C vb_X12_unwinds (ci := 11) (T := TX12) (N := 45) rfl (by decide) (c12_unwinds _ hc22) rfl (by decide) wd_1076 (rfl) rfl dX12_eRead_223 ?_
          show J (ωM α) κ _ _ 226 _ [] s21
          refine j_goto (tgt := 14) C dX12_eRead_226 (by decide) ?_
          exact (hk14 _ _ _ h)
        · replace h := it c19 h
          refine j_iconst (v := 0) C dX12_eRead_198 (by decide) ?_
          obtain ⟨hv, hs⟩ := s2_inj h
          subst hv
          subst hs
          exact j_zret C e rfl dX12_eRead_199
    · replace h := it c5 h
      refine j_aload_n C 0 dX12_eRead_159 rfl ?_
      refine j_iconst (v := 1) C dX12_eRead_160 (by decide) ?_
      obtain ⟨r23, s24, hc25, h⟩ := bnd_some h
      refine k_V (v := none) C vb_X12_unwinds (ci := 11) (T := TX12) (N := 45) rfl (by decide) (c12_unwinds _ hc25) rfl (by decide) wd_1076 (rfl) rfl dX12_eRead_161 ?_
      show J (ωM α) κ _ _ 164 _ [] s24
      refine j_aload_n C 0 dX12_eRead_164 rfl ?_
      refine j_geti (o := 0) (j := 25) C inT12 (ci := 11) rfl (by decide) (rfl) rfl rfl wd_1124 dX12_eRead_165 ?_
      refine j_if_ne (tgt := 175) C dX12_eRead_168 (by decide) (fun c26 => ?_) (fun c26 => ?_)
      · replace h := ie c26 h
        refine j_iconst (v := 0) C dX12_eRead_175 (by decide) ?_
        obtain ⟨hv, hs⟩ := s2_inj h
        subst hv
        subst hs
        exact j_zret C e rfl dX12_eRead_176
      · replace h := it c26 h
        refine j_iconst (v := 1) C dX12_eRead_171 (by decide) ?_
        refine j_goto (tgt := 176) C dX12_eRead_172 (by decide) ?_
        obtain ⟨hv, hs⟩ := s2_inj h
        subst hv
        subst hs
        exact j_zret C e rfl dX12_eRead_176
  · replace h := ie c4 h
    refine j_aload_n C 0 dX12_eRead_22 rfl ?_
    refine j_geti (o := 0) (j := 21) C inT12 (ci := 11) rfl (by decide) (rfl) rfl rfl wd_1120 dX12_eRead_23 ?_
    refine j_iconst (v := 1) C dX12_eRead_26 (by decide) ?_
    refine j_icmp_eq (tgt := 38) C dX12_eRead_27 (by decide) (fun c27 => ?_) (fun c27 => ?_)
    · replace h := it c27 h
      exact j_sub [0, 2] rfl (b12_eRead_38 C e hk14 h)
    · replace h := ie c27 h
      refine j_aload_n C 0 dX12_eRead_30 rfl ?_
      refine j_geti (o := 0) (j := 21) C inT12 (ci := 11) rfl (by decide) (rfl) rfl rfl wd_1120 dX12_eRead_31 ?_
      refine j_iconst (v := 2) C dX12_eRead_34 (by decide) ?_
      refine j_icmp_ne (tgt := 75) C dX12_eRead_35 (by decide) (fun c28 => ?_) (fun c28 => ?_)
      · replace h := ie c28 h
        refine j_aload_n C 0 dX12_eRead_75 rfl ?_
        refine j_geti (o := 0) (j := 21) C inT12 (ci := 11) rfl (by decide) (rfl) rfl rfl wd_1120 dX12_eRead_76 ?_
        refine j_bipush (v := 6) C dX12_eRead_79 (by decide) ?_
        refine j_icmp_ne (tgt := 99) C dX12_eRead_81 (by decide) (fun c29 => ?_) (fun c29 => ?_)
        · replace h := ie c29 h
          exact j_sub [0, 1] rfl (b12_eRead_99 C e hk14 h)
        · replace h := it c29 h
          refine j_iload_n C 2 dX12_eRead_84 rfl ?_
          refine j_if_eq (tgt := 99) C dX12_eRead_85 (by decide) (fun c30 => ?_) (fun c30 => ?_)
          · replace h := it c30 h
            exact j_sub [0, 1] rfl (b12_eRead_99 C e hk14 h)
          · replace h := ie c30 h
            refine j_aload_n C 0 dX12_eRead_88 rfl ?_
            refine j_bipush (v := 13) C dX12_eRead_89 (by decide) ?_
            obtain ⟨r31, s32, hc33, h⟩ := bnd_some h
            refine k_V (v := some (.int r31)) C vb_X12_opensOne (ci := 11) (T := TX12) (N := 45) rfl (by decide) (c12_opensOne _ hc33) rfl (by decide) wd_1083 (rfl) rfl dX12_eRead_91 ?_
            show J (ωM α) κ _ _ 94 _ [.int r31] s32
            refine j_if_ne (tgt := 14) C dX12_eRead_94 (by decide) (fun c34 => ?_) (fun c34 => ?_)
            · replace h := ie c34 h
              exact (hk14 _ _ _ h)
            · replace h := it c34 h
              refine j_iconst (v := 0) C dX12_eRead_97 (by decide) ?_
              obtain ⟨hv, hs⟩ := s2_inj h
              subst hv
              subst hs
              exact j_zret C e rfl dX12_eRead_98
      · replace h := it c28 h
        exact j_sub [0, 2] rfl (b12_eRead_38 C e hk14 h)
set_option maxRecDepth 10000 in
theorem c12_eRead (l : Launch) {α : WA} {fu : Nat}  {σ σ' : M2} {v : Int32}  (h : F12_eRead fu σ = some (v, σ')) : Ct l (ωM α) yX12_eRead cX12_eRead 4 (some FieldType.boolean) 4 [.ref (wad (ωM α) 0)] σ (some (.int v)) σ' := by
  unfold F12_eRead at h
  refine Ct.of (own := "EveryoneWinsModel") (L := [(0, .ref (wad (ωM α) 0))]) (by decide +kernel) rfl rfl rfl (fun κ hl e C => ?_)
  show J (ωM α) κ 4 4 0 [(0, .ref (wad (ωM α) 0))] [] σ
  refine j_aload_n C 0 dX12_eRead_0 rfl ?_
  refine j_iconst (v := 0) C dX12_eRead_1 (by decide) ?_
  refine j_puti (o := 0) (j := 25) C inT12 tyX12_ok nmX12 (ci := 11) rfl (by decide) (rfl) rfl rfl rfl (tyX12_ok 25 (by decide)) rfl rfl wd_1124 dX12_eRead_2 ?_
  refine j_aload_n C 0 dX12_eRead_5 rfl ?_
  refine j_iconst (v := 0) C dX12_eRead_6 (by decide) ?_
  refine j_puti (o := 0) (j := 26) C inT12 tyX12_ok nmX12 (ci := 11) rfl (by decide) (rfl) rfl rfl rfl (tyX12_ok 26 (by decide)) rfl rfl wd_1125 dX12_eRead_7 ?_
  refine j_iconst (v := 1) C dX12_eRead_10 (by decide) ?_
  refine j_istore_n (L' := [(1, .int (1 : Int32)), (0, .ref (wad (ωM α) 0))]) C dX12_eRead_11 rfl rfl rfl ?_
  refine j_iconst (v := 1) C dX12_eRead_12 (by decide) ?_
  refine j_istore_n (L' := [(2, .int (1 : Int32)), (1, .int (1 : Int32)), (0, .ref (wad (ωM α) 0))]) C dX12_eRead_13 rfl rfl rfl ?_
  exact j_sub [2, 1, 0] rfl (b12_eRead_14 C e h)
set_option maxRecDepth 10000 in
theorem b12_text_122 {α : WA} {κ : KT} {fu : Nat} {v : Int32} {σ' : M2} {x1 : Int32} (C : Cx (ωM α) κ cX12_text 3 "EveryoneWinsModel" (some FieldType.int)) (e : κ.2.2.2.2.2.2.2.2.2 = (some (.int v), σ'))  {σ : M2} (h : F12_text_122 fu x1 σ = some (v, σ')) : J (ωM α) κ 5 3 122 [(0, .ref (wad (ωM α) 0)), (1, .int x1)] [] σ := by
  unfold F12_text_122 at h
  refine j_aload_n C 0 dX12_text_122 rfl ?_
  refine j_getr (o := 0) (j := 9) C inT12 (ci := 11) rfl (by decide) (rfl) rfl rfl wd_1108 dX12_text_123 (o' := 7) rfl ?_
  refine j_iconst (v := 4) C dX12_text_126 (by decide) ?_
  refine j_aload_n C 0 dX12_text_127 rfl ?_
  refine j_geti (o := 0) (j := 10) C inT12 (ci := 11) rfl (by decide) (rfl) rfl rfl wd_1109 dX12_text_128 ?_
  refine j_imul C dX12_text_131 ?_
  refine j_iconst (v := 3) C dX12_text_132 (by decide) ?_
  refine j_iadd C dX12_text_133 ?_
  refine j_aload_n C 0 dX12_text_134 rfl ?_
  refine j_geti (o := 0) (j := 27) C inT12 (ci := 11) rfl (by decide) (rfl) rfl rfl wd_1126 dX12_text_135 ?_
  obtain ⟨g1, h⟩ := gd_some h
  refine j_iastore (N := 24) C (rfl) (inb_in g1) dX12_text_138 ?_
  refine j_aload_n C 0 dX12_text_139 rfl ?_
  refine j_iconst (v := 0) C dX12_text_140 (by decide) ?_
  refine j_puti (o := 0) (j := 7) C inT12 tyX12_ok nmX12 (ci := 11) rfl (by decide) (rfl) rfl rfl rfl (tyX12_ok 7 (by decide)) rfl rfl wd_1106 dX12_text_141 ?_
  refine j_iload_n C 1 dX12_text_144 rfl ?_
  refine j_if_ne (tgt := 156) C dX12_text_145 (by decide) (fun c2 => ?_) (fun c2 => ?_)
  · replace h := ie c2 h
    refine j_aload_n C 0 dX12_text_156 rfl ?_
    refine j_dup C dX12_text_157 rfl ?_
    refine j_geti (o := 0) (j := 10) C inT12 (ci := 11) rfl (by decide) (rfl) rfl rfl wd_1109 dX12_text_158 ?_
    refine j_iconst (v := 1) C dX12_text_161 (by decide) ?_
    refine j_iadd C dX12_text_162 ?_
    refine j_puti (o := 0) (j := 10) C inT12 tyX12_ok nmX12 (ci := 11) rfl (by decide) (rfl) rfl rfl rfl (tyX12_ok 10 (by decide)) rfl rfl wd_1109 dX12_text_163 ?_
    refine j_aload_n C 0 dX12_text_166 rfl ?_
    refine j_geti (o := 0) (j := 10) C inT12 (ci := 11) rfl (by decide) (rfl) rfl rfl wd_1109 dX12_text_167 ?_
    refine j_iconst (v := 1) C dX12_text_170 (by decide) ?_
    refine j_isub C dX12_text_171 ?_
    obtain ⟨hv, hs⟩ := s2_inj h
    subst hv
    subst hs
    exact j_iret C e dX12_text_172
  · replace h := it c2 h
    refine j_bipush (v := -100) C dX12_text_148 (by decide) ?_
    refine j_aload_n C 0 dX12_text_150 rfl ?_
    refine j_geti (o := 0) (j := 20) C inT12 (ci := 11) rfl (by decide) (rfl) rfl rfl wd_1119 dX12_text_151 ?_
    refine j_isub C dX12_text_154 ?_
    obtain ⟨hv, hs⟩ := s2_inj h
    subst hv
    subst hs
    exact j_iret C e dX12_text_155
set_option maxRecDepth 10000 in
theorem b12_text_121 {α : WA} {κ : KT} {fu : Nat} {v : Int32} {σ' : M2} {y0 : Int32} (C : Cx (ωM α) κ cX12_text 3 "EveryoneWinsModel" (some FieldType.int)) (e : κ.2.2.2.2.2.2.2.2.2 = (some (.int v), σ'))  {σ : M2} (h : F12_text_121 fu y0 σ = some (v, σ')) : J (ωM α) κ 5 3 121 [(0, .ref (wad (ωM α) 0))] [.int y0] σ := by
  unfold F12_text_121 at h
  refine j_istore_n (L' := [(1, .int y0), (0, .ref (wad (ωM α) 0))]) C dX12_text_121 rfl rfl rfl ?_
  exact j_sub [1, 0] rfl (b12_text_122 C e h)
set_option maxRecDepth 10000 in
theorem b12_text_101 {α : WA} {κ : KT} {fu : Nat} {v : Int32} {σ' : M2} {x1 : Int32} (C : Cx (ωM α) κ cX12_text 3 "EveryoneWinsModel" (some FieldType.int)) (e : κ.2.2.2.2.2.2.2.2.2 = (some (.int v), σ'))  {σ : M2} (h : F12_text_101 fu x1 σ = some (v, σ')) : J (ωM α) κ 5 3 101 [(0, .ref (wad (ωM α) 0)), (1, .int x1)] [] σ := by
  unfold F12_text_101 at h
  refine j_iload_n C 1 dX12_text_101 rfl ?_
  refine j_if_eq (tgt := 122) C dX12_text_102 (by decide) (fun c1 => ?_) (fun c1 => ?_)
  · replace h := it c1 h
    exact (b12_text_122 C e h)
  · replace h := ie c1 h
    refine j_aload_n C 0 dX12_text_105 rfl ?_
    obtain ⟨r2, s3, hc4, h⟩ := bnd_some h
    refine k_V (v := none) C vb_X12_next (ci := 11) (T := TX12) (N := 45) rfl (by decide) (c12_next _ hc4) rfl (by decide) wd_1056 (rfl) rfl dX12_text_106 ?_
    show J (ωM α) κ _ _ 109 _ [] s3
    refine j_aload_n C 0 dX12_text_109 rfl ?_
    refine j_geti (o := 0) (j := 21) C inT12 (ci := 11) rfl (by decide) (rfl) rfl rfl wd_1120 dX12_text_110 ?_
    refine j_if_ne (tgt := 120) C dX12_text_113 (by decide) (fun c5 => ?_) (fun c5 => ?_)
    · replace h := ie c5 h
      refine j_iconst (v := 0) C dX12_text_120 (by decide) ?_
      exact j_sub [0] rfl (b12_text_121 C e h)
    · replace h := it c5 h
      refine j_iconst (v := 1) C dX12_text_116 (by decide) ?_
      refine j_goto (tgt := 121) C dX12_text_117 (by decide) ?_
      exact j_sub [0] rfl (b12_text_121 C e h)
set_option maxRecDepth 10000 in
theorem b12_text_94 {α : WA} {κ : KT} {fu : Nat} {v : Int32} {σ' : M2} {x2 : Int32} {y0 : Int32} (C : Cx (ωM α) κ cX12_text 3 "EveryoneWinsModel" (some FieldType.int)) (e : κ.2.2.2.2.2.2.2.2.2 = (some (.int v), σ')) {k26 : Int32 → Int32 → M2 → Option (Int32 × M2)} (hk26 : ∀ (x1' : Int32) (x2' : Int32) (σ : M2), k26 x1' x2' σ = some (v, σ') → J (ωM α) κ 5 3 26 [(0, .ref (wad (ωM α) 0)), (1, .int x1'), (2, .int x2')] [] σ) {σ : M2} (h : F12_text_94 fu k26 x2 y0 σ = some (v, σ')) : J (ωM α) κ 5 3 94 [(0, .ref (wad (ωM α) 0)), (2, .int x2)] [.int y0] σ := by
  unfold F12_text_94 at h
  refine j_istore_n (L' := [(1, .int y0), (0, .ref (wad (ωM α) 0)), (2, .int x2)]) C dX12_text_94 rfl rfl rfl ?_
  refine j_iinc (L' := [(2, .int (x2 + 1)), (1, .int y0), (0, .ref (wad (ωM α) 0))]) C 2 dX12_text_95 rfl rfl rfl rfl ?_
  refine j_goto (tgt := 26) C dX12_text_98 (by decide) ?_
  exact j_sub [2, 1, 0] rfl (hk26 _ _ _ h)
set_option maxRecDepth 10000 in
theorem b12_text_93 {α : WA} {κ : KT} {fu : Nat} {v : Int32} {σ' : M2} {x2 : Int32} (C : Cx (ωM α) κ cX12_text 3 "EveryoneWinsModel" (some FieldType.int)) (e : κ.2.2.2.2.2.2.2.2.2 = (some (.int v), σ')) {k26 : Int32 → Int32 → M2 → Option (Int32 × M2)} (hk26 : ∀ (x1' : Int32) (x2' : Int32) (σ : M2), k26 x1' x2' σ = some (v, σ') → J (ωM α) κ 5 3 26 [(0, .ref (wad (ωM α) 0)), (1, .int x1'), (2, .int x2')] [] σ) {σ : M2} (h : F12_text_93 fu k26 x2 σ = some (v, σ')) : J (ωM α) κ 5 3 93 [(0, .ref (wad (ωM α) 0)), (2, .int x2)] [] σ := by
  unfold F12_text_93 at h
  refine j_iconst (v := 0) C dX12_text_93 (by decide) ?_
  exact (b12_text_94 C e hk26 h)
set_option maxRecDepth 10000 in
theorem b12_text_60 {α : WA} {κ : KT} {fu : Nat} {v : Int32} {σ' : M2} {x2 : Int32} {y0 : Int32} (C : Cx (ωM α) κ cX12_text 3 "EveryoneWinsModel" (some FieldType.int)) (e : κ.2.2.2.2.2.2.2.2.2 = (some (.int v), σ')) {k26 : Int32 → Int32 → M2 → Option (Int32 × M2)} (hk26 : ∀ (x1' : Int32) (x2' : Int32) (σ : M2), k26 x1' x2' σ = some (v, σ') → J (ωM α) κ 5 3 26 [(0, .ref (wad (ωM α) 0)), (1, .int x1'), (2, .int x2')] [] σ) {σ : M2} (h : F12_text_60 fu k26 x2 y0 σ = some (v, σ')) : J (ωM α) κ 5 3 60 [(0, .ref (wad (ωM α) 0)), (2, .int x2)] [.int y0] σ := by
  unfold F12_text_60 at h
  refine j_istore_n (L' := [(1, .int y0), (0, .ref (wad (ωM α) 0)), (2, .int x2)]) C dX12_text_60 rfl rfl rfl ?_
  refine j_aload_n C 1 dX12_text_61 rfl ?_
  refine j_getr (o := 0) (j := 9) C inT12 (ci := 11) rfl (by decide) (rfl) rfl rfl wd_1108 dX12_text_62 (o' := 7) rfl ?_
  refine j_iconst (v := 4) C dX12_text_65 (by decide) ?_
  refine j_aload_n C 1 dX12_text_66 rfl ?_
  refine j_geti (o := 0) (j := 10) C inT12 (ci := 11) rfl (by decide) (rfl) rfl rfl wd_1109 dX12_text_67 ?_
  refine j_imul C dX12_text_70 ?_
  refine j_iload_n C 2 dX12_text_71 rfl ?_
  refine j_iadd C dX12_text_72 ?_
  refine j_aload_n C 1 dX12_text_73 rfl ?_
  refine j_geti (o := 0) (j := 27) C inT12 (ci := 11) rfl (by decide) (rfl) rfl rfl wd_1126 dX12_text_74 ?_
  obtain ⟨g1, h⟩ := gd_some h
  refine j_iastore (N := 24) C (rfl) (inb_in g1) dX12_text_77 ?_
  refine j_iload_n C 0 dX12_text_78 rfl ?_
  refine j_if_eq (tgt := 93) C dX12_text_79 (by decide) (fun c2 => ?_) (fun c2 => ?_)
  · replace h := it c2 h
    exact j_sub [1, 2] rfl (b12_text_93 C e hk26 h)
  · replace h := ie c2 h
    refine j_aload_n C 1 dX12_text_82 rfl ?_
    obtain ⟨r3, s4, hc5, h⟩ := bnd_some h
    refine k_V (v := some (.int r3)) C vb_X12_eRead (ci := 11) (T := TX12) (N := 45) rfl (by decide) (c12_eRead _ hc5) rfl (by decide) wd_1067 (rfl) rfl dX12_text_83 ?_
    show J (ωM α) κ _ _ 86 _ [.int r3] s4
    refine j_if_eq (tgt := 93) C dX12_text_86 (by decide) (fun c6 => ?_) (fun c6 => ?_)
    · replace h := it c6 h
      exact j_sub [1, 2] rfl (b12_text_93 C e hk26 h)
    · replace h := ie c6 h
      refine j_iconst (v := 1) C dX12_text_89 (by decide) ?_
      refine j_goto (tgt := 94) C dX12_text_90 (by decide) ?_
      exact j_sub [1, 2] rfl (b12_text_94 C e hk26 h)
set_option maxRecDepth 10000 in
theorem b12_text_59 {α : WA} {κ : KT} {fu : Nat} {v : Int32} {σ' : M2} {x2 : Int32} (C : Cx (ωM α) κ cX12_text 3 "EveryoneWinsModel" (some FieldType.int)) (e : κ.2.2.2.2.2.2.2.2.2 = (some (.int v), σ')) {k26 : Int32 → Int32 → M2 → Option (Int32 × M2)} (hk26 : ∀ (x1' : Int32) (x2' : Int32) (σ : M2), k26 x1' x2' σ = some (v, σ') → J (ωM α) κ 5 3 26 [(0, .ref (wad (ωM α) 0)), (1, .int x1'), (2, .int x2')] [] σ) {σ : M2} (h : F12_text_59 fu k26 x2 σ = some (v, σ')) : J (ωM α) κ 5 3 59 [(0, .ref (wad (ωM α) 0)), (2, .int x2)] [] σ := by
  unfold F12_text_59 at h
  refine j_iconst (v := 0) C dX12_text_59 (by decide) ?_
  exact (b12_text_60 C e hk26 h)
set_option maxRecDepth 10000 in
theorem b12_text_26 {α : WA} {κ : KT} {fu : Nat} {v : Int32} {σ' : M2} {x1 : Int32} {x2 : Int32} (C : Cx (ωM α) κ cX12_text 3 "EveryoneWinsModel" (some FieldType.int)) (e : κ.2.2.2.2.2.2.2.2.2 = (some (.int v), σ'))  {σ : M2} (h : F12_text_26 fu x1 x2 σ = some (v, σ')) : J (ωM α) κ 5 3 26 [(0, .ref (wad (ωM α) 0)), (1, .int x1), (2, .int x2)] [] σ := by
  unfold F12_text_26 at h
  refine wl2_ind (fun x1 x2 σ => J (ωM α) κ 5 3 26 [(0, .ref (wad (ωM α) 0)), (1, .int x1), (2, .int x2)] [] σ) ?_ fu x1 x2 σ h
  intro k26 hk26 x1 x2 σ h
  try dsimp only at h
  show J (ωM α) κ 5 3 26 [(0, .ref (wad (ωM α) 0)), (1, .int x1), (2, .int x2)] [] σ
  refine j_iload_n C 2 dX12_text_26 rfl ?_
  refine j_iconst (v := 3) C dX12_text_27 (by decide) ?_
  refine j_icmp_ge (tgt := 101) C dX12_text_28 (by decide) (fun c1 => ?_) (fun c1 => ?_)
  · replace h := it c1 h
    exact j_sub [0, 1] rfl (b12_text_101 C e h)
  · replace h := ie c1 h
    refine j_iload_n C 1 dX12_text_31 rfl ?_
    refine j_if_eq (tgt := 101) C dX12_text_32 (by decide) (fun c2 => ?_) (fun c2 => ?_)
    · replace h := it c2 h
      exact j_sub [0, 1] rfl (b12_text_101 C e h)
    · replace h := ie c2 h
      refine j_aload_n C 0 dX12_text_35 rfl ?_
      obtain ⟨r3, s4, hc5, h⟩ := bnd_some h
      refine k_V (v := none) C vb_X12_next (ci := 11) (T := TX12) (N := 45) rfl (by decide) (c12_next _ hc5) rfl (by decide) wd_1056 (rfl) rfl dX12_text_36 ?_
      show J (ωM α) κ _ _ 39 _ [] s4
      refine j_aload_n C 0 dX12_text_39 rfl ?_
      refine j_geti (o := 0) (j := 21) C inT12 (ci := 11) rfl (by decide) (rfl) rfl rfl wd_1120 dX12_text_40 ?_
      refine j_iconst (v := 3) C dX12_text_43 (by decide) ?_
      refine j_icmp_ne (tgt := 59) C dX12_text_44 (by decide) (fun c6 => ?_) (fun c6 => ?_)
      · replace h := ie c6 h
        exact j_sub [0, 2] rfl (b12_text_59 C e hk26 h)
      · replace h := it c6 h
        refine j_aload_n C 0 dX12_text_47 rfl ?_
        refine j_geti (o := 0) (j := 22) C inT12 (ci := 11) rfl (by decide) (rfl) rfl rfl wd_1121 dX12_text_48 ?_
        refine j_iload_n C 2 dX12_text_51 rfl ?_
        refine j_icmp_ne (tgt := 59) C dX12_text_52 (by decide) (fun c7 => ?_) (fun c7 => ?_)
        · replace h := ie c7 h
          exact j_sub [0, 2] rfl (b12_text_59 C e hk26 h)
        · replace h := it c7 h
          refine j_iconst (v := 1) C dX12_text_55 (by decide) ?_
          refine j_goto (tgt := 60) C dX12_text_56 (by decide) ?_
          exact j_sub [0, 2] rfl (b12_text_60 C e hk26 h)
set_option maxRecDepth 10000 in
theorem c12_text (l : Launch) {α : WA} {fu : Nat}  {σ σ' : M2} {v : Int32}  (h : F12_text fu σ = some (v, σ')) : Ct l (ωM α) yX12_text cX12_text 3 (some FieldType.int) 5 [.ref (wad (ωM α) 0)] σ (some (.int v)) σ' := by
  unfold F12_text at h
  refine Ct.of (own := "EveryoneWinsModel") (L := [(0, .ref (wad (ωM α) 0))]) (by decide +kernel) rfl rfl rfl (fun κ hl e C => ?_)
  show J (ωM α) κ 5 3 0 [(0, .ref (wad (ωM α) 0))] [] σ
  refine j_aload_n C 0 dX12_text_0 rfl ?_
  refine j_geti (o := 0) (j := 10) C inT12 (ci := 11) rfl (by decide) (rfl) rfl rfl wd_1109 dX12_text_1 ?_
  refine j_bipush (v := 6) C dX12_text_4 (by decide) ?_
  refine j_icmp_ne (tgt := 12) C dX12_text_6 (by decide) (fun c1 => ?_) (fun c1 => ?_)
  · replace h := ie c1 h
    refine j_aload_n C 0 dX12_text_12 rfl ?_
    refine j_iconst (v := 0) C dX12_text_13 (by decide) ?_
    refine j_puti (o := 0) (j := 19) C inT12 tyX12_ok nmX12 (ci := 11) rfl (by decide) (rfl) rfl rfl rfl (tyX12_ok 19 (by decide)) rfl rfl wd_1118 dX12_text_14 ?_
    refine j_aload_n C 0 dX12_text_17 rfl ?_
    refine j_iconst (v := 0) C dX12_text_18 (by decide) ?_
    refine j_puti (o := 0) (j := 27) C inT12 tyX12_ok nmX12 (ci := 11) rfl (by decide) (rfl) rfl rfl rfl (tyX12_ok 27 (by decide)) rfl rfl wd_1126 dX12_text_19 ?_
    refine j_iconst (v := 1) C dX12_text_22 (by decide) ?_
    refine j_istore_n (L' := [(1, .int (1 : Int32)), (0, .ref (wad (ωM α) 0))]) C dX12_text_23 rfl rfl rfl ?_
    refine j_iconst (v := 0) C dX12_text_24 (by decide) ?_
    refine j_istore_n (L' := [(2, .int (0 : Int32)), (1, .int (1 : Int32)), (0, .ref (wad (ωM α) 0))]) C dX12_text_25 rfl rfl rfl ?_
    exact j_sub [2, 1, 0] rfl (b12_text_26 C e h)
  · replace h := it c1 h
    refine j_bipush (v := -4) C dX12_text_9 (by decide) ?_
    obtain ⟨hv, hs⟩ := s2_inj h
    subst hv
    subst hs
    exact j_iret C e dX12_text_11
set_option maxRecDepth 10000 in
theorem b12_two_102 {α : WA} {κ : KT}  {v : Int32} {σ' : M2} {x1 : Int32} {x2 : Int32} (C : Cx (ωM α) κ cX12_two 3 "EveryoneWinsModel" (some FieldType.int)) (e : κ.2.2.2.2.2.2.2.2.2 = (some (.int v), σ'))  {σ : M2} (h : F12_two_102 x1 x2 σ = some (v, σ')) : J (ωM α) κ 1 3 102 [(1, .int x1), (2, .int x2)] [] σ := by
  unfold F12_two_102 at h
  refine j_iload_n C 0 dX12_two_102 rfl ?_
  refine j_iload_n C 1 dX12_two_103 rfl ?_
  refine j_imul C dX12_two_104 ?_
  obtain ⟨hv, hs⟩ := s2_inj h
  subst hv
  subst hs
  exact j_iret C e dX12_two_105
set_option maxRecDepth 10000 in
theorem c12_two (l : Launch) {α : WA}  {a1 : Int32} {a2 : Int32} {a3 : Int32} {σ σ' : M2} {v : Int32}  (h : F12_two a1 a2 a3 σ = some (v, σ')) : Ct l (ωM α) yX12_two cX12_two 3 (some FieldType.int) 1 [.int a1, .int a2, .int a3] σ (some (.int v)) σ' := by
  unfold F12_two at h
  refine Ct.of (own := "EveryoneWinsModel") (L := [(0, .int a1), (1, .int a2), (2, .int a3)]) (by decide +kernel) rfl rfl rfl (fun κ hl e C => ?_)
  show J (ωM α) κ 1 3 0 [(0, .int a1), (1, .int a2), (2, .int a3)] [] σ
  refine j_iload_n C 0 dX12_two_0 rfl ?_
  by_cases c1 : a1 = (11 : Int32)
  · replace h := it c1 h
    refine j_tabEq (tgt := 44) C dX12_two_1 c1 (by decide) (by decide) rfl (by decide) ?_
    refine j_iload_n C 1 dX12_two_44 rfl ?_
    refine j_if_ne (tgt := 52) C dX12_two_45 (by decide) (fun c2 => ?_) (fun c2 => ?_)
    · replace h := ie c2 h
      refine j_iconst (v := 1) C dX12_two_52 (by decide) ?_
      refine j_goto (tgt := 57) C dX12_two_53 (by decide) ?_
      obtain ⟨hv, hs⟩ := s2_inj h
      subst hv
      subst hs
      exact j_iret C e dX12_two_57
    · replace h := it c2 h
      refine j_iload_n C 2 dX12_two_48 rfl ?_
      refine j_if_eq (tgt := 56) C dX12_two_49 (by decide) (fun c3 => ?_) (fun c3 => ?_)
      · replace h := it c3 h
        refine j_iconst (v := 0) C dX12_two_56 (by decide) ?_
        obtain ⟨hv, hs⟩ := s2_inj h
        subst hv
        subst hs
        exact j_iret C e dX12_two_57
      · replace h := ie c3 h
        refine j_iconst (v := 1) C dX12_two_52 (by decide) ?_
        refine j_goto (tgt := 57) C dX12_two_53 (by decide) ?_
        obtain ⟨hv, hs⟩ := s2_inj h
        subst hv
        subst hs
        exact j_iret C e dX12_two_57
  replace h := ie c1 h
  by_cases c4 : a1 = (12 : Int32)
  · replace h := it c4 h
    refine j_tabEq (tgt := 58) C dX12_two_1 c4 (by decide) (by decide) rfl (by decide) ?_
    refine j_iload_n C 1 dX12_two_58 rfl ?_
    refine j_if_eq (tgt := 70) C dX12_two_59 (by decide) (fun c5 => ?_) (fun c5 => ?_)
    · replace h := it c5 h
      refine j_iconst (v := 0) C dX12_two_70 (by decide) ?_
      obtain ⟨hv, hs⟩ := s2_inj h
      subst hv
      subst hs
      exact j_iret C e dX12_two_71
    · replace h := ie c5 h
      refine j_iload_n C 2 dX12_two_62 rfl ?_
      refine j_if_eq (tgt := 70) C dX12_two_63 (by decide) (fun c6 => ?_) (fun c6 => ?_)
      · replace h := it c6 h
        refine j_iconst (v := 0) C dX12_two_70 (by decide) ?_
        obtain ⟨hv, hs⟩ := s2_inj h
        subst hv
        subst hs
        exact j_iret C e dX12_two_71
      · replace h := ie c6 h
        refine j_iconst (v := 1) C dX12_two_66 (by decide) ?_
        refine j_goto (tgt := 71) C dX12_two_67 (by decide) ?_
        obtain ⟨hv, hs⟩ := s2_inj h
        subst hv
        subst hs
        exact j_iret C e dX12_two_71
  replace h := ie c4 h
  by_cases c7 : a1 = (13 : Int32)
  · replace h := it c7 h
    refine j_tabEq (tgt := 102) C dX12_two_1 c7 (by decide) (by decide) rfl (by decide) ?_
    exact j_sub [1, 2] rfl (b12_two_102 C e h)
  replace h := ie c7 h
  by_cases c8 : a1 = (14 : Int32)
  · replace h := it c8 h
    refine j_tabEq (tgt := 72) C dX12_two_1 c8 (by decide) (by decide) rfl (by decide) ?_
    refine j_iload_n C 1 dX12_two_72 rfl ?_
    refine j_iload_n C 2 dX12_two_73 rfl ?_
    refine j_icmp_ge (tgt := 81) C dX12_two_74 (by decide) (fun c9 => ?_) (fun c9 => ?_)
    · replace h := it c9 h
      refine j_iconst (v := 0) C dX12_two_81 (by decide) ?_
      obtain ⟨hv, hs⟩ := s2_inj h
      subst hv
      subst hs
      exact j_iret C e dX12_two_82
    · replace h := ie c9 h
      refine j_iconst (v := 1) C dX12_two_77 (by decide) ?_
      refine j_goto (tgt := 82) C dX12_two_78 (by decide) ?_
      obtain ⟨hv, hs⟩ := s2_inj h
      subst hv
      subst hs
      exact j_iret C e dX12_two_82
  replace h := ie c8 h
  by_cases c10 : a1 = (15 : Int32)
  · replace h := it c10 h
    refine j_tabEq (tgt := 83) C dX12_two_1 c10 (by decide) (by decide) rfl (by decide) ?_
    refine j_iload_n C 1 dX12_two_83 rfl ?_
    refine j_iload_n C 2 dX12_two_84 rfl ?_
    refine j_icmp_ne (tgt := 92) C dX12_two_85 (by decide) (fun c11 => ?_) (fun c11 => ?_)
    · replace h := ie c11 h
      refine j_iconst (v := 0) C dX12_two_92 (by decide) ?_
      obtain ⟨hv, hs⟩ := s2_inj h
      subst hv
      subst hs
      exact j_iret C e dX12_two_93
    · replace h := it c11 h
      refine j_iconst (v := 1) C dX12_two_88 (by decide) ?_
      refine j_goto (tgt := 93) C dX12_two_89 (by decide) ?_
      obtain ⟨hv, hs⟩ := s2_inj h
      subst hv
      subst hs
      exact j_iret C e dX12_two_93
  replace h := ie c10 h
  by_cases c12 : a1 = (16 : Int32)
  · replace h := it c12 h
    refine j_tabEq (tgt := 94) C dX12_two_1 c12 (by decide) (by decide) rfl (by decide) ?_
    refine j_iload_n C 1 dX12_two_94 rfl ?_
    refine j_iload_n C 2 dX12_two_95 rfl ?_
    refine j_iadd C dX12_two_96 ?_
    obtain ⟨hv, hs⟩ := s2_inj h
    subst hv
    subst hs
    exact j_iret C e dX12_two_97
  replace h := ie c12 h
  by_cases c13 : a1 = (17 : Int32)
  · replace h := it c13 h
    refine j_tabEq (tgt := 98) C dX12_two_1 c13 (by decide) (by decide) rfl (by decide) ?_
    refine j_iload_n C 1 dX12_two_98 rfl ?_
    refine j_iload_n C 2 dX12_two_99 rfl ?_
    refine j_isub C dX12_two_100 ?_
    obtain ⟨hv, hs⟩ := s2_inj h
    subst hv
    subst hs
    exact j_iret C e dX12_two_101
  replace h := ie c13 h
  refine j_tableOut (tgt := 102) C dX12_two_1 (by have q0 := ne_ti c1 (z := 11) (by decide); have q1 := ne_ti c4 (z := 12) (by decide); have q2 := ne_ti c7 (z := 13) (by decide); have q3 := ne_ti c8 (z := 14) (by decide); have q4 := ne_ti c10 (z := 15) (by decide); have q5 := ne_ti c12 (z := 16) (by decide); have q6 := ne_ti c13 (z := 17) (by decide); omega) (by decide) ?_
  exact j_sub [1, 2] rfl (b12_two_102 C e h)
set_option maxRecDepth 10000 in
theorem b12_says_191 {α : WA} {κ : KT} {fu : Nat} {v : Int32} {σ' : M2} {x1 : Int32} {x2 : Int32} {x3 : Int32} (C : Cx (ωM α) κ cX12_says 5 "EveryoneWinsModel" (some FieldType.int)) (e : κ.2.2.2.2.2.2.2.2.2 = (some (.int v), σ')) {k16 : Int32 → Int32 → M2 → Option (Int32 × M2)} (hk16 : ∀ (x2' : Int32) (x3' : Int32) (σ : M2), k16 x2' x3' σ = some (v, σ') → J (ωM α) κ 2 5 16 [(0, .ref (wad (ωM α) 0)), (1, .int x1), (2, .int x2'), (3, .int x3')] [] σ) {σ : M2} (h : F12_says_191 fu k16 x1 x2 x3 σ = some (v, σ')) : J (ωM α) κ 2 5 191 [(0, .ref (wad (ωM α) 0)), (1, .int x1), (2, .int x2), (3, .int x3)] [] σ := by
  unfold F12_says_191 at h
  refine j_iinc (L' := [(3, .int (x3 + 1)), (0, .ref (wad (ωM α) 0)), (1, .int x1), (2, .int x2)]) C 3 dX12_says_191 rfl rfl rfl rfl ?_
  refine j_goto (tgt := 16) C dX12_says_194 (by decide) ?_
  exact j_sub [1, 2, 3, 0] rfl (hk16 _ _ _ h)
set_option maxRecDepth 10000 in
theorem b12_says_93 {α : WA} {κ : KT} {fu : Nat} {v : Int32} {σ' : M2} {x1 : Int32} {x2 : Int32} {x3 : Int32} {y0 : Int32} {y1 : Int32} (C : Cx (ωM α) κ cX12_says 5 "EveryoneWinsModel" (some FieldType.int)) (e : κ.2.2.2.2.2.2.2.2.2 = (some (.int v), σ')) {k16 : Int32 → Int32 → M2 → Option (Int32 × M2)} (hk16 : ∀ (x2' : Int32) (x3' : Int32) (σ : M2), k16 x2' x3' σ = some (v, σ') → J (ωM α) κ 2 5 16 [(0, .ref (wad (ωM α) 0)), (1, .int x1), (2, .int x2'), (3, .int x3')] [] σ) {σ : M2} (h : F12_says_93 fu k16 x1 x2 x3 y0 y1 σ = some (v, σ')) : J (ωM α) κ 2 5 93 [(0, .ref (wad (ωM α) 0)), (1, .int x1), (2, .int x2), (3, .int x3)] [.int y0, .int y1, .ref (wad (ωM α) 16)] σ := by
  unfold F12_says_93 at h
  obtain ⟨g1, h⟩ := gd_some h
  refine j_iastore (N := 200) C (rfl) (inb_in g1) dX12_says_93 ?_
  refine j_iinc (L' := [(2, .int (x2 + 1)), (0, .ref (wad (ωM α) 0)), (1, .int x1), (3, .int x3)]) C 2 dX12_says_94 rfl rfl rfl rfl ?_
  refine j_goto (tgt := 191) C dX12_says_97 (by decide) ?_
  exact j_sub [1, 2, 0, 3] rfl (b12_says_191 C e hk16 h)
set_option maxRecDepth 10000 in
theorem b12_says_66 {α : WA} {κ : KT} {fu : Nat} {v : Int32} {σ' : M2} {x1 : Int32} {x2 : Int32} {x3 : Int32} {x4 : Int32} (C : Cx (ωM α) κ cX12_says 5 "EveryoneWinsModel" (some FieldType.int)) (e : κ.2.2.2.2.2.2.2.2.2 = (some (.int v), σ')) {k16 : Int32 → Int32 → M2 → Option (Int32 × M2)} (hk16 : ∀ (x2' : Int32) (x3' : Int32) (σ : M2), k16 x2' x3' σ = some (v, σ') → J (ωM α) κ 2 5 16 [(0, .ref (wad (ωM α) 0)), (1, .int x1), (2, .int x2'), (3, .int x3')] [] σ) {σ : M2} (h : F12_says_66 fu k16 x1 x2 x3 x4 σ = some (v, σ')) : J (ωM α) κ 2 5 66 [(0, .ref (wad (ωM α) 0)), (1, .int x1), (2, .int x2), (3, .int x3), (4, .int x4)] [] σ := by
  unfold F12_says_66 at h
  refine j_aload_n C 0 dX12_says_66 rfl ?_
  refine j_getr (o := 0) (j := 28) C inT12 (ci := 11) rfl (by decide) (rfl) rfl rfl wd_1127 dX12_says_67 (o' := 16) rfl ?_
  refine j_iload_n C 2 dX12_says_70 rfl ?_
  refine j_iload C 4 dX12_says_71 rfl ?_
  refine j_bipush (v := 11) C dX12_says_73 (by decide) ?_
  refine j_icmp_ge (tgt := 88) C dX12_says_75 (by decide) (fun c1 => ?_) (fun c1 => ?_)
  · replace h := it c1 h
    refine j_iload C 4 dX12_says_88 rfl ?_
    refine j_ldc (v := 100000) C wd_1071 dX12_says_90 ?_
    refine j_isub C dX12_says_92 ?_
    exact j_sub [0, 1, 2, 3] rfl (b12_says_93 C e hk16 h)
  · replace h := ie c1 h
    refine j_aload_n C 0 dX12_says_78 rfl ?_
    refine j_getr (o := 0) (j := 29) C inT12 (ci := 11) rfl (by decide) (rfl) rfl rfl wd_1128 dX12_says_79 (o' := 17) rfl ?_
    refine j_iload C 4 dX12_says_82 rfl ?_
    obtain ⟨g2, h⟩ := gd_some h
    refine j_iaload (N := 6) C (rfl) (inb_in g2) dX12_says_84 ?_
    refine j_goto (tgt := 93) C dX12_says_85 (by decide) ?_
    exact j_sub [0, 1, 2, 3] rfl (b12_says_93 C e hk16 h)
set_option maxRecDepth 10000 in
theorem b12_says_130 {α : WA} {κ : KT} {fu : Nat} {v : Int32} {σ' : M2} {x1 : Int32} {x2 : Int32} {x3 : Int32} {y0 : Int32} {y1 : Int32} (C : Cx (ωM α) κ cX12_says 5 "EveryoneWinsModel" (some FieldType.int)) (e : κ.2.2.2.2.2.2.2.2.2 = (some (.int v), σ')) {k16 : Int32 → Int32 → M2 → Option (Int32 × M2)} (hk16 : ∀ (x2' : Int32) (x3' : Int32) (σ : M2), k16 x2' x3' σ = some (v, σ') → J (ωM α) κ 2 5 16 [(0, .ref (wad (ωM α) 0)), (1, .int x1), (2, .int x2'), (3, .int x3')] [] σ) {σ : M2} (h : F12_says_130 fu k16 x1 x2 x3 y0 y1 σ = some (v, σ')) : J (ωM α) κ 2 5 130 [(0, .ref (wad (ωM α) 0)), (1, .int x1), (2, .int x2), (3, .int x3)] [.int y0, .int y1, .ref (wad (ωM α) 16)] σ := by
  unfold F12_says_130 at h
  obtain ⟨g1, h⟩ := gd_some h
  refine j_iastore (N := 200) C (rfl) (inb_in g1) dX12_says_130 ?_
  refine j_goto (tgt := 191) C dX12_says_131 (by decide) ?_
  exact (b12_says_191 C e hk16 h)
set_option maxRecDepth 10000 in
theorem b12_says_16 {α : WA} {κ : KT} {fu : Nat} {v : Int32} {σ' : M2} {x1 : Int32} {x2 : Int32} {x3 : Int32} (C : Cx (ωM α) κ cX12_says 5 "EveryoneWinsModel" (some FieldType.int)) (e : κ.2.2.2.2.2.2.2.2.2 = (some (.int v), σ'))  {σ : M2} (h : F12_says_16 fu x1 x2 x3 σ = some (v, σ')) : J (ωM α) κ 2 5 16 [(0, .ref (wad (ωM α) 0)), (1, .int x1), (2, .int x2), (3, .int x3)] [] σ := by
  unfold F12_says_16 at h
  refine wl2_ind (fun x2 x3 σ => J (ωM α) κ 2 5 16 [(0, .ref (wad (ωM α) 0)), (1, .int x1), (2, .int x2), (3, .int x3)] [] σ) ?_ fu x2 x3 σ h
  intro k16 hk16 x2 x3 σ h
  try dsimp only at h
  show J (ωM α) κ 2 5 16 [(0, .ref (wad (ωM α) 0)), (1, .int x1), (2, .int x2), (3, .int x3)] [] σ
  refine j_iload_n C 3 dX12_says_16 rfl ?_
  refine j_aload_n C 0 dX12_says_17 rfl ?_
  refine j_getr (o := 0) (j := 9) C inT12 (ci := 11) rfl (by decide) (rfl) rfl rfl wd_1108 dX12_says_18 (o' := 7) rfl ?_
  refine j_iconst (v := 4) C dX12_says_21 (by decide) ?_
  refine j_aload_n C 0 dX12_says_22 rfl ?_
  refine j_geti (o := 0) (j := 11) C inT12 (ci := 11) rfl (by decide) (rfl) rfl rfl wd_1110 dX12_says_23 ?_
  refine j_imul C dX12_says_26 ?_
  refine j_iload_n C 1 dX12_says_27 rfl ?_
  refine j_iadd C dX12_says_28 ?_
  refine j_iconst (v := 1) C dX12_says_29 (by decide) ?_
  refine j_iadd C dX12_says_30 ?_
  obtain ⟨g1, h⟩ := gd_some h
  refine j_iaload (N := 24) C (rfl) (inb_in g1) dX12_says_31 ?_
  refine j_icmp_ge (tgt := 197) C dX12_says_32 (by decide) (fun c2 => ?_) (fun c2 => ?_)
  · replace h := it c2 h
    refine j_aload_n C 0 dX12_says_197 rfl ?_
    refine j_getr (o := 0) (j := 28) C inT12 (ci := 11) rfl (by decide) (rfl) rfl rfl wd_1127 dX12_says_198 (o' := 16) rfl ?_
    refine j_iconst (v := 0) C dX12_says_201 (by decide) ?_
    refine j_iaload (N := 200) C (rfl) ((inb_in (by decide))) dX12_says_202 ?_
    obtain ⟨hv, hs⟩ := s2_inj h
    subst hv
    subst hs
    exact j_iret C e dX12_says_203
  · replace h := ie c2 h
    refine j_aload_n C 0 dX12_says_35 rfl ?_
    refine j_getr (o := 0) (j := 8) C inT12 (ci := 11) rfl (by decide) (rfl) rfl rfl wd_1107 dX12_says_36 (o' := 6) rfl ?_
    refine j_sipush (v := 200) C dX12_says_39 (by decide) ?_
    refine j_aload_n C 0 dX12_says_42 rfl ?_
    refine j_geti (o := 0) (j := 11) C inT12 (ci := 11) rfl (by decide) (rfl) rfl rfl wd_1110 dX12_says_43 ?_
    refine j_imul C dX12_says_46 ?_
    refine j_iload_n C 3 dX12_says_47 rfl ?_
    refine j_iadd C dX12_says_48 ?_
    obtain ⟨g3, h⟩ := gd_some h
    refine j_iaload (N := 1200) C (rfl) (inb_in g3) dX12_says_49 ?_
    refine j_istore (L' := [(4, .int (σ 6 (((200 : Int32) * (σ 0 11)) + x3).toNatClampNeg)), (0, .ref (wad (ωM α) 0)), (1, .int x1), (2, .int x2), (3, .int x3)]) C dX12_says_50 rfl rfl ?_
    refine j_iload C 0 dX12_says_52 rfl ?_
    refine j_ldc (v := 100000) C wd_1071 dX12_says_54 ?_
    refine j_icmp_ge (tgt := 66) C dX12_says_56 (by decide) (fun c4 => ?_) (fun c4 => ?_)
    · replace h := it c4 h
      exact j_sub [1, 2, 3, 4, 0] rfl (b12_says_66 C e hk16 h)
    · replace h := ie c4 h
      refine j_iload C 0 dX12_says_59 rfl ?_
      refine j_bipush (v := 11) C dX12_says_61 (by decide) ?_
      refine j_icmp_ge (tgt := 100) C dX12_says_63 (by decide) (fun c5 => ?_) (fun c5 => ?_)
      · replace h := it c5 h
        refine j_iload C 0 dX12_says_100 rfl ?_
        refine j_bipush (v := 13) C dX12_says_102 (by decide) ?_
        refine j_icmp_ne (tgt := 134) C dX12_says_104 (by decide) (fun c6 => ?_) (fun c6 => ?_)
        · replace h := ie c6 h
          refine j_iload C 0 dX12_says_134 rfl ?_
          refine j_bipush (v := 19) C dX12_says_136 (by decide) ?_
          refine j_icmp_ne (tgt := 161) C dX12_says_138 (by decide) (fun c7 => ?_) (fun c7 => ?_)
          · replace h := ie c7 h
            refine j_iinc (L' := [(2, .int (x2 + (-1))), (4, .int (σ 6 (((200 : Int32) * (σ 0 11)) + x3).toNatClampNeg)), (0, .ref (wad (ωM α) 0)), (1, .int x1), (3, .int x3)]) C 3 dX12_says_161 rfl rfl rfl rfl ?_
            refine j_aload_n C 2 dX12_says_164 rfl ?_
            refine j_getr (o := 0) (j := 28) C inT12 (ci := 11) rfl (by decide) (rfl) rfl rfl wd_1127 dX12_says_165 (o' := 16) rfl ?_
            refine j_iload_n C 0 dX12_says_168 rfl ?_
            refine j_iconst (v := 1) C dX12_says_169 (by decide) ?_
            refine j_isub C dX12_says_170 ?_
            refine j_iload C 1 dX12_says_171 rfl ?_
            refine j_aload_n C 2 dX12_says_173 rfl ?_
            refine j_getr (o := 0) (j := 28) C inT12 (ci := 11) rfl (by decide) (rfl) rfl rfl wd_1127 dX12_says_174 (o' := 16) rfl ?_
            refine j_iload_n C 0 dX12_says_177 rfl ?_
            refine j_iconst (v := 1) C dX12_says_178 (by decide) ?_
            refine j_isub C dX12_says_179 ?_
            obtain ⟨g8, h⟩ := gd_some h
            refine j_iaload (N := 200) C (rfl) (inb_in g8) dX12_says_180 ?_
            refine j_aload_n C 2 dX12_says_181 rfl ?_
            refine j_getr (o := 0) (j := 28) C inT12 (ci := 11) rfl (by decide) (rfl) rfl rfl wd_1127 dX12_says_182 (o' := 16) rfl ?_
            refine j_iload_n C 0 dX12_says_185 rfl ?_
            obtain ⟨g9, h⟩ := gd_some h
            refine j_iaload (N := 200) C (rfl) (inb_in g9) dX12_says_186 ?_
            obtain ⟨r10, s11, hc12, h⟩ := bnd_some h
            refine k_S (v := some (.int r10)) C sb_X12_two (c12_two _ hc12) rfl (by decide) wd_1289 rfl dX12_says_187 ?_
            show J (ωM α) κ _ _ 190 _ [.int r10, .int ((x2 + (-1)) - (1 : Int32)), .ref (wad (ωM α) 16)] s11
            refine j_iastore (N := 200) C (rfl) (inb_in g8) dX12_says_190 ?_
            exact j_sub [2, 3, 0, 4] rfl (b12_says_191 C e hk16 h)
          · replace h := it c7 h
            refine j_aload_n C 1 dX12_says_141 rfl ?_
            refine j_getr (o := 0) (j := 28) C inT12 (ci := 11) rfl (by decide) (rfl) rfl rfl wd_1127 dX12_says_142 (o' := 16) rfl ?_
            refine j_iload_n C 3 dX12_says_145 rfl ?_
            refine j_iconst (v := 1) C dX12_says_146 (by decide) ?_
            refine j_isub C dX12_says_147 ?_
            refine j_aload_n C 1 dX12_says_148 rfl ?_
            refine j_getr (o := 0) (j := 28) C inT12 (ci := 11) rfl (by decide) (rfl) rfl rfl wd_1127 dX12_says_149 (o' := 16) rfl ?_
            refine j_iload_n C 3 dX12_says_152 rfl ?_
            refine j_iconst (v := 1) C dX12_says_153 (by decide) ?_
            refine j_isub C dX12_says_154 ?_
            obtain ⟨g13, h⟩ := gd_some h
            refine j_iaload (N := 200) C (rfl) (inb_in g13) dX12_says_155 ?_
            refine j_ineg C dX12_says_156 ?_
            refine j_iastore (N := 200) C (rfl) (inb_in g13) dX12_says_157 ?_
            refine j_goto (tgt := 191) C dX12_says_158 (by decide) ?_
            exact j_sub [1, 2, 3, 4] rfl (b12_says_191 C e hk16 h)
        · replace h := it c6 h
          refine j_aload_n C 1 dX12_says_107 rfl ?_
          refine j_getr (o := 0) (j := 28) C inT12 (ci := 11) rfl (by decide) (rfl) rfl rfl wd_1127 dX12_says_108 (o' := 16) rfl ?_
          refine j_iload_n C 3 dX12_says_111 rfl ?_
          refine j_iconst (v := 1) C dX12_says_112 (by decide) ?_
          refine j_isub C dX12_says_113 ?_
          refine j_aload_n C 1 dX12_says_114 rfl ?_
          refine j_getr (o := 0) (j := 28) C inT12 (ci := 11) rfl (by decide) (rfl) rfl rfl wd_1127 dX12_says_115 (o' := 16) rfl ?_
          refine j_iload_n C 3 dX12_says_118 rfl ?_
          refine j_iconst (v := 1) C dX12_says_119 (by decide) ?_
          refine j_isub C dX12_says_120 ?_
          obtain ⟨g14, h⟩ := gd_some h
          refine j_iaload (N := 200) C (rfl) (inb_in g14) dX12_says_121 ?_
          refine j_if_ne (tgt := 129) C dX12_says_122 (by decide) (fun c15 => ?_) (fun c15 => ?_)
          · replace h := ie c15 h
            refine j_iconst (v := 0) C dX12_says_129 (by decide) ?_
            exact j_sub [1, 2, 3, 4] rfl (b12_says_130 C e hk16 h)
          · replace h := it c15 h
            refine j_iconst (v := 1) C dX12_says_125 (by decide) ?_
            refine j_goto (tgt := 130) C dX12_says_126 (by decide) ?_
            exact j_sub [1, 2, 3, 4] rfl (b12_says_130 C e hk16 h)
      · replace h := ie c5 h
        exact j_sub [1, 2, 3, 4, 0] rfl (b12_says_66 C e hk16 h)
set_option maxRecDepth 10000 in
theorem c12_says (l : Launch) {α : WA} {fu : Nat} {a1 : Int32} {σ σ' : M2} {v : Int32}  (h : F12_says fu a1 σ = some (v, σ')) : Ct l (ωM α) yX12_says cX12_says 5 (some FieldType.int) 2 [.ref (wad (ωM α) 0), .int a1] σ (some (.int v)) σ' := by
  unfold F12_says at h
  refine Ct.of (own := "EveryoneWinsModel") (L := [(0, .ref (wad (ωM α) 0)), (1, .int a1)]) (by decide +kernel) rfl rfl rfl (fun κ hl e C => ?_)
  show J (ωM α) κ 2 5 0 [(0, .ref (wad (ωM α) 0)), (1, .int a1)] [] σ
  refine j_iconst (v := 0) C dX12_says_0 (by decide) ?_
  refine j_istore_n (L' := [(2, .int (0 : Int32)), (0, .ref (wad (ωM α) 0)), (1, .int a1)]) C dX12_says_1 rfl rfl rfl ?_
  refine j_aload_n C 1 dX12_says_2 rfl ?_
  refine j_getr (o := 0) (j := 9) C inT12 (ci := 11) rfl (by decide) (rfl) rfl rfl wd_1108 dX12_says_3 (o' := 7) rfl ?_
  refine j_iconst (v := 4) C dX12_says_6 (by decide) ?_
  refine j_aload_n C 1 dX12_says_7 rfl ?_
  refine j_geti (o := 0) (j := 11) C inT12 (ci := 11) rfl (by decide) (rfl) rfl rfl wd_1110 dX12_says_8 ?_
  refine j_imul C dX12_says_11 ?_
  refine j_iload_n C 2 dX12_says_12 rfl ?_
  refine j_iadd C dX12_says_13 ?_
  obtain ⟨g1, h⟩ := gd_some h
  refine j_iaload (N := 24) C (rfl) (inb_in g1) dX12_says_14 ?_
  refine j_istore_n (L' := [(3, .int (σ 7 (((4 : Int32) * (σ 0 11)) + a1).toNatClampNeg)), (2, .int (0 : Int32)), (0, .ref (wad (ωM α) 0)), (1, .int a1)]) C dX12_says_15 rfl rfl rfl ?_
  exact j_sub [2, 3, 1, 0] rfl (b12_says_16 C e h)
set_option maxRecDepth 10000 in
theorem c12_force (l : Launch) {α : WA}  {a1 : Int32} {σ σ' : M2} {v : Int32}  (h : F12_force a1 σ = some (v, σ')) : Ct l (ωM α) yX12_force cX12_force 3 (some FieldType.int) 2 [.ref (wad (ωM α) 0), .int a1] σ (some (.int v)) σ' := by
  unfold F12_force at h
  refine Ct.of (own := "EveryoneWinsModel") (L := [(0, .ref (wad (ωM α) 0)), (1, .int a1)]) (by decide +kernel) rfl rfl rfl (fun κ hl e C => ?_)
  show J (ωM α) κ 2 3 0 [(0, .ref (wad (ωM α) 0)), (1, .int a1)] [] σ
  refine j_iload_n C 1 dX12_force_0 rfl ?_
  refine j_iconst (v := 0) C dX12_force_1 (by decide) ?_
  refine j_aload_n C 0 dX12_force_2 rfl ?_
  refine j_geti (o := 0) (j := 10) C inT12 (ci := 11) rfl (by decide) (rfl) rfl rfl wd_1109 dX12_force_3 ?_
  refine j_iconst (v := 1) C dX12_force_6 (by decide) ?_
  refine j_isub C dX12_force_7 ?_
  obtain ⟨r1, s2, hc3, h⟩ := bnd_some h
  refine k_S (v := some (.int r1)) C sb_X12_in (c12_in _ hc3) rfl (by decide) wd_1060 rfl dX12_force_8 ?_
  show J (ωM α) κ _ _ 11 _ [.int r1] s2
  refine j_if_ne (tgt := 17) C dX12_force_11 (by decide) (fun c4 => ?_) (fun c4 => ?_)
  · replace h := ie c4 h
    refine j_aload_n C 0 dX12_force_17 rfl ?_
    refine j_geti (o := 0) (j := 11) C inT12 (ci := 11) rfl (by decide) (rfl) rfl rfl wd_1110 dX12_force_18 ?_
    refine j_istore_n (L' := [(2, .int (s2 0 11)), (0, .ref (wad (ωM α) 0)), (1, .int a1)]) C dX12_force_21 rfl rfl rfl ?_
    refine j_aload_n C 1 dX12_force_22 rfl ?_
    refine j_iload_n C 2 dX12_force_23 rfl ?_
    refine j_puti (o := 0) (j := 11) C inT12 tyX12_ok nmX12 (ci := 11) rfl (by decide) (rfl) rfl rfl rfl (tyX12_ok 11 (by decide)) rfl rfl wd_1110 dX12_force_24 ?_
    refine j_iload_n C 0 dX12_force_27 rfl ?_
    obtain ⟨hv, hs⟩ := s2_inj h
    subst hv
    subst hs
    exact j_iret C e dX12_force_28
  · replace h := it c4 h
    refine j_bipush (v := -2) C dX12_force_14 (by decide) ?_
    obtain ⟨hv, hs⟩ := s2_inj h
    subst hv
    subst hs
    exact j_iret C e dX12_force_16
set_option maxRecDepth 10000 in
theorem b12_asksOf_126 {α : WA} {κ : KT} {fu : Nat} {v : Int32} {σ' : M2} {y0 : Int32} {y1 : Int32} (C : Cx (ωM α) κ cX12_asksOf 5 "EveryoneWinsModel" (some FieldType.int)) (e : κ.2.2.2.2.2.2.2.2.2 = (some (.int v), σ'))  {σ : M2} (h : F12_asksOf_126 fu y0 y1 σ = some (v, σ')) : J (ωM α) κ 3 5 126 [] [.int y0, .int y1] σ := by
  unfold F12_asksOf_126 at h
  refine j_bipush (v := 99) C dX12_asksOf_126 (by decide) ?_
  obtain ⟨r1, s2, hc3, h⟩ := bnd_some h
  refine k_S (v := some (.int r1)) C sb_X12_within (c12_within _ hc3) rfl (by decide) wd_1279 rfl dX12_asksOf_128 ?_
  show J (ωM α) κ _ _ 131 _ [.int r1] s2
  obtain ⟨hv, hs⟩ := s2_inj h
  subst hv
  subst hs
  exact j_iret C e dX12_asksOf_131
set_option maxRecDepth 10000 in
theorem b12_asksOf_110 {α : WA} {κ : KT} {fu : Nat} {v : Int32} {σ' : M2} {x1 : Int32} {y0 : Int32} {y1 : Int32} (C : Cx (ωM α) κ cX12_asksOf 5 "EveryoneWinsModel" (some FieldType.int)) (e : κ.2.2.2.2.2.2.2.2.2 = (some (.int v), σ'))  {σ : M2} (h : F12_asksOf_110 fu x1 y0 y1 σ = some (v, σ')) : J (ωM α) κ 3 5 110 [(0, .ref (wad (ωM α) 0)), (1, .int x1)] [.int y0, .int y1, .ref (wad (ωM α) 17)] σ := by
  unfold F12_asksOf_110 at h
  obtain ⟨g1, h⟩ := gd_some h
  refine j_iastore (N := 6) C (rfl) (inb_in g1) dX12_asksOf_110 ?_
  refine j_aload_n C 0 dX12_asksOf_111 rfl ?_
  refine j_iload_n C 1 dX12_asksOf_112 rfl ?_
  obtain ⟨r2, s3, hc4, h⟩ := bnd_some h
  refine k_V (v := some (.int r2)) C vb_X12_says (ci := 11) (T := TX12) (N := 45) rfl (by decide) (c12_says _ hc4) rfl (by decide) wd_1285 (rfl) rfl dX12_asksOf_113 ?_
  show J (ωM α) κ _ _ 116 _ [.int r2] s3
  refine j_iload_n C 1 dX12_asksOf_116 rfl ?_
  refine j_if_ne (tgt := 124) C dX12_asksOf_117 (by decide) (fun c5 => ?_) (fun c5 => ?_)
  · replace h := ie c5 h
    refine j_bipush (v := -99) C dX12_asksOf_124 (by decide) ?_
    exact j_sub [] rfl (b12_asksOf_126 C e h)
  · replace h := it c5 h
    refine j_iconst (v := 0) C dX12_asksOf_120 (by decide) ?_
    refine j_goto (tgt := 126) C dX12_asksOf_121 (by decide) ?_
    exact j_sub [] rfl (b12_asksOf_126 C e h)
set_option maxRecDepth 10000 in
theorem b12_asksOf_94 {α : WA} {κ : KT} {fu : Nat} {v : Int32} {σ' : M2} {x1 : Int32} {x3 : Int32} {y0 : Int32} {y1 : Int32} (C : Cx (ωM α) κ cX12_asksOf 5 "EveryoneWinsModel" (some FieldType.int)) (e : κ.2.2.2.2.2.2.2.2.2 = (some (.int v), σ'))  {σ : M2} (h : F12_asksOf_94 fu x1 x3 y0 y1 σ = some (v, σ')) : J (ωM α) κ 3 5 94 [(0, .ref (wad (ωM α) 0)), (1, .int x1), (3, .int x3)] [.int y0, .int y1, .ref (wad (ωM α) 17)] σ := by
  unfold F12_asksOf_94 at h
  obtain ⟨g1, h⟩ := gd_some h
  refine j_iastore (N := 6) C (rfl) (inb_in g1) dX12_asksOf_94 ?_
  refine j_aload_n C 0 dX12_asksOf_95 rfl ?_
  refine j_getr (o := 0) (j := 29) C inT12 (ci := 11) rfl (by decide) (rfl) rfl rfl wd_1128 dX12_asksOf_96 (o' := 17) rfl ?_
  refine j_iconst (v := 5) C dX12_asksOf_99 (by decide) ?_
  refine j_iload_n C 2 dX12_asksOf_100 rfl ?_
  refine j_iconst (v := -1) C dX12_asksOf_101 (by decide) ?_
  refine j_icmp_ne (tgt := 109) C dX12_asksOf_102 (by decide) (fun c2 => ?_) (fun c2 => ?_)
  · replace h := ie c2 h
    refine j_iload_n C 2 dX12_asksOf_109 rfl ?_
    exact j_sub [0, 1] rfl (b12_asksOf_110 C e h)
  · replace h := it c2 h
    refine j_iconst (v := 0) C dX12_asksOf_105 (by decide) ?_
    refine j_goto (tgt := 110) C dX12_asksOf_106 (by decide) ?_
    exact j_sub [0, 1] rfl (b12_asksOf_110 C e h)
set_option maxRecDepth 10000 in
theorem b12_asksOf_63 {α : WA} {κ : KT} {fu : Nat} {v : Int32} {σ' : M2} {x1 : Int32} {x3 : Int32} {y0 : Int32} {y1 : Int32} (C : Cx (ωM α) κ cX12_asksOf 5 "EveryoneWinsModel" (some FieldType.int)) (e : κ.2.2.2.2.2.2.2.2.2 = (some (.int v), σ'))  {σ : M2} (h : F12_asksOf_63 fu x1 x3 y0 y1 σ = some (v, σ')) : J (ωM α) κ 3 5 63 [(0, .ref (wad (ωM α) 0)), (1, .int x1), (3, .int x3)] [.int y0, .int y1, .ref (wad (ωM α) 17)] σ := by
  unfold F12_asksOf_63 at h
  obtain ⟨g1, h⟩ := gd_some h
  refine j_iastore (N := 6) C (rfl) (inb_in g1) dX12_asksOf_63 ?_
  refine j_aload_n C 0 dX12_asksOf_64 rfl ?_
  refine j_getr (o := 0) (j := 29) C inT12 (ci := 11) rfl (by decide) (rfl) rfl rfl wd_1128 dX12_asksOf_65 (o' := 17) rfl ?_
  refine j_iconst (v := 4) C dX12_asksOf_68 (by decide) ?_
  refine j_iload_n C 2 dX12_asksOf_69 rfl ?_
  refine j_iconst (v := -1) C dX12_asksOf_70 (by decide) ?_
  refine j_icmp_ne (tgt := 78) C dX12_asksOf_71 (by decide) (fun c2 => ?_) (fun c2 => ?_)
  · replace h := ie c2 h
    refine j_aload_n C 0 dX12_asksOf_78 rfl ?_
    refine j_getr (o := 0) (j := 5) C inT12 (ci := 11) rfl (by decide) (rfl) rfl rfl wd_1104 dX12_asksOf_79 (o' := 4) rfl ?_
    refine j_iconst (v := 2) C dX12_asksOf_82 (by decide) ?_
    refine j_iload_n C 2 dX12_asksOf_83 rfl ?_
    refine j_iconst (v := 0) C dX12_asksOf_84 (by decide) ?_
    refine j_iconst (v := 5) C dX12_asksOf_85 (by decide) ?_
    obtain ⟨r3, s4, hc5, h⟩ := bnd_some h
    refine k_S (v := some (.int r3)) C sb_X12_within (c12_within _ hc5) rfl (by decide) wd_1279 rfl dX12_asksOf_86 ?_
    show J (ωM α) κ _ _ 89 _ [.int r3, .int (2 : Int32), .ref (wad (ωM α) 4), .int (4 : Int32), .ref (wad (ωM α) 17)] s4
    refine j_imul C dX12_asksOf_89 ?_
    obtain ⟨g6, h⟩ := gd_some h
    refine j_iaload (N := 12) C (rfl) (inb_in g6) dX12_asksOf_90 ?_
    obtain ⟨r7, s8, hc9, h⟩ := bnd_some h
    refine k_S (v := some (.int r7)) C sb_X12_ones (c12_ones _ hc9) rfl (by decide) wd_1282 rfl dX12_asksOf_91 ?_
    show J (ωM α) κ _ _ 94 _ [.int r7, .int (4 : Int32), .ref (wad (ωM α) 17)] s8
    exact (b12_asksOf_94 C e h)
  · replace h := it c2 h
    refine j_iconst (v := 0) C dX12_asksOf_74 (by decide) ?_
    refine j_goto (tgt := 94) C dX12_asksOf_75 (by decide) ?_
    exact (b12_asksOf_94 C e h)
