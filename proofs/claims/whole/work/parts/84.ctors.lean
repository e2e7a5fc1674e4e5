/-! constructors: the leaves -/
set_option maxHeartbeats 4000000
set_option maxRecDepth 100000
def wX0 (γ : GT) (h0 : Nat) (qs : Nat → Nat) : va_W := [(h0, .inr (0, [.int 0, .int 0, .int 0]))]
theorem k0_init (l : Launch) {γ : GT} (h0 : Nat) : Kt l γ yX0_init cX0_init 1 1 0 0 [.ref h0] [(h0, .inr (0, [.int 0, .int 0, .int 0]))] (wX0 γ h0) := by
  refine Kt.of (own := "EveryoneWins$Best") (by decide) rfl rfl rfl rfl (fun κ sz hl0 hin C => ?_)
  subst hl0
  refine g_aload_n C 0 dX0_init_0 rfl ?_
  refine g_objInit C wd_307 wd_99 wd_100 (by exact Nat.le_of_ble_eq_true rfl) (by exact Nat.le_of_ble_eq_true rfl) dX0_init_1 ?_
  exact g_vret C (fun i => [].getD i 0) rfl dX0_init_4
def wX1 (γ : GT) (h0 : Nat) (qs : Nat → Nat) : va_W := (h0, .inr (1, [.ref (qs 0), .ref (qs 1), .ref (qs 2), .int 0])) :: (ap (ap ([((qs 0), .inl (gcI γ, 8, .inl (fun _ => 0)))]) ([((qs 1), .inl (gcI γ, 8, .inl (fun _ => 0)))])) ([((qs 2), .inl (gcI γ, 8, .inl (fun _ => 0)))]))
theorem k1_init (l : Launch) {γ : GT} (h0 : Nat) : Kt l γ yX1_init cX1_init 1 1 3 24 [.ref h0] [(h0, .inr (1, [.null, .null, .null, .int 0]))] (wX1 γ h0) := by
  refine Kt.of (own := "EveryoneWins$Children") (by decide) rfl rfl rfl rfl (fun κ sz hl0 hin C => ?_)
  subst hl0
  refine g_aload_n C 0 dX1_init_0 rfl ?_
  refine g_objInit C wd_106 wd_99 wd_100 (by exact Nat.le_of_ble_eq_true rfl) (by exact Nat.le_of_ble_eq_true rfl) dX1_init_1 ?_
  refine g_aload_n C 0 dX1_init_4 rfl ?_
  refine g_bipush C (v := 8) dX1_init_5 (by decide) ?_
  refine g_newI C wd_128 (N := 8) (by decide) (by decide) (by decide) (by exact Nat.le_of_ble_eq_true rfl) (by exact Nat.le_of_ble_eq_true rfl) dX1_init_7 (fun q7 => ?_)
  refine g_w (ws' := (h0, .inr (1, [.null, .null, .null, .int 0])) :: ([(q7, .inl (gcI γ, 8, .inl (fun _ => 0)))])) rfl ?_
  refine g_putF C (ws' := (h0, .inr (1, [.ref q7, .null, .null, .int 0])) :: ([(q7, .inl (gcI γ, 8, .inl (fun _ => 0)))])) 0 hin rfl inT1 tyX1_ok nmX1 rfl (ci := 1) (T := TX1) rfl (j := 0) rfl wd_107 rfl (ty := .array .int) (by decide +kernel) rfl rfl rfl rfl dX1_init_9 ?_
  refine g_aload_n C 0 dX1_init_12 rfl ?_
  refine g_bipush C (v := 8) dX1_init_13 (by decide) ?_
  refine g_newI C wd_128 (N := 8) (by decide) (by decide) (by decide) (by exact Nat.le_of_ble_eq_true rfl) (by exact Nat.le_of_ble_eq_true rfl) dX1_init_15 (fun q15 => ?_)
  refine g_w (ws' := (h0, .inr (1, [.ref q7, .null, .null, .int 0])) :: (ap ([(q7, .inl (gcI γ, 8, .inl (fun _ => 0)))]) ([(q15, .inl (gcI γ, 8, .inl (fun _ => 0)))]))) rfl ?_
  refine g_putF C (ws' := (h0, .inr (1, [.ref q7, .ref q15, .null, .int 0])) :: (ap ([(q7, .inl (gcI γ, 8, .inl (fun _ => 0)))]) ([(q15, .inl (gcI γ, 8, .inl (fun _ => 0)))]))) 0 hin rfl inT1 tyX1_ok nmX1 rfl (ci := 1) (T := TX1) rfl (j := 1) rfl wd_110 rfl (ty := .array .int) (by decide +kernel) rfl rfl rfl rfl dX1_init_17 ?_
  refine g_aload_n C 0 dX1_init_20 rfl ?_
  refine g_bipush C (v := 8) dX1_init_21 (by decide) ?_
  refine g_newI C wd_128 (N := 8) (by decide) (by decide) (by decide) (by exact Nat.le_of_ble_eq_true rfl) (by exact Nat.le_of_ble_eq_true rfl) dX1_init_23 (fun q23 => ?_)
  refine g_w (ws' := (h0, .inr (1, [.ref q7, .ref q15, .null, .int 0])) :: (ap (ap ([(q7, .inl (gcI γ, 8, .inl (fun _ => 0)))]) ([(q15, .inl (gcI γ, 8, .inl (fun _ => 0)))])) ([(q23, .inl (gcI γ, 8, .inl (fun _ => 0)))]))) rfl ?_
  refine g_putF C (ws' := (h0, .inr (1, [.ref q7, .ref q15, .ref q23, .int 0])) :: (ap (ap ([(q7, .inl (gcI γ, 8, .inl (fun _ => 0)))]) ([(q15, .inl (gcI γ, 8, .inl (fun _ => 0)))])) ([(q23, .inl (gcI γ, 8, .inl (fun _ => 0)))]))) 0 hin rfl inT1 tyX1_ok nmX1 rfl (ci := 1) (T := TX1) rfl (j := 2) rfl wd_113 rfl (ty := .array .int) (by decide +kernel) rfl rfl rfl rfl dX1_init_25 ?_
  exact g_vret C (fun i => [q7, q15, q23].getD i 0) rfl dX1_init_28
def wX5 (γ : GT) (h0 : Nat) (qs : Nat → Nat) : va_W := (h0, .inr (4, [.ref (qs 0), .ref (qs 1), .ref (qs 2), .ref (qs 3), .int 0])) :: (ap (ap (ap ([((qs 0), .inl (gcI γ, 6, .inl (fun _ => 0)))]) ([((qs 1), .inl (gcI γ, 6, .inl (fun _ => 0)))])) ([((qs 2), .inl (gcI γ, 6, .inl (fun _ => 0)))])) ([((qs 3), .inl (gcI γ, 6, .inl (fun _ => 0)))]))
theorem k5_init (l : Launch) {γ : GT} (h0 : Nat) : Kt l γ yX5_init cX5_init 1 1 4 24 [.ref h0] [(h0, .inr (4, [.null, .null, .null, .null, .int 0]))] (wX5 γ h0) := by
  refine Kt.of (own := "EveryoneWins$Races") (by decide) rfl rfl rfl rfl (fun κ sz hl0 hin C => ?_)
  subst hl0
  refine g_aload_n C 0 dX5_init_0 rfl ?_
  refine g_objInit C wd_134 wd_99 wd_100 (by exact Nat.le_of_ble_eq_true rfl) (by exact Nat.le_of_ble_eq_true rfl) dX5_init_1 ?_
  refine g_aload_n C 0 dX5_init_4 rfl ?_
  refine g_bipush C (v := 6) dX5_init_5 (by decide) ?_
  refine g_newI C wd_128 (N := 6) (by decide) (by decide) (by decide) (by exact Nat.le_of_ble_eq_true rfl) (by exact Nat.le_of_ble_eq_true rfl) dX5_init_7 (fun q7 => ?_)
  refine g_w (ws' := (h0, .inr (4, [.null, .null, .null, .null, .int 0])) :: ([(q7, .inl (gcI γ, 6, .inl (fun _ => 0)))])) rfl ?_
  refine g_putF C (ws' := (h0, .inr (4, [.ref q7, .null, .null, .null, .int 0])) :: ([(q7, .inl (gcI γ, 6, .inl (fun _ => 0)))])) 0 hin rfl inT5 tyX5_ok nmX5 rfl (ci := 4) (T := TX5) rfl (j := 0) rfl wd_135 rfl (ty := .array .int) (by decide +kernel) rfl rfl rfl rfl dX5_init_9 ?_
  refine g_aload_n C 0 dX5_init_12 rfl ?_
  refine g_bipush C (v := 6) dX5_init_13 (by decide) ?_
  refine g_newI C wd_128 (N := 6) (by decide) (by decide) (by decide) (by exact Nat.le_of_ble_eq_true rfl) (by exact Nat.le_of_ble_eq_true rfl) dX5_init_15 (fun q15 => ?_)
  refine g_w (ws' := (h0, .inr (4, [.ref q7, .null, .null, .null, .int 0])) :: (ap ([(q7, .inl (gcI γ, 6, .inl (fun _ => 0)))]) ([(q15, .inl (gcI γ, 6, .inl (fun _ => 0)))]))) rfl ?_
  refine g_putF C (ws' := (h0, .inr (4, [.ref q7, .ref q15, .null, .null, .int 0])) :: (ap ([(q7, .inl (gcI γ, 6, .inl (fun _ => 0)))]) ([(q15, .inl (gcI γ, 6, .inl (fun _ => 0)))]))) 0 hin rfl inT5 tyX5_ok nmX5 rfl (ci := 4) (T := TX5) rfl (j := 1) rfl wd_138 rfl (ty := .array .int) (by decide +kernel) rfl rfl rfl rfl dX5_init_17 ?_
  refine g_aload_n C 0 dX5_init_20 rfl ?_
  refine g_bipush C (v := 6) dX5_init_21 (by decide) ?_
  refine g_newI C wd_128 (N := 6) (by decide) (by decide) (by decide) (by exact Nat.le_of_ble_eq_true rfl) (by exact Nat.le_of_ble_eq_true rfl) dX5_init_23 (fun q23 => ?_)
  refine g_w (ws' := (h0, .inr (4, [.ref q7, .ref q15, .null, .null, .int 0])) :: (ap (ap ([(q7, .inl (gcI γ, 6, .inl (fun _ => 0)))]) ([(q15, .inl (gcI γ, 6, .inl (fun _ => 0)))])) ([(q23, .inl (gcI γ, 6, .inl (fun _ => 0)))]))) rfl ?_
  refine g_putF C (ws' := (h0, .inr (4, [.ref q7, .ref q15, .ref q23, .null, .int 0])) :: (ap (ap ([(q7, .inl (gcI γ, 6, .inl (fun _ => 0)))]) ([(q15, .inl (gcI γ, 6, .inl (fun _ => 0)))])) ([(q23, .inl (gcI γ, 6, .inl (fun _ => 0)))]))) 0 hin rfl inT5 tyX5_ok nmX5 rfl (ci := 4) (T := TX5) rfl (j := 2) rfl wd_141 rfl (ty := .array .int) (by decide +kernel) rfl rfl rfl rfl dX5_init_25 ?_
  refine g_aload_n C 0 dX5_init_28 rfl ?_
  refine g_bipush C (v := 6) dX5_init_29 (by decide) ?_
  refine g_newI C wd_128 (N := 6) (by decide) (by decide) (by decide) (by exact Nat.le_of_ble_eq_true rfl) (by exact Nat.le_of_ble_eq_true rfl) dX5_init_31 (fun q31 => ?_)
  refine g_w (ws' := (h0, .inr (4, [.ref q7, .ref q15, .ref q23, .null, .int 0])) :: (ap (ap (ap ([(q7, .inl (gcI γ, 6, .inl (fun _ => 0)))]) ([(q15, .inl (gcI γ, 6, .inl (fun _ => 0)))])) ([(q23, .inl (gcI γ, 6, .inl (fun _ => 0)))])) ([(q31, .inl (gcI γ, 6, .inl (fun _ => 0)))]))) rfl ?_
  refine g_putF C (ws' := (h0, .inr (4, [.ref q7, .ref q15, .ref q23, .ref q31, .int 0])) :: (ap (ap (ap ([(q7, .inl (gcI γ, 6, .inl (fun _ => 0)))]) ([(q15, .inl (gcI γ, 6, .inl (fun _ => 0)))])) ([(q23, .inl (gcI γ, 6, .inl (fun _ => 0)))])) ([(q31, .inl (gcI γ, 6, .inl (fun _ => 0)))]))) 0 hin rfl inT5 tyX5_ok nmX5 rfl (ci := 4) (T := TX5) rfl (j := 3) rfl wd_144 rfl (ty := .array .int) (by decide +kernel) rfl rfl rfl rfl dX5_init_33 ?_
  exact g_vret C (fun i => [q7, q15, q23, q31].getD i 0) rfl dX5_init_36
def wX9 (γ : GT) (h0 : Nat) (qs : Nat → Nat) : va_W := (h0, .inr (8, [.ref (qs 0), .ref (qs 1), .ref (qs 2), .int 0, .int 0])) :: (ap (ap ([((qs 0), .inl (gcI γ, 160, .inl (fun _ => 0)))]) ([((qs 1), .inl (gcI γ, 3, .inl (fun _ => 0)))])) ([((qs 2), .inl (gcI γ, 32, .inl (fun _ => 0)))]))
theorem k9_init (l : Launch) {γ : GT} (h0 : Nat) : Kt l γ yX9_init cX9_init 1 1 3 195 [.ref h0] [(h0, .inr (8, [.null, .null, .null, .int 0, .int 0]))] (wX9 γ h0) := by
  refine Kt.of (own := "EveryoneWins$Text") (by decide) rfl rfl rfl rfl (fun κ sz hl0 hin C => ?_)
  subst hl0
  refine g_aload_n C 0 dX9_init_0 rfl ?_
  refine g_objInit C wd_174 wd_99 wd_100 (by exact Nat.le_of_ble_eq_true rfl) (by exact Nat.le_of_ble_eq_true rfl) dX9_init_1 ?_
  refine g_aload_n C 0 dX9_init_4 rfl ?_
  refine g_sipush C (v := 160) dX9_init_5 (by decide) ?_
  refine g_newI C wd_128 (N := 160) (by decide) (by decide) (by decide) (by exact Nat.le_of_ble_eq_true rfl) (by exact Nat.le_of_ble_eq_true rfl) dX9_init_8 (fun q8 => ?_)
  refine g_w (ws' := (h0, .inr (8, [.null, .null, .null, .int 0, .int 0])) :: ([(q8, .inl (gcI γ, 160, .inl (fun _ => 0)))])) rfl ?_
  refine g_putF C (ws' := (h0, .inr (8, [.ref q8, .null, .null, .int 0, .int 0])) :: ([(q8, .inl (gcI γ, 160, .inl (fun _ => 0)))])) 0 hin rfl inT9 tyX9_ok nmX9 rfl (ci := 8) (T := TX9) rfl (j := 0) rfl wd_175 rfl (ty := .array .int) (by decide +kernel) rfl rfl rfl rfl dX9_init_10 ?_
  refine g_aload_n C 0 dX9_init_13 rfl ?_
  refine g_iconst C (v := 3) dX9_init_14 (by decide) ?_
  refine g_newI C wd_128 (N := 3) (by decide) (by decide) (by decide) (by exact Nat.le_of_ble_eq_true rfl) (by exact Nat.le_of_ble_eq_true rfl) dX9_init_15 (fun q15 => ?_)
  refine g_w (ws' := (h0, .inr (8, [.ref q8, .null, .null, .int 0, .int 0])) :: (ap ([(q8, .inl (gcI γ, 160, .inl (fun _ => 0)))]) ([(q15, .inl (gcI γ, 3, .inl (fun _ => 0)))]))) rfl ?_
  refine g_putF C (ws' := (h0, .inr (8, [.ref q8, .ref q15, .null, .int 0, .int 0])) :: (ap ([(q8, .inl (gcI γ, 160, .inl (fun _ => 0)))]) ([(q15, .inl (gcI γ, 3, .inl (fun _ => 0)))]))) 0 hin rfl inT9 tyX9_ok nmX9 rfl (ci := 8) (T := TX9) rfl (j := 1) rfl wd_176 rfl (ty := .array .int) (by decide +kernel) rfl rfl rfl rfl dX9_init_17 ?_
  refine g_aload_n C 0 dX9_init_20 rfl ?_
  refine g_bipush C (v := 32) dX9_init_21 (by decide) ?_
  refine g_newI C wd_128 (N := 32) (by decide) (by decide) (by decide) (by exact Nat.le_of_ble_eq_true rfl) (by exact Nat.le_of_ble_eq_true rfl) dX9_init_23 (fun q23 => ?_)
  refine g_w (ws' := (h0, .inr (8, [.ref q8, .ref q15, .null, .int 0, .int 0])) :: (ap (ap ([(q8, .inl (gcI γ, 160, .inl (fun _ => 0)))]) ([(q15, .inl (gcI γ, 3, .inl (fun _ => 0)))])) ([(q23, .inl (gcI γ, 32, .inl (fun _ => 0)))]))) rfl ?_
  refine g_putF C (ws' := (h0, .inr (8, [.ref q8, .ref q15, .ref q23, .int 0, .int 0])) :: (ap (ap ([(q8, .inl (gcI γ, 160, .inl (fun _ => 0)))]) ([(q15, .inl (gcI γ, 3, .inl (fun _ => 0)))])) ([(q23, .inl (gcI γ, 32, .inl (fun _ => 0)))]))) 0 hin rfl inT9 tyX9_ok nmX9 rfl (ci := 8) (T := TX9) rfl (j := 2) rfl wd_177 rfl (ty := .array .int) (by decide +kernel) rfl rfl rfl rfl dX9_init_25 ?_
  exact g_vret C (fun i => [q8, q15, q23].getD i 0) rfl dX9_init_28
def wX8 (γ : GT) (h0 : Nat) (qs : Nat → Nat) : va_W := (h0, .inr (7, [.ref (qs 0), .ref (qs 1), .ref (qs 2), .int 0, .int 0])) :: (ap (ap ([((qs 0), .inl (gcI γ, 160, .inl (fun _ => 0)))]) ([((qs 1), .inl (gcI γ, 160, .inl (fun _ => 0)))])) ([((qs 2), .inl (gcI γ, 160, .inl (fun _ => 0)))]))
theorem k8_init (l : Launch) {γ : GT} (h0 : Nat) : Kt l γ yX8_init cX8_init 1 1 3 480 [.ref h0] [(h0, .inr (7, [.null, .null, .null, .int 0, .int 0]))] (wX8 γ h0) := by
  refine Kt.of (own := "EveryoneWins$Tape") (by decide) rfl rfl rfl rfl (fun κ sz hl0 hin C => ?_)
  subst hl0
  refine g_aload_n C 0 dX8_init_0 rfl ?_
  refine g_objInit C wd_208 wd_99 wd_100 (by exact Nat.le_of_ble_eq_true rfl) (by exact Nat.le_of_ble_eq_true rfl) dX8_init_1 ?_
  refine g_aload_n C 0 dX8_init_4 rfl ?_
  refine g_sipush C (v := 160) dX8_init_5 (by decide) ?_
  refine g_newI C wd_128 (N := 160) (by decide) (by decide) (by decide) (by exact Nat.le_of_ble_eq_true rfl) (by exact Nat.le_of_ble_eq_true rfl) dX8_init_8 (fun q8 => ?_)
  refine g_w (ws' := (h0, .inr (7, [.null, .null, .null, .int 0, .int 0])) :: ([(q8, .inl (gcI γ, 160, .inl (fun _ => 0)))])) rfl ?_
  refine g_putF C (ws' := (h0, .inr (7, [.ref q8, .null, .null, .int 0, .int 0])) :: ([(q8, .inl (gcI γ, 160, .inl (fun _ => 0)))])) 0 hin rfl inT8 tyX8_ok nmX8 rfl (ci := 7) (T := TX8) rfl (j := 0) rfl wd_209 rfl (ty := .array .int) (by decide +kernel) rfl rfl rfl rfl dX8_init_10 ?_
  refine g_aload_n C 0 dX8_init_13 rfl ?_
  refine g_sipush C (v := 160) dX8_init_14 (by decide) ?_
  refine g_newI C wd_128 (N := 160) (by decide) (by decide) (by decide) (by exact Nat.le_of_ble_eq_true rfl) (by exact Nat.le_of_ble_eq_true rfl) dX8_init_17 (fun q17 => ?_)
  refine g_w (ws' := (h0, .inr (7, [.ref q8, .null, .null, .int 0, .int 0])) :: (ap ([(q8, .inl (gcI γ, 160, .inl (fun _ => 0)))]) ([(q17, .inl (gcI γ, 160, .inl (fun _ => 0)))]))) rfl ?_
  refine g_putF C (ws' := (h0, .inr (7, [.ref q8, .ref q17, .null, .int 0, .int 0])) :: (ap ([(q8, .inl (gcI γ, 160, .inl (fun _ => 0)))]) ([(q17, .inl (gcI γ, 160, .inl (fun _ => 0)))]))) 0 hin rfl inT8 tyX8_ok nmX8 rfl (ci := 7) (T := TX8) rfl (j := 1) rfl wd_210 rfl (ty := .array .int) (by decide +kernel) rfl rfl rfl rfl dX8_init_19 ?_
  refine g_aload_n C 0 dX8_init_22 rfl ?_
  refine g_sipush C (v := 160) dX8_init_23 (by decide) ?_
  refine g_newI C wd_128 (N := 160) (by decide) (by decide) (by decide) (by exact Nat.le_of_ble_eq_true rfl) (by exact Nat.le_of_ble_eq_true rfl) dX8_init_26 (fun q26 => ?_)
  refine g_w (ws' := (h0, .inr (7, [.ref q8, .ref q17, .null, .int 0, .int 0])) :: (ap (ap ([(q8, .inl (gcI γ, 160, .inl (fun _ => 0)))]) ([(q17, .inl (gcI γ, 160, .inl (fun _ => 0)))])) ([(q26, .inl (gcI γ, 160, .inl (fun _ => 0)))]))) rfl ?_
  refine g_putF C (ws' := (h0, .inr (7, [.ref q8, .ref q17, .ref q26, .int 0, .int 0])) :: (ap (ap ([(q8, .inl (gcI γ, 160, .inl (fun _ => 0)))]) ([(q17, .inl (gcI γ, 160, .inl (fun _ => 0)))])) ([(q26, .inl (gcI γ, 160, .inl (fun _ => 0)))]))) 0 hin rfl inT8 tyX8_ok nmX8 rfl (ci := 7) (T := TX8) rfl (j := 2) rfl wd_211 rfl (ty := .array .int) (by decide +kernel) rfl rfl rfl rfl dX8_init_28 ?_
  exact g_vret C (fun i => [q8, q17, q26].getD i 0) rfl dX8_init_31
def wX6 (γ : GT) (h0 : Nat) (t1 : Nat) (qs : Nat → Nat) : va_W := [(h0, .inr (5, [.ref t1, .int 0, .int 0, .int 0, .int 0]))]
theorem k6_init (l : Launch) {γ : GT} (h0 : Nat) (t1 : Nat) : Kt l γ yX6_init cX6_init 2 1 0 0 [.ref h0, .ref t1] [(h0, .inr (5, [.null, .int 0, .int 0, .int 0, .int 0]))] (wX6 γ h0 t1) := by
  refine Kt.of (own := "EveryoneWins$Reader") (by decide) rfl rfl rfl rfl (fun κ sz hl0 hin C => ?_)
  subst hl0
  refine g_aload_n C 0 dX6_init_0 rfl ?_
  refine g_objInit C wd_231 wd_99 wd_100 (by exact Nat.le_of_ble_eq_true rfl) (by exact Nat.le_of_ble_eq_true rfl) dX6_init_1 ?_
  refine g_aload_n C 0 dX6_init_4 rfl ?_
  refine g_aload_n C 1 dX6_init_5 rfl ?_
  refine g_putF C (ws' := [(h0, .inr (5, [.ref t1, .int 0, .int 0, .int 0, .int 0]))]) 0 hin rfl inT6 tyX6_ok nmX6 rfl (ci := 5) (T := TX6) rfl (j := 0) rfl wd_232 rfl (ty := .object "EveryoneWins$Tape") (by decide +kernel) rfl rfl rfl rfl dX6_init_6 ?_
  exact g_vret C (fun i => [].getD i 0) rfl dX6_init_9
def wX2 (γ : GT) (h0 : Nat) (t1 t2 t3 : Nat) (qs : Nat → Nat) : va_W := (h0, .inr (2, [.ref t1, .ref t2, .ref t3, .ref (qs 0), .ref (qs 1), .ref (qs 2), .ref (qs 3), .ref (qs 4), .int 0, .int 0, .int 0, .int 0])) :: (ap (ap (ap (ap ([((qs 0), .inl (gcI γ, 8, .inl (fun _ => 0)))]) ([((qs 1), .inl (gcI γ, 8, .inl (fun _ => 0)))])) ([((qs 2), .inl (gcI γ, 6, .inl (fun _ => 0)))])) ([((qs 3), .inl (gcI γ, 8, .inl (fun _ => 0)))])) ([((qs 4), .inl (gcI γ, 6, .inl (fun _ => 0)))]))
theorem k2_init (l : Launch) {γ : GT} (h0 : Nat) (t1 t2 t3 : Nat) : Kt l γ yX2_init cX2_init 4 1 5 36 [.ref h0, .ref t1, .ref t2, .ref t3] [(h0, .inr (2, [.null, .null, .null, .null, .null, .null, .null, .null, .int 0, .int 0, .int 0, .int 0]))] (wX2 γ h0 t1 t2 t3) := by
  refine Kt.of (own := "EveryoneWins$Day") (by decide) rfl rfl rfl rfl (fun κ sz hl0 hin C => ?_)
  subst hl0
  refine g_aload_n C 0 dX2_init_0 rfl ?_
  refine g_objInit C wd_253 wd_99 wd_100 (by exact Nat.le_of_ble_eq_true rfl) (by exact Nat.le_of_ble_eq_true rfl) dX2_init_1 ?_
  refine g_aload_n C 0 dX2_init_4 rfl ?_
  refine g_bipush C (v := 8) dX2_init_5 (by decide) ?_
  refine g_newI C wd_128 (N := 8) (by decide) (by decide) (by decide) (by exact Nat.le_of_ble_eq_true rfl) (by exact Nat.le_of_ble_eq_true rfl) dX2_init_7 (fun q7 => ?_)
  refine g_w (ws' := (h0, .inr (2, [.null, .null, .null, .null, .null, .null, .null, .null, .int 0, .int 0, .int 0, .int 0])) :: ([(q7, .inl (gcI γ, 8, .inl (fun _ => 0)))])) rfl ?_
  refine g_putF C (ws' := (h0, .inr (2, [.null, .null, .null, .ref q7, .null, .null, .null, .null, .int 0, .int 0, .int 0, .int 0])) :: ([(q7, .inl (gcI γ, 8, .inl (fun _ => 0)))])) 0 hin rfl inT2 tyX2_ok nmX2 rfl (ci := 2) (T := TX2) rfl (j := 3) rfl wd_257 rfl (ty := .array .int) (by decide +kernel) rfl rfl rfl rfl dX2_init_9 ?_
  refine g_aload_n C 0 dX2_init_12 rfl ?_
  refine g_bipush C (v := 8) dX2_init_13 (by decide) ?_
  refine g_newI C wd_128 (N := 8) (by decide) (by decide) (by decide) (by exact Nat.le_of_ble_eq_true rfl) (by exact Nat.le_of_ble_eq_true rfl) dX2_init_15 (fun q15 => ?_)
  refine g_w (ws' := (h0, .inr (2, [.null, .null, .null, .ref q7, .null, .null, .null, .null, .int 0, .int 0, .int 0, .int 0])) :: (ap ([(q7, .inl (gcI γ, 8, .inl (fun _ => 0)))]) ([(q15, .inl (gcI γ, 8, .inl (fun _ => 0)))]))) rfl ?_
  refine g_putF C (ws' := (h0, .inr (2, [.null, .null, .null, .ref q7, .ref q15, .null, .null, .null, .int 0, .int 0, .int 0, .int 0])) :: (ap ([(q7, .inl (gcI γ, 8, .inl (fun _ => 0)))]) ([(q15, .inl (gcI γ, 8, .inl (fun _ => 0)))]))) 0 hin rfl inT2 tyX2_ok nmX2 rfl (ci := 2) (T := TX2) rfl (j := 4) rfl wd_260 rfl (ty := .array .int) (by decide +kernel) rfl rfl rfl rfl dX2_init_17 ?_
  refine g_aload_n C 0 dX2_init_20 rfl ?_
  refine g_bipush C (v := 6) dX2_init_21 (by decide) ?_
  refine g_newI C wd_128 (N := 6) (by decide) (by decide) (by decide) (by exact Nat.le_of_ble_eq_true rfl) (by exact Nat.le_of_ble_eq_true rfl) dX2_init_23 (fun q23 => ?_)
  refine g_w (ws' := (h0, .inr (2, [.null, .null, .null, .ref q7, .ref q15, .null, .null, .null, .int 0, .int 0, .int 0, .int 0])) :: (ap (ap ([(q7, .inl (gcI γ, 8, .inl (fun _ => 0)))]) ([(q15, .inl (gcI γ, 8, .inl (fun _ => 0)))])) ([(q23, .inl (gcI γ, 6, .inl (fun _ => 0)))]))) rfl ?_
  refine g_putF C (ws' := (h0, .inr (2, [.null, .null, .null, .ref q7, .ref q15, .ref q23, .null, .null, .int 0, .int 0, .int 0, .int 0])) :: (ap (ap ([(q7, .inl (gcI γ, 8, .inl (fun _ => 0)))]) ([(q15, .inl (gcI γ, 8, .inl (fun _ => 0)))])) ([(q23, .inl (gcI γ, 6, .inl (fun _ => 0)))]))) 0 hin rfl inT2 tyX2_ok nmX2 rfl (ci := 2) (T := TX2) rfl (j := 5) rfl wd_262 rfl (ty := .array .int) (by decide +kernel) rfl rfl rfl rfl dX2_init_25 ?_
  refine g_aload_n C 0 dX2_init_28 rfl ?_
  refine g_bipush C (v := 8) dX2_init_29 (by decide) ?_
  refine g_newI C wd_128 (N := 8) (by decide) (by decide) (by decide) (by exact Nat.le_of_ble_eq_true rfl) (by exact Nat.le_of_ble_eq_true rfl) dX2_init_31 (fun q31 => ?_)
  refine g_w (ws' := (h0, .inr (2, [.null, .null, .null, .ref q7, .ref q15, .ref q23, .null, .null, .int 0, .int 0, .int 0, .int 0])) :: (ap (ap (ap ([(q7, .inl (gcI γ, 8, .inl (fun _ => 0)))]) ([(q15, .inl (gcI γ, 8, .inl (fun _ => 0)))])) ([(q23, .inl (gcI γ, 6, .inl (fun _ => 0)))])) ([(q31, .inl (gcI γ, 8, .inl (fun _ => 0)))]))) rfl ?_
  refine g_putF C (ws' := (h0, .inr (2, [.null, .null, .null, .ref q7, .ref q15, .ref q23, .ref q31, .null, .int 0, .int 0, .int 0, .int 0])) :: (ap (ap (ap ([(q7, .inl (gcI γ, 8, .inl (fun _ => 0)))]) ([(q15, .inl (gcI γ, 8, .inl (fun _ => 0)))])) ([(q23, .inl (gcI γ, 6, .inl (fun _ => 0)))])) ([(q31, .inl (gcI γ, 8, .inl (fun _ => 0)))]))) 0 hin rfl inT2 tyX2_ok nmX2 rfl (ci := 2) (T := TX2) rfl (j := 6) rfl wd_264 rfl (ty := .array .int) (by decide +kernel) rfl rfl rfl rfl dX2_init_33 ?_
  refine g_aload_n C 0 dX2_init_36 rfl ?_
  refine g_bipush C (v := 6) dX2_init_37 (by decide) ?_
  refine g_newI C wd_128 (N := 6) (by decide) (by decide) (by decide) (by exact Nat.le_of_ble_eq_true rfl) (by exact Nat.le_of_ble_eq_true rfl) dX2_init_39 (fun q39 => ?_)
  refine g_w (ws' := (h0, .inr (2, [.null, .null, .null, .ref q7, .ref q15, .ref q23, .ref q31, .null, .int 0, .int 0, .int 0, .int 0])) :: (ap (ap (ap (ap ([(q7, .inl (gcI γ, 8, .inl (fun _ => 0)))]) ([(q15, .inl (gcI γ, 8, .inl (fun _ => 0)))])) ([(q23, .inl (gcI γ, 6, .inl (fun _ => 0)))])) ([(q31, .inl (gcI γ, 8, .inl (fun _ => 0)))])) ([(q39, .inl (gcI γ, 6, .inl (fun _ => 0)))]))) rfl ?_
  refine g_putF C (ws' := (h0, .inr (2, [.null, .null, .null, .ref q7, .ref q15, .ref q23, .ref q31, .ref q39, .int 0, .int 0, .int 0, .int 0])) :: (ap (ap (ap (ap ([(q7, .inl (gcI γ, 8, .inl (fun _ => 0)))]) ([(q15, .inl (gcI γ, 8, .inl (fun _ => 0)))])) ([(q23, .inl (gcI γ, 6, .inl (fun _ => 0)))])) ([(q31, .inl (gcI γ, 8, .inl (fun _ => 0)))])) ([(q39, .inl (gcI γ, 6, .inl (fun _ => 0)))]))) 0 hin rfl inT2 tyX2_ok nmX2 rfl (ci := 2) (T := TX2) rfl (j := 7) rfl wd_265 rfl (ty := .array .int) (by decide +kernel) rfl rfl rfl rfl dX2_init_41 ?_
  refine g_aload_n C 0 dX2_init_44 rfl ?_
  refine g_aload_n C 1 dX2_init_45 rfl ?_
  refine g_putF C (ws' := (h0, .inr (2, [.ref t1, .null, .null, .ref q7, .ref q15, .ref q23, .ref q31, .ref q39, .int 0, .int 0, .int 0, .int 0])) :: (ap (ap (ap (ap ([(q7, .inl (gcI γ, 8, .inl (fun _ => 0)))]) ([(q15, .inl (gcI γ, 8, .inl (fun _ => 0)))])) ([(q23, .inl (gcI γ, 6, .inl (fun _ => 0)))])) ([(q31, .inl (gcI γ, 8, .inl (fun _ => 0)))])) ([(q39, .inl (gcI γ, 6, .inl (fun _ => 0)))]))) 0 hin rfl inT2 tyX2_ok nmX2 rfl (ci := 2) (T := TX2) rfl (j := 0) rfl wd_254 rfl (ty := .object "EveryoneWins$Children") (by decide +kernel) rfl rfl rfl rfl dX2_init_46 ?_
  refine g_aload_n C 0 dX2_init_49 rfl ?_
  refine g_aload_n C 2 dX2_init_50 rfl ?_
  refine g_putF C (ws' := (h0, .inr (2, [.ref t1, .ref t2, .null, .ref q7, .ref q15, .ref q23, .ref q31, .ref q39, .int 0, .int 0, .int 0, .int 0])) :: (ap (ap (ap (ap ([(q7, .inl (gcI γ, 8, .inl (fun _ => 0)))]) ([(q15, .inl (gcI γ, 8, .inl (fun _ => 0)))])) ([(q23, .inl (gcI γ, 6, .inl (fun _ => 0)))])) ([(q31, .inl (gcI γ, 8, .inl (fun _ => 0)))])) ([(q39, .inl (gcI γ, 6, .inl (fun _ => 0)))]))) 0 hin rfl inT2 tyX2_ok nmX2 rfl (ci := 2) (T := TX2) rfl (j := 1) rfl wd_255 rfl (ty := .object "EveryoneWins$Races") (by decide +kernel) rfl rfl rfl rfl dX2_init_51 ?_
  refine g_aload_n C 0 dX2_init_54 rfl ?_
  refine g_aload_n C 3 dX2_init_55 rfl ?_
  refine g_putF C (ws' := (h0, .inr (2, [.ref t1, .ref t2, .ref t3, .ref q7, .ref q15, .ref q23, .ref q31, .ref q39, .int 0, .int 0, .int 0, .int 0])) :: (ap (ap (ap (ap ([(q7, .inl (gcI γ, 8, .inl (fun _ => 0)))]) ([(q15, .inl (gcI γ, 8, .inl (fun _ => 0)))])) ([(q23, .inl (gcI γ, 6, .inl (fun _ => 0)))])) ([(q31, .inl (gcI γ, 8, .inl (fun _ => 0)))])) ([(q39, .inl (gcI γ, 6, .inl (fun _ => 0)))]))) 0 hin rfl inT2 tyX2_ok nmX2 rfl (ci := 2) (T := TX2) rfl (j := 2) rfl wd_256 rfl (ty := .object "EveryoneWins$Texts") (by decide +kernel) rfl rfl rfl rfl dX2_init_56 ?_
  exact g_vret C (fun i => [q7, q15, q23, q31, q39].getD i 0) rfl dX2_init_59
def wX7 (γ : GT) (h0 : Nat) (qs : Nat → Nat) : va_W := (h0, .inr (6, [.ref (qs 0), .int (-1), .int 0])) :: ([((qs 0), .inl (gcI γ, 40, .inl (fun _ => 0)))])
theorem k7_init (l : Launch) {γ : GT} (h0 : Nat) : Kt l γ yX7_init cX7_init 1 1 1 40 [.ref h0] [(h0, .inr (6, [.null, .int 0, .int 0]))] (wX7 γ h0) := by
  refine Kt.of (own := "EveryoneWins$Sheet") (by decide) rfl rfl rfl rfl (fun κ sz hl0 hin C => ?_)
  subst hl0
  refine g_aload_n C 0 dX7_init_0 rfl ?_
  refine g_objInit C wd_348 wd_99 wd_100 (by exact Nat.le_of_ble_eq_true rfl) (by exact Nat.le_of_ble_eq_true rfl) dX7_init_1 ?_
  refine g_aload_n C 0 dX7_init_4 rfl ?_
  refine g_bipush C (v := 40) dX7_init_5 (by decide) ?_
  refine g_newI C wd_128 (N := 40) (by decide) (by decide) (by decide) (by exact Nat.le_of_ble_eq_true rfl) (by exact Nat.le_of_ble_eq_true rfl) dX7_init_7 (fun q7 => ?_)
  refine g_w (ws' := (h0, .inr (6, [.null, .int 0, .int 0])) :: ([(q7, .inl (gcI γ, 40, .inl (fun _ => 0)))])) rfl ?_
  refine g_putF C (ws' := (h0, .inr (6, [.ref q7, .int 0, .int 0])) :: ([(q7, .inl (gcI γ, 40, .inl (fun _ => 0)))])) 0 hin rfl inT7 tyX7_ok nmX7 rfl (ci := 6) (T := TX7) rfl (j := 0) rfl wd_349 rfl (ty := .array .int) (by decide +kernel) rfl rfl rfl rfl dX7_init_9 ?_
  refine g_aload_n C 0 dX7_init_12 rfl ?_
  refine g_iconst C (v := (-1)) dX7_init_13 (by decide) ?_
  refine g_put C (ws' := (h0, .inr (6, [.ref q7, .int (-1), .int 0])) :: ([(q7, .inl (gcI γ, 40, .inl (fun _ => 0)))])) 0 inT7 tyX7_ok nmX7 rfl (ci := 6) (T := TX7) rfl (j := 1) rfl wd_351 rfl (ty := .int) (by decide +kernel) rfl rfl rfl rfl dX7_init_14 ?_
  exact g_vret C (fun i => [q7].getD i 0) rfl dX7_init_17
def wX4 (γ : GT) (h0 : Nat) (t1 t2 : Nat) (qs : Nat → Nat) : va_W := (h0, .inr (3, [.ref t1, .ref t2, .ref (qs 0), .ref (qs 1), .ref (qs 2)])) :: (ap (ap ([((qs 0), .inl (gcI γ, 6, .inl (fun _ => 0)))]) (mw γ (qs 1) 6 8)) ([((qs 2), .inl (gcI γ, 6, .inl (fun _ => 0)))]))
theorem k4_init (l : Launch) {γ : GT} (h0 : Nat) (t1 t2 : Nat) : Kt l γ yX4_init cX4_init 3 1 9 66 [.ref h0, .ref t1, .ref t2] [(h0, .inr (3, [.null, .null, .null, .null, .null]))] (wX4 γ h0 t1 t2) := by
  refine Kt.of (own := "EveryoneWins$Orders") (by decide) rfl rfl rfl rfl (fun κ sz hl0 hin C => ?_)
  subst hl0
  refine g_aload_n C 0 dX4_init_0 rfl ?_
  refine g_objInit C wd_323 wd_99 wd_100 (by exact Nat.le_of_ble_eq_true rfl) (by exact Nat.le_of_ble_eq_true rfl) dX4_init_1 ?_
  refine g_aload_n C 0 dX4_init_4 rfl ?_
  refine g_bipush C (v := 6) dX4_init_5 (by decide) ?_
  refine g_newI C wd_128 (N := 6) (by decide) (by decide) (by decide) (by exact Nat.le_of_ble_eq_true rfl) (by exact Nat.le_of_ble_eq_true rfl) dX4_init_7 (fun q7 => ?_)
  refine g_w (ws' := (h0, .inr (3, [.null, .null, .null, .null, .null])) :: ([(q7, .inl (gcI γ, 6, .inl (fun _ => 0)))])) rfl ?_
  refine g_putF C (ws' := (h0, .inr (3, [.null, .null, .ref q7, .null, .null])) :: ([(q7, .inl (gcI γ, 6, .inl (fun _ => 0)))])) 0 hin rfl inT4 tyX4_ok nmX4 rfl (ci := 3) (T := TX4) rfl (j := 2) rfl wd_328 rfl (ty := .array .int) (by decide +kernel) rfl rfl rfl rfl dX4_init_9 ?_
  refine g_aload_n C 0 dX4_init_12 rfl ?_
  refine g_bipush C (v := 6) dX4_init_13 (by decide) ?_
  refine g_bipush C (v := 8) dX4_init_15 (by decide) ?_
  refine g_multi C wd_324 wd_128 (N := 6) (M := 8) (by decide) (by decide) (by decide) (by decide) (by decide) (by decide) (by exact Nat.le_of_ble_eq_true rfl) (by exact Nat.le_of_ble_eq_true rfl) dX4_init_17 (fun q17 => ?_)
  refine g_w (ws' := (h0, .inr (3, [.null, .null, .ref q7, .null, .null])) :: (ap ([(q7, .inl (gcI γ, 6, .inl (fun _ => 0)))]) (mw γ q17 6 8))) rfl ?_
  refine g_putF C (ws' := (h0, .inr (3, [.null, .null, .ref q7, .ref q17, .null])) :: (ap ([(q7, .inl (gcI γ, 6, .inl (fun _ => 0)))]) (mw γ q17 6 8))) 0 hin rfl inT4 tyX4_ok nmX4 rfl (ci := 3) (T := TX4) rfl (j := 3) rfl wd_329 rfl (ty := .array (.array .int)) (by decide +kernel) rfl rfl rfl rfl dX4_init_21 ?_
  refine g_aload_n C 0 dX4_init_24 rfl ?_
  refine g_bipush C (v := 6) dX4_init_25 (by decide) ?_
  refine g_newI C wd_128 (N := 6) (by decide) (by decide) (by decide) (by exact Nat.le_of_ble_eq_true rfl) (by exact Nat.le_of_ble_eq_true rfl) dX4_init_27 (fun q27 => ?_)
  refine g_w (ws' := (h0, .inr (3, [.null, .null, .ref q7, .ref q17, .null])) :: (ap (ap ([(q7, .inl (gcI γ, 6, .inl (fun _ => 0)))]) (mw γ q17 6 8)) ([(q27, .inl (gcI γ, 6, .inl (fun _ => 0)))]))) rfl ?_
  refine g_putF C (ws' := (h0, .inr (3, [.null, .null, .ref q7, .ref q17, .ref q27])) :: (ap (ap ([(q7, .inl (gcI γ, 6, .inl (fun _ => 0)))]) (mw γ q17 6 8)) ([(q27, .inl (gcI γ, 6, .inl (fun _ => 0)))]))) 0 hin rfl inT4 tyX4_ok nmX4 rfl (ci := 3) (T := TX4) rfl (j := 4) rfl wd_330 rfl (ty := .array .int) (by decide +kernel) rfl rfl rfl rfl dX4_init_29 ?_
  refine g_aload_n C 0 dX4_init_32 rfl ?_
  refine g_aload_n C 1 dX4_init_33 rfl ?_
  refine g_putF C (ws' := (h0, .inr (3, [.ref t1, .null, .ref q7, .ref q17, .ref q27])) :: (ap (ap ([(q7, .inl (gcI γ, 6, .inl (fun _ => 0)))]) (mw γ q17 6 8)) ([(q27, .inl (gcI γ, 6, .inl (fun _ => 0)))]))) 0 hin rfl inT4 tyX4_ok nmX4 rfl (ci := 3) (T := TX4) rfl (j := 0) rfl wd_326 rfl (ty := .object "EveryoneWins$Races") (by decide +kernel) rfl rfl rfl rfl dX4_init_34 ?_
  refine g_aload_n C 0 dX4_init_37 rfl ?_
  refine g_aload_n C 2 dX4_init_38 rfl ?_
  refine g_putF C (ws' := (h0, .inr (3, [.ref t1, .ref t2, .ref q7, .ref q17, .ref q27])) :: (ap (ap ([(q7, .inl (gcI γ, 6, .inl (fun _ => 0)))]) (mw γ q17 6 8)) ([(q27, .inl (gcI γ, 6, .inl (fun _ => 0)))]))) 0 hin rfl inT4 tyX4_ok nmX4 rfl (ci := 3) (T := TX4) rfl (j := 1) rfl wd_327 rfl (ty := .object "EveryoneWins$Day") (by decide +kernel) rfl rfl rfl rfl dX4_init_39 ?_
  exact g_vret C (fun i => [q7, q17, q27].getD i 0) rfl dX4_init_42
