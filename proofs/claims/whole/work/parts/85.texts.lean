/-! constructors: the texts -/
set_option maxHeartbeats 4000000
set_option maxRecDepth 100000
def lmt_0 : List (Nat × Cond) := [(167, Cond.methodLink "EveryoneWins$Texts" 3 Lib.objectInit), (168, Cond.classLink "EveryoneWins$Texts" 9 "EveryoneWins$Text"), (170, Cond.instantiable "EveryoneWins$Text" 5)]
theorem mt_0 : okw lmt_0 = true := by decide +kernel
theorem wd_167 : Cond.methodLink "EveryoneWins$Texts" 3 Lib.objectInit ∈ gtbl := okw_at mt_0 0 rfl
theorem wd_168 : Cond.classLink "EveryoneWins$Texts" 9 "EveryoneWins$Text" ∈ gtbl := okw_at mt_0 1 rfl
theorem wd_170 : Cond.instantiable "EveryoneWins$Text" 5 ∈ gtbl := okw_at mt_0 2 rfl
theorem wn_171 : ("EveryoneWins$Texts", 17, yX9_init, "EveryoneWins") ∈ nestL := nest_of (k := 171) (by decide +kernel)
def lmX10_init_0 : List (Nat × Instr × Nat) := [(0, .aload_n 0, 1), (1, .invokespecial 3, 3), (4, .aload_n 0, 1), (5, .bipush 6, 2), (7, .anewarray 9, 3), (10, .putfield 11, 3), (13, .iconst 0, 1), (14, .istore_n 1, 1), (15, .iload_n 1, 1), (16, .aload_n 0, 1), (17, .getfield 11, 3), (20, .arraylength, 1), (21, .if_icmp .ge 22, 3), (24, .aload_n 0, 1), (25, .getfield 11, 3), (28, .iload_n 1, 1), (29, .new 9, 3), (32, .dup, 1), (33, .invokespecial 17, 3), (36, .aastore, 1), (37, .iinc 1 1, 3), (40, .goto (-25), 3), (43, .return_, 1)]
theorem mX10_init_0 : okd cX10_init lmX10_init_0 = true := by decide +kernel
theorem dX10_init_0 : decode cX10_init 0 = .ok (.aload_n 0, 1) := okd_at mX10_init_0 0 rfl
theorem dX10_init_1 : decode cX10_init 1 = .ok (.invokespecial 3, 3) := okd_at mX10_init_0 1 rfl
theorem dX10_init_4 : decode cX10_init 4 = .ok (.aload_n 0, 1) := okd_at mX10_init_0 2 rfl
theorem dX10_init_5 : decode cX10_init 5 = .ok (.bipush 6, 2) := okd_at mX10_init_0 3 rfl
theorem dX10_init_7 : decode cX10_init 7 = .ok (.anewarray 9, 3) := okd_at mX10_init_0 4 rfl
theorem dX10_init_10 : decode cX10_init 10 = .ok (.putfield 11, 3) := okd_at mX10_init_0 5 rfl
theorem dX10_init_13 : decode cX10_init 13 = .ok (.iconst 0, 1) := okd_at mX10_init_0 6 rfl
theorem dX10_init_14 : decode cX10_init 14 = .ok (.istore_n 1, 1) := okd_at mX10_init_0 7 rfl
theorem dX10_init_15 : decode cX10_init 15 = .ok (.iload_n 1, 1) := okd_at mX10_init_0 8 rfl
theorem dX10_init_16 : decode cX10_init 16 = .ok (.aload_n 0, 1) := okd_at mX10_init_0 9 rfl
theorem dX10_init_17 : decode cX10_init 17 = .ok (.getfield 11, 3) := okd_at mX10_init_0 10 rfl
theorem dX10_init_20 : decode cX10_init 20 = .ok (.arraylength, 1) := okd_at mX10_init_0 11 rfl
theorem dX10_init_21 : decode cX10_init 21 = .ok (.if_icmp .ge 22, 3) := okd_at mX10_init_0 12 rfl
theorem dX10_init_24 : decode cX10_init 24 = .ok (.aload_n 0, 1) := okd_at mX10_init_0 13 rfl
theorem dX10_init_25 : decode cX10_init 25 = .ok (.getfield 11, 3) := okd_at mX10_init_0 14 rfl
theorem dX10_init_28 : decode cX10_init 28 = .ok (.iload_n 1, 1) := okd_at mX10_init_0 15 rfl
theorem dX10_init_29 : decode cX10_init 29 = .ok (.new 9, 3) := okd_at mX10_init_0 16 rfl
theorem dX10_init_32 : decode cX10_init 32 = .ok (.dup, 1) := okd_at mX10_init_0 17 rfl
theorem dX10_init_33 : decode cX10_init 33 = .ok (.invokespecial 17, 3) := okd_at mX10_init_0 18 rfl
theorem dX10_init_36 : decode cX10_init 36 = .ok (.aastore, 1) := okd_at mX10_init_0 19 rfl
theorem dX10_init_37 : decode cX10_init 37 = .ok (.iinc 1 1, 3) := okd_at mX10_init_0 20 rfl
theorem dX10_init_40 : decode cX10_init 40 = .ok (.goto (-25), 3) := okd_at mX10_init_0 21 rfl
theorem dX10_init_43 : decode cX10_init 43 = .ok (.return_, 1) := okd_at mX10_init_0 22 rfl
def wX10 (γ : GT) (h0 : Nat) (qs : Nat → Nat) : va_W := (h0, .inr (9, [.ref (qs 0), .int 0, .int 0])) :: (ap (ap (ap (ap (ap (ap ([((qs 0), .inl (gcT γ, 6, .inr (.inr (.inr (.inr (va_up (va_up (va_up (va_up (va_up (va_up (fun _ => none) 0 (some (qs 1))) 1 (some (qs 5))) 2 (some (qs 9))) 3 (some (qs 13))) 4 (some (qs 17))) 5 (some (qs 21))))))))]) (wX9 γ (qs 1) (fun j => qs (2 + j)))) (wX9 γ (qs 5) (fun j => qs (6 + j)))) (wX9 γ (qs 9) (fun j => qs (10 + j)))) (wX9 γ (qs 13) (fun j => qs (14 + j)))) (wX9 γ (qs 17) (fun j => qs (18 + j)))) (wX9 γ (qs 21) (fun j => qs (22 + j))))
theorem k10_init (l : Launch) {γ : GT} (h0 : Nat) : Kt l γ yX10_init cX10_init 2 2 25 1206 [.ref h0] [(h0, .inr (9, [.null, .int 0, .int 0]))] (wX10 γ h0) := by
  refine Kt.of (own := "EveryoneWins$Texts") (by decide) rfl rfl rfl rfl (fun κ sz hl0 hin C => ?_)
  subst hl0
  refine g_aload_n C 0 dX10_init_0 rfl ?_
  refine g_objInit C wd_167 wd_99 wd_100 (by exact Nat.le_of_ble_eq_true rfl) (by exact Nat.le_of_ble_eq_true rfl) dX10_init_1 ?_
  refine g_aload_n C 0 dX10_init_4 rfl ?_
  refine g_bipush C (v := 6) dX10_init_5 (by decide) ?_
  refine g_newQ C (t := 1) (cR := gcT γ) rfl C.AO.1 wd_168 (N := 6) (by decide) (by decide) (by decide) (by exact Nat.le_of_ble_eq_true rfl) (by exact Nat.le_of_ble_eq_true rfl) dX10_init_7 (fun q7 => ?_)
  refine g_w (ws' := (h0, .inr (9, [.null, .int 0, .int 0])) :: ([(q7, .inl (gcT γ, 6, .inr (.inr (.inr (.inr (fun _ => none))))))])) rfl ?_
  refine g_putF C (ws' := (h0, .inr (9, [.ref q7, .int 0, .int 0])) :: ([(q7, .inl (gcT γ, 6, .inr (.inr (.inr (.inr (fun _ => none))))))])) 0 hin rfl inT10 tyX10_ok nmX10 rfl (ci := 9) (T := TX10) rfl (j := 0) rfl wd_191 rfl (ty := .array (.object "EveryoneWins$Text")) (by decide +kernel) rfl rfl rfl rfl dX10_init_10 ?_
  refine g_iconst C (v := 0) dX10_init_13 (by decide) ?_
  refine g_istore_n C dX10_init_14 (i := 1) rfl rfl rfl ?_
  refine g_iload_n C 0 dX10_init_15 rfl ?_
  refine g_aload_n C 1 dX10_init_16 rfl ?_
  refine g_get C 0 inT10 rfl (ci := 9) (T := TX10) rfl (j := 0) rfl wd_191 (v := .ref q7) rfl dX10_init_17 ?_
  refine g_alenQ C 1 (t := 1) (cR := gcT γ) rfl rfl (v := 6) (by decide) dX10_init_20 ?_
  refine g_icmp_ge C dX10_init_21 (tgt := 43) rfl (fun h => absurd h (by decide)) (fun _ => ?_)
  refine g_aload_n C 1 dX10_init_24 rfl ?_
  refine g_get C 0 inT10 rfl (ci := 9) (T := TX10) rfl (j := 0) rfl wd_191 (v := .ref q7) rfl dX10_init_25 ?_
  refine g_iload_n C 0 dX10_init_28 rfl ?_
  refine g_new C (ty0 := tyX9) (fs := [.null, .null, .null, .int 0, .int 0]) inT9 tyX9_ok wd_168 wd_170 wd_77 (ci := 8) rfl (by decide) (by exact Nat.le_of_ble_eq_true rfl) (by exact Nat.le_of_ble_eq_true rfl) dX10_init_29 (fun q29 => ?_)
  refine g_dup C dX10_init_32 rfl ?_
  refine g_callIN (wr := (h0, .inr (9, [.ref q7, .int 0, .int 0])) :: ([(q7, .inl (gcT γ, 6, .inr (.inr (.inr (.inr (fun _ => none))))))])) (wc := [(q29, .inr (8, [.null, .null, .null, .int 0, .int 0]))]) (b := q29) (As := []) C ib_X9 (k9_init _ q29) rfl (by decide) wn_171 rfl (by exact Nat.le_of_ble_eq_true rfl) (by exact Nat.le_of_ble_eq_true rfl) dX10_init_33 (fun s29 => ?_)
  refine g_w (ws' := (h0, .inr (9, [.ref q7, .int 0, .int 0])) :: (ap ([(q7, .inl (gcT γ, 6, .inr (.inr (.inr (.inr (fun _ => none))))))]) (wX9 γ q29 s29))) rfl ?_
  refine g_astq C (ws' := (h0, .inr (9, [.ref q7, .int 0, .int 0])) :: (ap ([(q7, .inl (gcT γ, 6, .inr (.inr (.inr (.inr (va_up (fun _ => none) 0 (some q29)))))))]) (wX9 γ q29 s29))) 1 2 (t := 1) (cR := gcT γ) (ci := 8) (r := (RX9, TX9, 5)) rfl rfl rfl rfl (by unfold vp_in; decide) rfl dX10_init_36 ?_
  refine g_iinc C 0 dX10_init_37 rfl (v := 1) (by decide) rfl rfl ?_
  refine g_goto C dX10_init_40 (tgt := 15) rfl ?_
  refine g_iload_n C 0 dX10_init_15 rfl ?_
  refine g_aload_n C 1 dX10_init_16 rfl ?_
  refine g_get C 0 inT10 rfl (ci := 9) (T := TX10) rfl (j := 0) rfl wd_191 (v := .ref q7) rfl dX10_init_17 ?_
  refine g_alenQ C 1 (t := 1) (cR := gcT γ) rfl rfl (v := 6) (by decide) dX10_init_20 ?_
  refine g_icmp_ge C dX10_init_21 (tgt := 43) rfl (fun h => absurd h (by decide)) (fun _ => ?_)
  refine g_aload_n C 1 dX10_init_24 rfl ?_
  refine g_get C 0 inT10 rfl (ci := 9) (T := TX10) rfl (j := 0) rfl wd_191 (v := .ref q7) rfl dX10_init_25 ?_
  refine g_iload_n C 0 dX10_init_28 rfl ?_
  refine g_new C (ty0 := tyX9) (fs := [.null, .null, .null, .int 0, .int 0]) inT9 tyX9_ok wd_168 wd_170 wd_77 (ci := 8) rfl (by decide) (by exact Nat.le_of_ble_eq_true rfl) (by exact Nat.le_of_ble_eq_true rfl) dX10_init_29 (fun q29_2 => ?_)
  refine g_dup C dX10_init_32 rfl ?_
  refine g_callIN (wr := (h0, .inr (9, [.ref q7, .int 0, .int 0])) :: (ap ([(q7, .inl (gcT γ, 6, .inr (.inr (.inr (.inr (va_up (fun _ => none) 0 (some q29)))))))]) (wX9 γ q29 s29))) (wc := [(q29_2, .inr (8, [.null, .null, .null, .int 0, .int 0]))]) (b := q29_2) (As := []) C ib_X9 (k9_init _ q29_2) rfl (by decide) wn_171 rfl (by exact Nat.le_of_ble_eq_true rfl) (by exact Nat.le_of_ble_eq_true rfl) dX10_init_33 (fun s29_2 => ?_)
  refine g_w (ws' := (h0, .inr (9, [.ref q7, .int 0, .int 0])) :: (ap (ap ([(q7, .inl (gcT γ, 6, .inr (.inr (.inr (.inr (va_up (fun _ => none) 0 (some q29)))))))]) (wX9 γ q29 s29)) (wX9 γ q29_2 s29_2))) rfl ?_
  refine g_astq C (ws' := (h0, .inr (9, [.ref q7, .int 0, .int 0])) :: (ap (ap ([(q7, .inl (gcT γ, 6, .inr (.inr (.inr (.inr (va_up (va_up (fun _ => none) 0 (some q29)) 1 (some q29_2)))))))]) (wX9 γ q29 s29)) (wX9 γ q29_2 s29_2))) 1 6 (t := 1) (cR := gcT γ) (ci := 8) (r := (RX9, TX9, 5)) rfl rfl rfl rfl (by unfold vp_in; decide) rfl dX10_init_36 ?_
  refine g_iinc C 0 dX10_init_37 rfl (v := 2) (by decide) rfl rfl ?_
  refine g_goto C dX10_init_40 (tgt := 15) rfl ?_
  refine g_iload_n C 0 dX10_init_15 rfl ?_
  refine g_aload_n C 1 dX10_init_16 rfl ?_
  refine g_get C 0 inT10 rfl (ci := 9) (T := TX10) rfl (j := 0) rfl wd_191 (v := .ref q7) rfl dX10_init_17 ?_
  refine g_alenQ C 1 (t := 1) (cR := gcT γ) rfl rfl (v := 6) (by decide) dX10_init_20 ?_
  refine g_icmp_ge C dX10_init_21 (tgt := 43) rfl (fun h => absurd h (by decide)) (fun _ => ?_)
  refine g_aload_n C 1 dX10_init_24 rfl ?_
  refine g_get C 0 inT10 rfl (ci := 9) (T := TX10) rfl (j := 0) rfl wd_191 (v := .ref q7) rfl dX10_init_25 ?_
  refine g_iload_n C 0 dX10_init_28 rfl ?_
  refine g_new C (ty0 := tyX9) (fs := [.null, .null, .null, .int 0, .int 0]) inT9 tyX9_ok wd_168 wd_170 wd_77 (ci := 8) rfl (by decide) (by exact Nat.le_of_ble_eq_true rfl) (by exact Nat.le_of_ble_eq_true rfl) dX10_init_29 (fun q29_3 => ?_)
  refine g_dup C dX10_init_32 rfl ?_
  refine g_callIN (wr := (h0, .inr (9, [.ref q7, .int 0, .int 0])) :: (ap (ap ([(q7, .inl (gcT γ, 6, .inr (.inr (.inr (.inr (va_up (va_up (fun _ => none) 0 (some q29)) 1 (some q29_2)))))))]) (wX9 γ q29 s29)) (wX9 γ q29_2 s29_2))) (wc := [(q29_3, .inr (8, [.null, .null, .null, .int 0, .int 0]))]) (b := q29_3) (As := []) C ib_X9 (k9_init _ q29_3) rfl (by decide) wn_171 rfl (by exact Nat.le_of_ble_eq_true rfl) (by exact Nat.le_of_ble_eq_true rfl) dX10_init_33 (fun s29_3 => ?_)
  refine g_w (ws' := (h0, .inr (9, [.ref q7, .int 0, .int 0])) :: (ap (ap (ap ([(q7, .inl (gcT γ, 6, .inr (.inr (.inr (.inr (va_up (va_up (fun _ => none) 0 (some q29)) 1 (some q29_2)))))))]) (wX9 γ q29 s29)) (wX9 γ q29_2 s29_2)) (wX9 γ q29_3 s29_3))) rfl ?_
  refine g_astq C (ws' := (h0, .inr (9, [.ref q7, .int 0, .int 0])) :: (ap (ap (ap ([(q7, .inl (gcT γ, 6, .inr (.inr (.inr (.inr (va_up (va_up (va_up (fun _ => none) 0 (some q29)) 1 (some q29_2)) 2 (some q29_3)))))))]) (wX9 γ q29 s29)) (wX9 γ q29_2 s29_2)) (wX9 γ q29_3 s29_3))) 1 10 (t := 1) (cR := gcT γ) (ci := 8) (r := (RX9, TX9, 5)) rfl rfl rfl rfl (by unfold vp_in; decide) rfl dX10_init_36 ?_
  refine g_iinc C 0 dX10_init_37 rfl (v := 3) (by decide) rfl rfl ?_
  refine g_goto C dX10_init_40 (tgt := 15) rfl ?_
  refine g_iload_n C 0 dX10_init_15 rfl ?_
  refine g_aload_n C 1 dX10_init_16 rfl ?_
  refine g_get C 0 inT10 rfl (ci := 9) (T := TX10) rfl (j := 0) rfl wd_191 (v := .ref q7) rfl dX10_init_17 ?_
  refine g_alenQ C 1 (t := 1) (cR := gcT γ) rfl rfl (v := 6) (by decide) dX10_init_20 ?_
  refine g_icmp_ge C dX10_init_21 (tgt := 43) rfl (fun h => absurd h (by decide)) (fun _ => ?_)
  refine g_aload_n C 1 dX10_init_24 rfl ?_
  refine g_get C 0 inT10 rfl (ci := 9) (T := TX10) rfl (j := 0) rfl wd_191 (v := .ref q7) rfl dX10_init_25 ?_
  refine g_iload_n C 0 dX10_init_28 rfl ?_
  refine g_new C (ty0 := tyX9) (fs := [.null, .null, .null, .int 0, .int 0]) inT9 tyX9_ok wd_168 wd_170 wd_77 (ci := 8) rfl (by decide) (by exact Nat.le_of_ble_eq_true rfl) (by exact Nat.le_of_ble_eq_true rfl) dX10_init_29 (fun q29_4 => ?_)
  refine g_dup C dX10_init_32 rfl ?_
  refine g_callIN (wr := (h0, .inr (9, [.ref q7, .int 0, .int 0])) :: (ap (ap (ap ([(q7, .inl (gcT γ, 6, .inr (.inr (.inr (.inr (va_up (va_up (va_up (fun _ => none) 0 (some q29)) 1 (some q29_2)) 2 (some q29_3)))))))]) (wX9 γ q29 s29)) (wX9 γ q29_2 s29_2)) (wX9 γ q29_3 s29_3))) (wc := [(q29_4, .inr (8, [.null, .null, .null, .int 0, .int 0]))]) (b := q29_4) (As := []) C ib_X9 (k9_init _ q29_4) rfl (by decide) wn_171 rfl (by exact Nat.le_of_ble_eq_true rfl) (by exact Nat.le_of_ble_eq_true rfl) dX10_init_33 (fun s29_4 => ?_)
  refine g_w (ws' := (h0, .inr (9, [.ref q7, .int 0, .int 0])) :: (ap (ap (ap (ap ([(q7, .inl (gcT γ, 6, .inr (.inr (.inr (.inr (va_up (va_up (va_up (fun _ => none) 0 (some q29)) 1 (some q29_2)) 2 (some q29_3)))))))]) (wX9 γ q29 s29)) (wX9 γ q29_2 s29_2)) (wX9 γ q29_3 s29_3)) (wX9 γ q29_4 s29_4))) rfl ?_
  refine g_astq C (ws' := (h0, .inr (9, [.ref q7, .int 0, .int 0])) :: (ap (ap (ap (ap ([(q7, .inl (gcT γ, 6, .inr (.inr (.inr (.inr (va_up (va_up (va_up (va_up (fun _ => none) 0 (some q29)) 1 (some q29_2)) 2 (some q29_3)) 3 (some q29_4)))))))]) (wX9 γ q29 s29)) (wX9 γ q29_2 s29_2)) (wX9 γ q29_3 s29_3)) (wX9 γ q29_4 s29_4))) 1 14 (t := 1) (cR := gcT γ) (ci := 8) (r := (RX9, TX9, 5)) rfl rfl rfl rfl (by unfold vp_in; decide) rfl dX10_init_36 ?_
  refine g_iinc C 0 dX10_init_37 rfl (v := 4) (by decide) rfl rfl ?_
  refine g_goto C dX10_init_40 (tgt := 15) rfl ?_
  refine g_iload_n C 0 dX10_init_15 rfl ?_
  refine g_aload_n C 1 dX10_init_16 rfl ?_
  refine g_get C 0 inT10 rfl (ci := 9) (T := TX10) rfl (j := 0) rfl wd_191 (v := .ref q7) rfl dX10_init_17 ?_
  refine g_alenQ C 1 (t := 1) (cR := gcT γ) rfl rfl (v := 6) (by decide) dX10_init_20 ?_
  refine g_icmp_ge C dX10_init_21 (tgt := 43) rfl (fun h => absurd h (by decide)) (fun _ => ?_)
  refine g_aload_n C 1 dX10_init_24 rfl ?_
  refine g_get C 0 inT10 rfl (ci := 9) (T := TX10) rfl (j := 0) rfl wd_191 (v := .ref q7) rfl dX10_init_25 ?_
  refine g_iload_n C 0 dX10_init_28 rfl ?_
  refine g_new C (ty0 := tyX9) (fs := [.null, .null, .null, .int 0, .int 0]) inT9 tyX9_ok wd_168 wd_170 wd_77 (ci := 8) rfl (by decide) (by exact Nat.le_of_ble_eq_true rfl) (by exact Nat.le_of_ble_eq_true rfl) dX10_init_29 (fun q29_5 => ?_)
  refine g_dup C dX10_init_32 rfl ?_
  refine g_callIN (wr := (h0, .inr (9, [.ref q7, .int 0, .int 0])) :: (ap (ap (ap (ap ([(q7, .inl (gcT γ, 6, .inr (.inr (.inr (.inr (va_up (va_up (va_up (va_up (fun _ => none) 0 (some q29)) 1 (some q29_2)) 2 (some q29_3)) 3 (some q29_4)))))))]) (wX9 γ q29 s29)) (wX9 γ q29_2 s29_2)) (wX9 γ q29_3 s29_3)) (wX9 γ q29_4 s29_4))) (wc := [(q29_5, .inr (8, [.null, .null, .null, .int 0, .int 0]))]) (b := q29_5) (As := []) C ib_X9 (k9_init _ q29_5) rfl (by decide) wn_171 rfl (by exact Nat.le_of_ble_eq_true rfl) (by exact Nat.le_of_ble_eq_true rfl) dX10_init_33 (fun s29_5 => ?_)
  refine g_w (ws' := (h0, .inr (9, [.ref q7, .int 0, .int 0])) :: (ap (ap (ap (ap (ap ([(q7, .inl (gcT γ, 6, .inr (.inr (.inr (.inr (va_up (va_up (va_up (va_up (fun _ => none) 0 (some q29)) 1 (some q29_2)) 2 (some q29_3)) 3 (some q29_4)))))))]) (wX9 γ q29 s29)) (wX9 γ q29_2 s29_2)) (wX9 γ q29_3 s29_3)) (wX9 γ q29_4 s29_4)) (wX9 γ q29_5 s29_5))) rfl ?_
  refine g_astq C (ws' := (h0, .inr (9, [.ref q7, .int 0, .int 0])) :: (ap (ap (ap (ap (ap ([(q7, .inl (gcT γ, 6, .inr (.inr (.inr (.inr (va_up (va_up (va_up (va_up (va_up (fun _ => none) 0 (some q29)) 1 (some q29_2)) 2 (some q29_3)) 3 (some q29_4)) 4 (some q29_5)))))))]) (wX9 γ q29 s29)) (wX9 γ q29_2 s29_2)) (wX9 γ q29_3 s29_3)) (wX9 γ q29_4 s29_4)) (wX9 γ q29_5 s29_5))) 1 18 (t := 1) (cR := gcT γ) (ci := 8) (r := (RX9, TX9, 5)) rfl rfl rfl rfl (by unfold vp_in; decide) rfl dX10_init_36 ?_
  refine g_iinc C 0 dX10_init_37 rfl (v := 5) (by decide) rfl rfl ?_
  refine g_goto C dX10_init_40 (tgt := 15) rfl ?_
  refine g_iload_n C 0 dX10_init_15 rfl ?_
  refine g_aload_n C 1 dX10_init_16 rfl ?_
  refine g_get C 0 inT10 rfl (ci := 9) (T := TX10) rfl (j := 0) rfl wd_191 (v := .ref q7) rfl dX10_init_17 ?_
  refine g_alenQ C 1 (t := 1) (cR := gcT γ) rfl rfl (v := 6) (by decide) dX10_init_20 ?_
  refine g_icmp_ge C dX10_init_21 (tgt := 43) rfl (fun h => absurd h (by decide)) (fun _ => ?_)
  refine g_aload_n C 1 dX10_init_24 rfl ?_
  refine g_get C 0 inT10 rfl (ci := 9) (T := TX10) rfl (j := 0) rfl wd_191 (v := .ref q7) rfl dX10_init_25 ?_
  refine g_iload_n C 0 dX10_init_28 rfl ?_
  refine g_new C (ty0 := tyX9) (fs := [.null, .null, .null, .int 0, .int 0]) inT9 tyX9_ok wd_168 wd_170 wd_77 (ci := 8) rfl (by decide) (by exact Nat.le_of_ble_eq_true rfl) (by exact Nat.le_of_ble_eq_true rfl) dX10_init_29 (fun q29_6 => ?_)
  refine g_dup C dX10_init_32 rfl ?_
  refine g_callIN (wr := (h0, .inr (9, [.ref q7, .int 0, .int 0])) :: (ap (ap (ap (ap (ap ([(q7, .inl (gcT γ, 6, .inr (.inr (.inr (.inr (va_up (va_up (va_up (va_up (va_up (fun _ => none) 0 (some q29)) 1 (some q29_2)) 2 (some q29_3)) 3 (some q29_4)) 4 (some q29_5)))))))]) (wX9 γ q29 s29)) (wX9 γ q29_2 s29_2)) (wX9 γ q29_3 s29_3)) (wX9 γ q29_4 s29_4)) (wX9 γ q29_5 s29_5))) (wc := [(q29_6, .inr (8, [.null, .null, .null, .int 0, .int 0]))]) (b := q29_6) (As := []) C ib_X9 (k9_init _ q29_6) rfl (by decide) wn_171 rfl (by exact Nat.le_of_ble_eq_true rfl) (by exact Nat.le_of_ble_eq_true rfl) dX10_init_33 (fun s29_6 => ?_)
  refine g_w (ws' := (h0, .inr (9, [.ref q7, .int 0, .int 0])) :: (ap (ap (ap (ap (ap (ap ([(q7, .inl (gcT γ, 6, .inr (.inr (.inr (.inr (va_up (va_up (va_up (va_up (va_up (fun _ => none) 0 (some q29)) 1 (some q29_2)) 2 (some q29_3)) 3 (some q29_4)) 4 (some q29_5)))))))]) (wX9 γ q29 s29)) (wX9 γ q29_2 s29_2)) (wX9 γ q29_3 s29_3)) (wX9 γ q29_4 s29_4)) (wX9 γ q29_5 s29_5)) (wX9 γ q29_6 s29_6))) rfl ?_
  refine g_astq C (ws' := (h0, .inr (9, [.ref q7, .int 0, .int 0])) :: (ap (ap (ap (ap (ap (ap ([(q7, .inl (gcT γ, 6, .inr (.inr (.inr (.inr (va_up (va_up (va_up (va_up (va_up (va_up (fun _ => none) 0 (some q29)) 1 (some q29_2)) 2 (some q29_3)) 3 (some q29_4)) 4 (some q29_5)) 5 (some q29_6)))))))]) (wX9 γ q29 s29)) (wX9 γ q29_2 s29_2)) (wX9 γ q29_3 s29_3)) (wX9 γ q29_4 s29_4)) (wX9 γ q29_5 s29_5)) (wX9 γ q29_6 s29_6))) 1 22 (t := 1) (cR := gcT γ) (ci := 8) (r := (RX9, TX9, 5)) rfl rfl rfl rfl (by unfold vp_in; decide) rfl dX10_init_36 ?_
  refine g_iinc C 0 dX10_init_37 rfl (v := 6) (by decide) rfl rfl ?_
  refine g_goto C dX10_init_40 (tgt := 15) rfl ?_
  refine g_iload_n C 0 dX10_init_15 rfl ?_
  refine g_aload_n C 1 dX10_init_16 rfl ?_
  refine g_get C 0 inT10 rfl (ci := 9) (T := TX10) rfl (j := 0) rfl wd_191 (v := .ref q7) rfl dX10_init_17 ?_
  refine g_alenQ C 1 (t := 1) (cR := gcT γ) rfl rfl (v := 6) (by decide) dX10_init_20 ?_
  refine g_icmp_ge C dX10_init_21 (tgt := 43) rfl (fun _ => ?_) (fun h => absurd (by decide) h)
  exact g_vret C (fun i => [q7, q29, s29 0, s29 1, s29 2, q29_2, s29_2 0, s29_2 1, s29_2 2, q29_3, s29_3 0, s29_3 1, s29_3 2, q29_4, s29_4 0, s29_4 1, s29_4 2, q29_5, s29_5 0, s29_5 1, s29_5 2, q29_6, s29_6 0, s29_6 1, s29_6 2].getD i 0) rfl dX10_init_43
