/-! the reference's constructor: its memory, its end -/
set_option maxHeartbeats 4000000
set_option maxRecDepth 100000
def sort0 : List Int32 := [(-1), (-1), (-1), (-1)]
def law1 : List Int32 := [121, 97, 114, 100, 115, 32, 48, 32, 59, 32, 119, 111, 114, 116, 104, 32, 49, 48, 32, 45, 32, 119, 111, 110, 32, 42, 32, 51, 32, 59, 32, 110, 111, 110, 101, 32, 48, 32, 45, 32, 53, 32, 59]
def turn1 : List Int32 := [0, 1, 2, 3, 4, 5]
/-- the reference's memory as its cells are made, and while the first text comes onto the tape -/
def tau0 : M2 := fun o => if o = 0 then (fun k => if k = 39 then -1 else 0) else if o = 10 then fil (fun _ => 0) 0 sort0 else if o = 13 then fil (fun _ => 0) 0 law1 else if o = 14 then fil (fun _ => 0) 0 wordsL else if o = 22 then fil (fun _ => 0) 0 turn1 else fun _ => 0
def tauT (i : Nat) : M2 := fun o => if o = 5 then (fun k => if k < i then law1.getD k 0 else 0) else tau0 o
theorem tauT_0 : tauT 0 = tau0 := by
  funext o k
  unfold tauT
  by_cases h1 : o = 5
  · subst h1; rfl
  · rw [if_neg h1]
theorem tau0_13 : ∀ i, i < 43 → tau0 13 i = law1.getD i 0 := by decide +kernel
theorem tau0_14 : ∀ i, i < 96 → tau0 14 i = wordsL.getD i 0 := by decide +kernel
theorem tau0_22 : ∀ i, i < 6 → tau0 22 i = nI i := by decide +kernel
theorem tau0_10 : ∀ i, i < 4 → tau0 10 i = -1 := by decide +kernel
theorem tauT_o {i o : Nat} (h : o ≠ 5) : tauT i o = tau0 o := if_neg h
theorem tauT_put {i : Nat} (hi : i < 43) : up (tauT i) 5 i (tauT i 13 i) = tauT (i + 1) := by
  funext o k
  rw [tauT_o (show 13 ≠ 5 by decide), tau0_13 i hi]
  by_cases h1 : o = 5
  · subst h1
    show _ = (if k < i + 1 then law1.getD k 0 else 0)
    by_cases h4 : k = i
    · subst h4
      rw [up_eq, if_pos (Nat.lt_succ_self k)]
    · rw [up_ne (by omega)]
      show (if k < i then law1.getD k 0 else 0) = (if k < i + 1 then law1.getD k 0 else 0)
      by_cases h5 : k < i
      · rw [if_pos h5, if_pos (by omega)]
      · rw [if_neg h5, if_neg (by omega)]
  · rw [up_ne (by omega), tauT_o h1, tauT_o h1]
/-- the reference's memory as the text is read -/
def tauE : M2 := up (tauT 43) 0 7 43
section C12
variable {γ : GT} {A : Nat → Prop} {κ : KG} {Q : State → Prop} {k n mc ms : Nat} {ad : Nat → Nat} {τ1 : M2}
theorem k12_loop (C : Cg γ A κ (rmG 10 mc ms) cX12_init 2 "EveryoneWinsModel" none) (hI : Inj (ωG SM γ ad)) (kk : G γ A κ Q 2 k n 1083 [(1, .int (nI 43)), (0, .ref (ad 0))] [] (wld (ωG SM γ ad) (tauT 43))) : ∀ d i, i + d = 43 → G γ A κ Q 2 k n 1059 [(1, .int (nI i)), (0, .ref (ad 0))] [] (wld (ωG SM γ ad) (tauT i)) := by
  intro d
  induction d with
  | zero =>
    intro i hi
    obtain rfl : i = 43 := by omega
    refine g_iload_n C 0 dX12_init_1059 rfl ?_
    refine g_bipush C (v := 43) dX12_init_1060 (by decide) ?_
    exact g_icmp_ge C dX12_init_1062 (tgt := 1083) rfl (fun _ => kk) (fun h => absurd (by decide) h)
  | succ d ih =>
    intro i hi
    have hi43 : i < 43 := by omega
    refine g_iload_n C 0 dX12_init_1059 rfl ?_
    refine g_bipush C (v := 43) dX12_init_1060 (by decide) ?_
    refine g_icmp_ge C dX12_init_1062 (tgt := 1083) rfl (fun h => absurd h (nI_ge (b := 43) hi43 (by omega))) (fun _ => ?_)
    refine g_aload_n C 1 dX12_init_1065 rfl ?_
    refine w_getr C hI (o := 0) (j := 6) (ci := 11) (N := 45) (o' := 5) inT12 rfl (by decide) rfl rfl rfl rfl wd_1105 dX12_init_1066 ?_
    refine g_iload_n C 0 dX12_init_1069 rfl ?_
    refine g_aload_n C 1 dX12_init_1070 rfl ?_
    refine w_getr C hI (o := 0) (j := 18) (ci := 11) (N := 45) (o' := 13) inT12 rfl (by decide) rfl rfl rfl rfl wd_1117 dX12_init_1071 ?_
    refine g_iload_n C 0 dX12_init_1074 rfl ?_
    refine w_iald C hI (N := 43) rfl (nI_vp hi43 (by decide)) dX12_init_1075 ?_
    refine w_iast C hI (N := 160) rfl (nI_vp (by omega) (by decide)) dX12_init_1076 ?_
    rw [nI_c (by omega), tauT_put hi43]
    refine g_iinc C 0 dX12_init_1077 rfl (v := nI (i + 1)) (by exact nI_1 i) rfl rfl ?_
    refine g_goto C dX12_init_1080 (tgt := 1059) rfl ?_
    exact ih (i + 1) (by omega)
theorem k12_rest {fu : Nat} {v : Int32} (h : F12_text fu tauE = some (v, τ1)) (C : Cg γ A κ (rmG 10 mc ms) cX12_init 2 "EveryoneWinsModel" none) (hI : Inj (ωG SM γ ad)) (hk : k ≤ mc) (hn : n ≤ ms) (kk : G γ A κ Q 2 k n 1094 [(1, .int (nI 43)), (0, .ref (ad 0))] [] (wld (ωG SM γ ad) τ1)) : G γ A κ Q 2 k n 1057 [(0, .ref (ad 0))] [] (wld (ωG SM γ ad) tau0) := by
  refine g_iconst C (v := 0) dX12_init_1057 (by decide) ?_
  refine g_istore_n C dX12_init_1058 (i := 1) rfl rfl rfl ?_
  rw [← tauT_0]
  refine k12_loop C hI ?_ 43 0 rfl
  refine g_aload_n C 1 dX12_init_1083 rfl ?_
  refine g_bipush C (v := 43) dX12_init_1084 (by decide) ?_
  refine w_puti C hI (o := 0) (j := 7) (ci := 11) (N := 45) (x := 43) inT12 tyX12_ok nmX12 rfl (by decide) rfl rfl rfl rfl (ty := .int) (by decide +kernel) rfl rfl wd_1106 dX12_init_1086 ?_
  refine g_aload_n C 1 dX12_init_1089 rfl ?_
  refine g_ctV (wr := []) (v := some (.int v)) (n' := 5) (o := 0) (ci := 11) (N := 45) (As := []) (rest := []) C hI vb_X12_text rfl (by decide) (c12_text _ h) rfl (Rg.mk rfl rfl) wd_1052 rfl rfl hk hn dX12_init_1090 ?_
  refine g_pop C dX12_init_1093 rfl ?_
  exact kk
end C12
