/-! the law: its loop -/
set_option maxRecDepth 100000
theorem sw_cases (v : Int32) (N : Nat) (hN : N < 2 ^ 31) : (∃ q, q < N ∧ v = nI q) ∨ (v.toInt < 0 ∨ (N : Int) ≤ v.toInt) := by
  by_cases h : 0 ≤ v.toInt ∧ v.toInt < (N : Int)
  · refine Or.inl ⟨v.toInt.toNat, by omega, Int32.toInt_inj.mp ?_⟩
    rw [nI_toInt (by omega)]
    omega
  · exact Or.inr (by omega)
theorem law_cmp {i Ln : Nat} (hL : Ln ≤ 3584) (hi : i ≤ Ln) (h : ¬ nI Ln - 7 < nI i) : i + 7 ≤ Ln := by
  have e1 : (7 : Int32).toInt = 7 := by decide
  rw [Int32.lt_iff_toInt_lt, Int32.toInt_sub, nI_toInt (by omega), nI_toInt (by omega), e1, Int.bmod_eq_of_le (by omega) (by omega)] at h
  omega
section LWL
variable {γ : GT} {A : Nat → Prop} {κ : KG} {Q : State → Prop} {k n b Ln i : Nat} {xs : Nat → Int32} {adc adm : Nat → Nat} {σ τ : M2}
theorem law_sw (H : LwH γ A κ k n b Ln xs adc adm) (hi : i + 7 ≤ Ln) (hR : R σ τ) (kk : ∀ σ' τ', R σ' τ' → G γ A κ Q 4 k n 1319 (Lc b adc adm i) [] (W2 γ adc adm σ' τ')) : ∀ q, q < 34 → G γ A κ Q 4 k n 33 (Lc b adc adm i) [.int (nI q)] (W2 γ adc adm σ τ)
  | 0, _ => g_tableIn H.1 (tgt := 184) dL_law_33 (by decide +kernel) (by decide +kernel) (off := 151) (by decide +kernel) rfl (law_count H hi hR kk)
  | 1, _ => g_tableIn H.1 (tgt := 207) dL_law_33 (by decide +kernel) (by decide +kernel) (off := 174) (by decide +kernel) rfl (law_child H hi hR kk)
  | 2, _ => g_tableIn H.1 (tgt := 230) dL_law_33 (by decide +kernel) (by decide +kernel) (off := 197) (by decide +kernel) rfl (law_put H hi hR kk)
  | 3, _ => g_tableIn H.1 (tgt := 273) dL_law_33 (by decide +kernel) (by decide +kernel) (off := 240) (by decide +kernel) rfl (law_told H hi hR kk)
  | 4, _ => g_tableIn H.1 (tgt := 306) dL_law_33 (by decide +kernel) (by decide +kernel) (off := 273) (by decide +kernel) rfl (law_feed H hi hR kk)
  | 5, _ => g_tableIn H.1 (tgt := 381) dL_law_33 (by decide +kernel) (by decide +kernel) (off := 348) (by decide +kernel) rfl (law_text H hi hR kk)
  | 6, _ => g_tableIn H.1 (tgt := 394) dL_law_33 (by decide +kernel) (by decide +kernel) (off := 361) (by decide +kernel) rfl (law_force H hi hR kk)
  | 7, _ => g_tableIn H.1 (tgt := 417) dL_law_33 (by decide +kernel) (by decide +kernel) (off := 384) (by decide +kernel) rfl (law_asks H hi hR kk)
  | 8, _ => g_tableIn H.1 (tgt := 470) dL_law_33 (by decide +kernel) (by decide +kernel) (off := 437) (by decide +kernel) rfl (law_race H hi hR kk)
  | 9, _ => g_tableIn H.1 (tgt := 503) dL_law_33 (by decide +kernel) (by decide +kernel) (off := 470) (by decide +kernel) rfl (law_enter H hi hR kk)
  | 10, _ => g_tableIn H.1 (tgt := 546) dL_law_33 (by decide +kernel) (by decide +kernel) (off := 513) (by decide +kernel) rfl (law_card H hi hR kk)
  | 11, _ => g_tableIn H.1 (tgt := 579) dL_law_33 (by decide +kernel) (by decide +kernel) (off := 546) (by decide +kernel) rfl (law_comes H hi hR kk)
  | 12, _ => g_tableIn H.1 (tgt := 612) dL_law_33 (by decide +kernel) (by decide +kernel) (off := 579) (by decide +kernel) rfl (law_does H hi hR kk)
  | 13, _ => g_tableIn H.1 (tgt := 645) dL_law_33 (by decide +kernel) (by decide +kernel) (off := 612) (by decide +kernel) rfl (law_day H hi hR kk)
  | 14, _ => g_tableIn H.1 (tgt := 668) dL_law_33 (by decide +kernel) (by decide +kernel) (off := 635) (by decide +kernel) rfl (law_let H hi hR kk)
  | 15, _ => g_tableIn H.1 (tgt := 691) dL_law_33 (by decide +kernel) (by decide +kernel) (off := 658) (by decide +kernel) rfl (law_spare H hi hR kk)
  | 16, _ => g_tableIn H.1 (tgt := 714) dL_law_33 (by decide +kernel) (by decide +kernel) (off := 681) (by decide +kernel) rfl (law_drop H hi hR kk)
  | 17, _ => g_tableIn H.1 (tgt := 737) dL_law_33 (by decide +kernel) (by decide +kernel) (off := 704) (by decide +kernel) rfl (law_order H hi hR kk)
  | 18, _ => g_tableIn H.1 (tgt := 760) dL_law_33 (by decide +kernel) (by decide +kernel) (off := 727) (by decide +kernel) rfl (law_tie H hi hR kk)
  | 19, _ => g_tableIn H.1 (tgt := 783) dL_law_33 (by decide +kernel) (by decide +kernel) (off := 750) (by decide +kernel) rfl (law_needs H hi hR kk)
  | 20, _ => g_tableIn H.1 (tgt := 816) dL_law_33 (by decide +kernel) (by decide +kernel) (off := 783) (by decide +kernel) rfl (law_judge H hi hR kk)
  | 21, _ => g_tableIn H.1 (tgt := 839) dL_law_33 (by decide +kernel) (by decide +kernel) (off := 806) (by decide +kernel) rfl (law_kinds H hi hR kk)
  | 22, _ => g_tableIn H.1 (tgt := 882) dL_law_33 (by decide +kernel) (by decide +kernel) (off := 849) (by decide +kernel) rfl (law_quick H hi hR kk)
  | 23, _ => g_tableIn H.1 (tgt := 925) dL_law_33 (by decide +kernel) (by decide +kernel) (off := 892) (by decide +kernel) rfl (law_laws H hi hR kk)
  | 24, _ => g_tableIn H.1 (tgt := 948) dL_law_33 (by decide +kernel) (by decide +kernel) (off := 915) (by decide +kernel) rfl (law_film H hi hR kk)
  | 25, _ => g_tableIn H.1 (tgt := 971) dL_law_33 (by decide +kernel) (by decide +kernel) (off := 938) (by decide +kernel) rfl (law_drawn H hi hR kk)
  | 26, _ => g_tableIn H.1 (tgt := 1004) dL_law_33 (by decide +kernel) (by decide +kernel) (off := 971) (by decide +kernel) rfl (law_odds H hi hR kk)
  | 27, _ => g_tableIn H.1 (tgt := 1058) dL_law_33 (by decide +kernel) (by decide +kernel) (off := 1025) (by decide +kernel) rfl (law_image H hi hR kk)
  | 28, _ => g_tableIn H.1 (tgt := 1071) dL_law_33 (by decide +kernel) (by decide +kernel) (off := 1038) (by decide +kernel) rfl (law_back H hi hR kk)
  | 29, _ => g_tableIn H.1 (tgt := 1084) dL_law_33 (by decide +kernel) (by decide +kernel) (off := 1051) (by decide +kernel) rfl (law_sheet H hi hR kk)
  | 30, _ => g_tableIn H.1 (tgt := 1127) dL_law_33 (by decide +kernel) (by decide +kernel) (off := 1094) (by decide +kernel) rfl (law_cell H hi hR kk)
  | 31, _ => g_tableIn H.1 (tgt := 1170) dL_law_33 (by decide +kernel) (by decide +kernel) (off := 1137) (by decide +kernel) rfl (law_copy H hi hR kk)
  | 32, _ => g_tableIn H.1 (tgt := 1233) dL_law_33 (by decide +kernel) (by decide +kernel) (off := 1200) (by decide +kernel) rfl (law_childrenBy H hi hR kk)
  | 33, _ => g_tableIn H.1 (tgt := 1286) dL_law_33 (by decide +kernel) (by decide +kernel) (off := 1253) (by decide +kernel) rfl (law_taken H hi hR kk)
  | q + 34, h => absurd h (by omega)
theorem law_loop (H : LwH γ A κ k n b Ln xs adc adm) (hend : ∀ i σ τ, G γ A κ Q 4 k n 1325 (Lc b adc adm i) [] (W2 γ adc adm σ τ)) : ∀ d i σ τ, R σ τ → i ≤ Ln → Ln < i + 7 * d → G γ A κ Q 4 k n 18 (Lc b adc adm i) [] (W2 γ adc adm σ τ) := by
  have hL := H.2.2.2.2.2.2.1
  intro d
  induction d with
  | zero => intro i σ τ _ h1 h2; exact absurd h2 (by omega)
  | succ d ih =>
    intro i σ τ hR h1 h2
    refine g_iload_n H.1 0 dL_law_18 rfl ?_
    refine g_aload_n H.1 3 dL_law_19 rfl ?_
    refine g_slen H dL_law_20 ?_
    refine g_bipush H.1 (v := 7) dL_law_21 (by decide) ?_
    refine g_isub H.1 dL_law_23 ?_
    refine g_icmp_gt H.1 dL_law_24 (tgt := 1325) rfl (fun _ => hend i σ τ) (fun hng => ?_)
    have hi7 : i + 7 ≤ Ln := law_cmp hL h1 hng
    refine g_aload_n H.1 3 dL_law_27 rfl ?_
    refine g_iload_n H.1 0 dL_law_28 rfl ?_
    refine g_sld H (j := i) (by omega) dL_law_29 ?_
    refine g_bipush H.1 (v := 63) dL_law_30 (by decide) ?_
    refine g_iand H.1 dL_law_32 ?_
    have kk : ∀ σ' τ', R σ' τ' → G γ A κ Q 4 k n 1319 (Lc b adc adm i) [] (W2 γ adc adm σ' τ') := fun σ' τ' hR' => by
      refine g_iinc H.1 0 dL_law_1319 rfl (v := nI (i + 7)) (by exact nI_add i 7) rfl rfl ?_
      refine g_goto H.1 dL_law_1322 (tgt := 18) rfl ?_
      exact ih (i + 7) σ' τ' hR' hi7 (by omega)
    rcases sw_cases (xs i &&& 63) 34 (by decide) with ⟨q, hq, e⟩ | h
    · rw [e]
      exact law_sw H hi7 hR kk q hq
    · exact g_tableOut H.1 dL_law_33 (by omega) rfl (kk σ τ hR)
end LWL
