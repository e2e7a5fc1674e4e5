/-! what a part of a text says, on both sides -/
def cl (lo w : Int32) : Int32 := if lo ≤ w then if w ≤ (99 : Int32) then w else (99 : Int32) else lo
theorem name_c : ∀ j, j < 6 → (-1 - nI j < 0) ∧ ¬ (-1 - nI j ≤ -7) ∧ ((-1 : Int32) - (-1 - nI j) = nI j) ∧ ¬ ((11 : Int32) ≤ nI j) ∧ ¬ ((100000 : Int32) ≤ nI j) ∧ (-7 : Int32) < -1 - nI j := by decide
theorem num_c {z : Nat} (hz : z < 10000) : ¬ nI z < 0 ∧ ((100000 : Int32) ≤ nI (z + 100000)) ∧ ((11 : Int32) ≤ nI (z + 100000)) ∧ nI (z + 100000) - (100000 : Int32) = nI z ∧ (-7 : Int32) < nI z := by
  refine ⟨nn_nI (by omega), nI_le (a := 100000) (by omega) (by omega), nI_le (a := 11) (by omega) (by omega), ?_, ?_⟩
  · show nI (z + 100000) - nI 100000 = nI z
    rw [pk_sub (by omega), Nat.add_sub_cancel]
  · rw [Int32.lt_iff_toInt_lt, nI_toInt (by omega)]
    show (-7 : Int) < z
    omega
/-- a state of both stacks -/
def VS (i lo hi p : Nat) (σ0 τ0 : M2) (n : Nat) (x4 : Int32) (σ : M2) (x2 x3 : Int32) (τ : M2) : Prop :=
  ∃ j d, n = hi - j ∧ lo ≤ j ∧ j ≤ hi ∧ x4 = nI j ∧ x2 = nI d ∧ x3 = nI j ∧ d ≤ 32 ∧ σ (12 + 4 * i) 4 = nI d ∧ (∀ q, q < d → σ (15 + 4 * i) q = τ 16 q) ∧ stkN (σ0 (13 + 4 * i)) j (hi - j) d = some 1 ∧ Fr (sC1 i) σ0 σ ∧ Fr sM1 τ0 τ
theorem VS.push {i lo hi p j d : Nat} {σ0 τ0 σ τ : M2} {x : Int32} (hj : j < hi) (hlo : lo ≤ j) (hd : d < 32) (hst : ∀ q, q < d → σ (15 + 4 * i) q = τ 16 q) (hk : stkN (σ0 (13 + 4 * i)) (j + 1) (hi - (j + 1)) (d + 1) = some 1) (hf : Fr (sC1 i) σ0 σ) (hg : Fr sM1 τ0 τ) : VS i lo hi p σ0 τ0 (hi - (j + 1)) (nI (j + 1)) (up (up σ (15 + 4 * i) d x) (12 + 4 * i) 4 (nI (d + 1))) (nI (d + 1)) (nI (j + 1)) (up τ 16 d x) := by
  refine ⟨j + 1, d + 1, rfl, by omega, by omega, rfl, rfl, rfl, by omega, up_eq, fun q hq => ?_, hk, (hf.up (Or.inr rfl)).up (Or.inl ⟨rfl, rfl⟩), hg.up rfl⟩
  rw [up_ne (by omega), up_at, up_at]
  by_cases h : q = d
  · rw [if_pos ⟨rfl, h⟩, if_pos ⟨rfl, h⟩]
  · rw [if_neg (fun e => h e.2), if_neg (fun e => h e.2)]
    exact hst q (by omega)
/-- the stack's top changes, the stack stays or sinks by one -/
theorem VS.top {i lo hi p j d : Nat} {σ0 τ0 σ τ σ2 τ2 : M2} {x : Int32} (hj : j < hi) (hlo : lo ≤ j) (hd : d < 32) (hst : ∀ q, q < d → σ (15 + 4 * i) q = τ 16 q) (hk : stkN (σ0 (13 + 4 * i)) (j + 1) (hi - (j + 1)) (d + 1) = some 1) (hf : Fr (sC1 i) σ0 σ) (hg : Fr sM1 τ0 τ)
    (e1 : σ2 = up (up σ (15 + 4 * i) d x) (12 + 4 * i) 4 (nI (d + 1))) (e2 : τ2 = up τ 16 d x) : VS i lo hi p σ0 τ0 (hi - (j + 1)) (nI (j + 1)) σ2 (nI (d + 1)) (nI (j + 1)) τ2 := by
  subst e1; subst e2
  exact VS.push hj hlo hd hst hk hf hg
theorem stk_op {c : Int32} {d d' : Nat} (h : stk1 c d = some d') (hc : (-7 : Int32) < c) : d < 32 ∧ d' = d + 1 := by
  unfold stk1 at h
  rw [if_pos hc] at h
  by_cases hd : d < 32
  · rw [if_pos hd] at h; exact ⟨hd, (Option.some.inj h).symm⟩
  · rw [if_neg hd] at h; cases h
theorem stk_un {c : Int32} {d d' : Nat} (h : stk1 c d = some d') (hc : c = -7 ∨ c = -8) : 1 ≤ d ∧ d' = d := by
  unfold stk1 at h
  rw [if_neg (by rcases hc with rfl | rfl <;> decide), if_pos hc] at h
  by_cases hd : 1 ≤ d
  · rw [if_pos hd] at h; exact ⟨hd, (Option.some.inj h).symm⟩
  · rw [if_neg hd] at h; cases h
theorem stk_bi {c : Int32} {d d' : Nat} (h : stk1 c d = some d') (h1 : ¬ (-7 : Int32) < c) (h2 : ¬ (c = -7 ∨ c = -8)) : 2 ≤ d ∧ d' = d - 1 := by
  unfold stk1 at h
  rw [if_neg h1, if_neg h2] at h
  by_cases hd : 2 ≤ d
  · rw [if_pos hd] at h; exact ⟨hd, (Option.some.inj h).symm⟩
  · rw [if_neg hd] at h; cases h
set_option maxHeartbeats 4000000 in
theorem says_seg {i p lo hi : Nat} {σ0 τ0 : M2} {fu fu' : Nat} (hi6 : i < 6) (hp : p < 3) (hS : Seg σ0 τ0 i lo hi) (hrule : τ0 0 11 = nI i) (h2 : τ0 7 (4 * i + p + 1) = nI hi) (hnm : ∀ q, q < 6 → σ0 46 q = τ0 17 q) (ht0 : σ0 (12 + 4 * i) 4 = nI 0) (hfu : 161 < fu) (hfu' : 161 < fu') :
    ∃ r r', F9_value_34 fu (12 + 4 * i) (nI p) 46 (nI hi) (nI lo) σ0 = some r ∧ F12_says_16 fu' (nI p) (nI 0) (nI lo) τ0 = some r' ∧ (r.1 = cl (if p = 0 then 0 else -99) r'.1 ∧ Fr (sC1 i) σ0 r.2 ∧ Fr sM1 τ0 r'.2) := by
  obtain ⟨hlh, hh160, hcr, hwf⟩ := hS
  obtain ⟨t1, t2, t3, t4, t5, t6, t7, t8⟩ := tx_sh i hi6
  unfold F9_value_34 F12_says_16
  refine pl12 (VS i lo hi p σ0 τ0) (fun (r r' : Int32 × M2) => r.1 = cl (if p = 0 then 0 else -99) r'.1 ∧ Fr (sC1 i) σ0 r.2 ∧ Fr sM1 τ0 r'.2) ?_ (hi - lo) fu fu' _ _ _ _ _ (by omega) (by omega) ⟨lo, 0, rfl, Nat.le_refl _, hlh, rfl, rfl, rfl, by omega, ht0, fun q hq => by omega, hwf, Fr.rf, Fr.rf⟩
  intro k k' n x4 σ x2 x3 τ hI
  obtain ⟨j, d, rfl, hj1, hj2, rfl, rfl, rfl, hd, htop, hst, hstk, hf, hg⟩ := hI
  have er : τ 0 11 = nI i := by rw [hg 0 11 (by unfold sM1; omega)]; exact hrule
  have e7 : τ 7 (4 * i + p + 1) = nI hi := by rw [hg 7 _ (by unfold sM1; omega)]; exact h2
  rw [er, rule_ix, nI_1, gd_t (inb_t (N := 24) (by omega) (by omega)), nI_c (by omega), e7]
  by_cases hge : hi ≤ j
  · -- the end
    left
    have hjh : j = hi := by omega
    subst hjh
    rw [Nat.sub_self] at hstk
    have hd1 : d = 1 := by
      unfold stkN at hstk
      exact Option.some.inj hstk
    subst hd1
    have hv := hst 0 (by omega)
    have hpop := popN (i := i) (d := 0) (σ := σ) hi6 (by omega) htop
    refine ⟨(cl (if p = 0 then 0 else -99) (σ (15 + 4 * i) 0), up σ (12 + 4 * i) 4 (nI 0)), (τ 16 0, τ), ?_, if_pos (nI_le (Nat.le_refl _) (by omega)), ?_⟩
    · rw [if_pos (nI_le (Nat.le_refl _) (by omega))]
      by_cases hp0 : p = 0
      · subst hp0
        rw [if_pos (show nI 0 = 0 from rfl)]
        unfold F9_value_169
        rw [gd_t (isO_t t1), hpop, bnd_s]
        rw [clampE (lo := 0) (by decide)]
        rfl
      · rw [if_neg (fun e => hp0 (by
          have e2 : nI p = nI 0 := e
          exact (nI_eq (by omega) (by omega)).mp e2))]
        unfold F9_value_169
        rw [gd_t (isO_t t1), hpop, bnd_s]
        rw [clampE (lo := -99) (by decide), if_neg hp0]
        rfl
    · refine ⟨?_, hf.up (Or.inl ⟨rfl, rfl⟩), hg⟩
      show cl _ (σ (15 + 4 * i) 0) = cl _ (τ 16 0)
      rw [hv]
  · have hlt : j < hi := by omega
    right
    have hcode : σ (13 + 4 * i) j = σ0 (13 + 4 * i) j := hf _ _ (by unfold sC1; omega)
    have hcm : τ 6 (200 * i + j) = τ0 6 (200 * i + j) := hg _ _ (by unfold sM1; omega)
    have hrel := hcr j hj1 hlt
    rw [← hcode, ← hcm] at hrel
    obtain ⟨m, hm⟩ : ∃ m, hi - j = m + 1 := ⟨hi - j - 1, by omega⟩
    rw [hm] at hstk
    obtain ⟨d', hs1, hs2⟩ := stkN_step hstk
    have hm2 : m = hi - (j + 1) := by omega
    rw [hm2] at hs2
    rw [← hcode] at hs1
    have hsz : hi - (j + 1) < hi - j := by omega
    rw [if_neg (nI_ge hlt (by omega)), if_neg (nI_ge hlt (by omega)), code_ix, gd_t (inb_t (N := 1200) (by omega) (by omega)), nI_c (by omega), gd_t (isO_t t1), t5, fat t2 (by omega) (by omega), bnd_s]
    generalize hc : σ (13 + 4 * i) j = c at *
    generalize hmc : τ 6 (200 * i + j) = mc at *
    rcases hrel with ⟨z, hz, rfl, rfl⟩ | ⟨q, hq, rfl, rfl⟩ | h
    · -- a number
      obtain ⟨n1, n2, n3, n4, n5⟩ := num_c hz
      obtain ⟨hd32, rfl⟩ := stk_op hs1 n5
      refine ⟨_, _, _, _, _, _, hsz, VS.push (x := nI z) hlt hj1 hd32 hst hs2 hf hg, ?_, ?_⟩
      · rw [if_neg n1, pushN hi6 hd32 htop, bnd_s]
        unfold F9_value_153
        rw [nI_1]
      · rw [if_pos n2]
        unfold F12_says_66
        rw [if_pos n3, n4]
        unfold F12_says_93 F12_says_191
        rw [gd_t (inb_t (N := 200) (by omega) (by omega)), nI_c (by omega), nI_1, nI_1]
    · -- a name
      obtain ⟨n1, n2, n3, n4, n5, n6⟩ := name_c q hq
      obtain ⟨hd32, rfl⟩ := stk_op hs1 n6
      have hn46 : σ 46 q = τ 17 q := by
        rw [hf 46 q (by unfold sC1; omega), hg 17 q (by unfold sM1; omega)]
        exact hnm q hq
      refine ⟨_, _, _, _, _, _, hsz, VS.push (x := σ 46 q) hlt hj1 hd32 hst hs2 hf hg, ?_, ?_⟩
      · rw [if_pos n1, if_neg n2, n3, fat (N := 6) (by decide) hq (by omega), bnd_s, pushN hi6 hd32 htop, bnd_s]
        unfold F9_value_153
        rw [nI_1]
      · rw [if_neg n5, if_neg n4]
        unfold F12_says_66
        rw [if_neg n4, gd_t (inb_t (N := 6) hq (by omega)), nI_c (by omega)]
        unfold F12_says_93 F12_says_191
        rw [gd_t (inb_t (N := 200) (by omega) (by omega)), nI_c (by omega), nI_1, nI_1, hn46]
    · rcases h with ⟨rfl, rfl⟩ | ⟨rfl, rfl⟩ | h
      · -- -
        obtain ⟨hd1, rfl⟩ := stk_un hs1 (Or.inl rfl)
        obtain ⟨e, rfl⟩ : ∃ e, d' = e + 1 := ⟨d' - 1, by omega⟩
        have hv := hst e (by omega)
        refine ⟨_, _, _, _, _, _, hsz, VS.top (σ := up σ (12 + 4 * i) 4 (nI e)) (τ := τ) (x := -(σ (15 + 4 * i) e)) hlt hj1 (by omega) (fun q hq => by rw [up_ne (by omega)]; exact hst q (by omega)) hs2 (hf.up (Or.inl ⟨rfl, rfl⟩)) hg rfl rfl, ?_, ?_⟩
        · rw [if_pos (by decide), if_pos (by decide), if_pos rfl, popN hi6 (by omega) htop, bnd_s, pushN hi6 (by omega) up_eq, bnd_s]
          unfold F9_value_153
          rw [nI_1]
        · rw [if_neg (by decide), if_pos (by decide), if_neg (by decide), if_pos rfl, nI_pred, gd_t (inb_t (N := 200) (by omega) (by omega)), nI_c (by omega), ← hv]
          unfold F12_says_191
          rw [nI_1]
      · -- not
        obtain ⟨hd1, rfl⟩ := stk_un hs1 (Or.inr rfl)
        obtain ⟨e, rfl⟩ : ∃ e, d' = e + 1 := ⟨d' - 1, by omega⟩
        have hv := hst e (by omega)
        by_cases h0 : σ (15 + 4 * i) e = 0
        · refine ⟨_, _, _, _, _, _, hsz, VS.top (σ := up σ (12 + 4 * i) 4 (nI e)) (τ := τ) (x := 1) hlt hj1 (by omega) (fun q hq => by rw [up_ne (by omega)]; exact hst q (by omega)) hs2 (hf.up (Or.inl ⟨rfl, rfl⟩)) hg rfl rfl, ?_, ?_⟩
          · rw [if_pos (by decide), if_pos (by decide), if_neg (by decide), if_pos rfl, popN hi6 (by omega) htop, bnd_s, if_pos h0]
            unfold F9_value_126 F9_value_153
            rw [gd_t (isO_t t1), pushN hi6 (by omega) up_eq, bnd_s, nI_1]
          · rw [if_neg (by decide), if_pos (by decide), if_pos rfl, nI_pred, gd_t (inb_t (N := 200) (by omega) (by omega)), nI_c (by omega), ← hv, if_pos h0]
            unfold F12_says_130 F12_says_191
            rw [gd_t (inb_t (N := 200) (by omega) (by omega)), nI_c (by omega), nI_1]
        · refine ⟨_, _, _, _, _, _, hsz, VS.top (σ := up σ (12 + 4 * i) 4 (nI e)) (τ := τ) (x := 0) hlt hj1 (by omega) (fun q hq => by rw [up_ne (by omega)]; exact hst q (by omega)) hs2 (hf.up (Or.inl ⟨rfl, rfl⟩)) hg rfl rfl, ?_, ?_⟩
          · rw [if_pos (by decide), if_pos (by decide), if_neg (by decide), if_pos rfl, popN hi6 (by omega) htop, bnd_s, if_neg h0]
            unfold F9_value_126 F9_value_153
            rw [gd_t (isO_t t1), pushN hi6 (by omega) up_eq, bnd_s, nI_1]
          · rw [if_neg (by decide), if_pos (by decide), if_pos rfl, nI_pred, gd_t (inb_t (N := 200) (by omega) (by omega)), nI_c (by omega), ← hv, if_neg h0]
            unfold F12_says_130 F12_says_191
            rw [gd_t (inb_t (N := 200) (by omega) (by omega)), nI_c (by omega), nI_1]
      · -- two
        have hneg : c < 0 ∧ c ≤ -7 ∧ ¬ c = -7 ∧ ¬ c = -8 ∧ ¬ (-7 : Int32) < c := by
          rcases h with ⟨rfl, -⟩ | ⟨rfl, -⟩ | ⟨rfl, -⟩ | ⟨rfl, -⟩ | ⟨rfl, -⟩ | ⟨rfl, -⟩ | ⟨rfl, -⟩ <;> decide
        have hmm : ¬ (100000 : Int32) ≤ mc ∧ (11 : Int32) ≤ mc ∧ ¬ mc = 13 ∧ ¬ mc = 19 := by
          rcases h with ⟨-, rfl⟩ | ⟨-, rfl⟩ | ⟨-, rfl⟩ | ⟨-, rfl⟩ | ⟨-, rfl⟩ | ⟨-, rfl⟩ | ⟨-, rfl⟩ <;> decide
        obtain ⟨g1, g2, g3, g4, g5⟩ := hneg
        obtain ⟨k1, k2, k3, k4⟩ := hmm
        obtain ⟨hd2, rfl⟩ := stk_bi hs1 g5 (fun e => e.elim g3 g4)
        obtain ⟨e, rfl⟩ : ∃ e, d = e + 2 := ⟨d - 2, by omega⟩
        have hv1 := hst (e + 1) (by omega)
        have hv0 := hst e (by omega)
        obtain ⟨v, hv2, hv3⟩ := joined_two (x := σ (15 + 4 * i) e) (y := σ (15 + 4 * i) (e + 1)) (σ := up (up σ (12 + 4 * i) 4 (nI (e + 1))) (12 + 4 * i) 4 (nI e)) (τ := τ) h
        refine ⟨_, _, _, _, _, _, hsz, VS.top (d := e) (σ := up (up σ (12 + 4 * i) 4 (nI (e + 1))) (12 + 4 * i) 4 (nI e)) (τ := τ) (x := v) hlt hj1 (by omega) (fun q hq => by rw [up_ne (by omega), up_ne (by omega)]; exact hst q (by omega)) (by simpa using hs2) ((hf.up (Or.inl ⟨rfl, rfl⟩)).up (Or.inl ⟨rfl, rfl⟩)) hg rfl rfl, ?_, ?_⟩
        · rw [if_pos g1, if_pos g2, if_neg g3, if_neg g4, popN hi6 (by omega) htop, bnd_s, popN hi6 (d := e) (by omega) up_eq, bnd_s, up_ne (by omega), hv2, bnd_s, pushN hi6 (by omega) up_eq, bnd_s]
          unfold F9_value_153
          rw [nI_1]
        · rw [if_neg k1, if_pos k2, if_neg k3, if_neg k4, show nI (e + 2) + (-1 : Int32) = nI (e + 1) from pk_m1 (e + 1), nI_pred, gd_t (inb_t (N := 200) (by omega) (by omega)), gd_t (inb_t (N := 200) (by omega) (by omega)), nI_c (by omega), nI_c (by omega), ← hv0, ← hv1, hv3, bnd_s]
          unfold F12_says_191
          rw [nI_1]
