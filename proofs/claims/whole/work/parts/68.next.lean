section
/-! the reference's next token -/
def pd (f : Nat → Int32) (i e c : Nat) : Int32 := if i + c < e then f (i + c) else 32
theorem wch_pad : ∀ k, k < 12 → wlen k < 8 ∧ (∀ j, j < 8 → wlen k ≤ j → wch k j = 32) ∧ ∀ j, j < wlen k → wch k j ≠ 32 := by decide +kernel
theorem mw_pd {f : Nat → Int32} {i e k : Nat} (hk : k < 12) (hi : i ≤ e) (h : mwB f i e k = true) : ∀ j, j < 8 → wch k j = pd f i e j := fun j hj => by
  obtain ⟨h1, h2⟩ := mwB_1 h
  obtain ⟨p1, p2, p3⟩ := wch_pad k hk
  unfold pd
  by_cases hw : j < wlen k
  · rw [if_pos (by omega), h2 j hw]
  · rw [if_neg (by omega), p2 j hj (by omega)]
theorem pd_mw {f : Nat → Int32} {i e k : Nat} (hk : k < 12) (hi : i ≤ e) (he : e - i ≤ 8) (hl : ∀ q, i ≤ q → q < e → ¬ wi (f q) 97 122 = 0) (h : ∀ j, j < 8 → wch k j = pd f i e j) : mwB f i e k = true := by
  obtain ⟨p1, p2, p3⟩ := wch_pad k hk
  have hlen : e - i = wlen k := by
    rcases Nat.lt_or_ge (e - i) (wlen k) with z | z
    · have h1 := h (e - i) (by omega)
      unfold pd at h1
      rw [if_neg (by omega)] at h1
      exact absurd h1 (p3 _ z)
    · rcases Nat.lt_or_ge (wlen k) (e - i) with y | y
      · have h1 := h (wlen k) p1
        unfold pd at h1
        rw [if_pos (by omega), p2 _ p1 (Nat.le_refl _)] at h1
        exact absurd (by rw [← h1]; decide) (hl (i + wlen k) (by omega) (by omega))
      · omega
  refine mwB_2 hlen (fun c hc => ?_)
  have h1 := h c (by omega)
  unfold pd at h1
  rw [if_pos (by omega)] at h1
  exact h1.symm
theorem word_ix {k c : Nat} : ((8 : Int32) * nI k + nI c) = nI (8 * k + c) := by rw [show (8 : Int32) = nI 8 from rfl, pk_mul, nI_add]
theorem innerM {f : Nat → Int32} {s i e k : Nat} {τ : M2} {fu : Nat} {k2 : Int32 → M2 → Option (Int32 × M2)} (hk : k < 12) (hi : i ≤ e) (he : e ≤ s) (hs : s ≤ 160) (h5 : ∀ q, q < s → τ 5 q = f q) (h14 : ∀ q, q < 96 → τ 14 q = wordsL.getD q 0) (hl : ∀ q, i ≤ q → q < e → ¬ wi (f q) 97 122 = 0) (h8 : e - i ≤ 8) (hfu : 161 < fu) :
    F12_wordFrom_26 fu k2 (nI i) (nI e) (nI k) 1 0 τ = F12_wordFrom_88 fu k2 (nI i) (nI e) (nI k) (b01 (mwB f i e k)) τ := by
  unfold F12_wordFrom_26
  refine el2 (R := Int32 × M2) (fun q x4 x5 t => ∃ c, q = 8 - c ∧ c ≤ 8 ∧ x5 = nI c ∧ t = τ ∧ ((x4 = 1 ∧ ∀ j, j < c → wch k j = pd f i e j) ∨ (x4 = 0 ∧ mwB f i e k = false))) (fun r => r = F12_wordFrom_88 fu k2 (nI i) (nI e) (nI k) (b01 (mwB f i e k)) τ) ?_ 8 fu 1 0 τ (by omega) ⟨0, rfl, by omega, rfl, rfl, Or.inl ⟨rfl, fun j hj => by omega⟩⟩
  intro k26 q x4 x5 t hI
  obtain ⟨c, rfl, hc, rfl, rfl, hx⟩ := hI
  rcases hx with ⟨rfl, hj⟩ | ⟨rfl, hm⟩
  · by_cases hc8 : c = 8
    · left
      subst hc8
      rw [if_pos (by decide), pd_mw hk hi h8 hl hj]
      rfl
    · right
      have ew : t 14 (8 * k + c) = wch k c := h14 _ (by omega)
      rw [if_neg (show ¬ (8 : Int32) ≤ nI c from nI_ge (b := 8) (by omega) (by omega)), if_neg (by decide), word_ix, gd_t (inb_t (N := 96) (by omega) (by omega)), nI_c (by omega), ew, nI_add]
      have hgo : ∀ y : Int32, y = pd f i e c → ∃ m x0 x1 s_1, m < 8 - c ∧ (∃ c, m = 8 - c ∧ c ≤ 8 ∧ x1 = nI c ∧ s_1 = t ∧ ((x0 = 1 ∧ ∀ j, j < c → wch k j = pd f i e j) ∨ (x0 = 0 ∧ mwB f i e k = false))) ∧ F12_wordFrom_72 fu k2 k26 (nI i) (nI e) (nI k) (nI c) y (wch k c) t = k26 x0 x1 s_1 := by
        intro y hy
        unfold F12_wordFrom_72 F12_wordFrom_80
        by_cases hm : wch k c = y
        · rw [if_pos hm]
          refine ⟨8 - (c + 1), _, _, _, by omega, ⟨c + 1, rfl, by omega, by rw [nI_1], rfl, Or.inl ⟨rfl, fun j hj2 => ?_⟩⟩, rfl⟩
          by_cases hjc : j = c
          · rw [hjc, hm, hy]
          · exact hj j (by omega)
        · rw [if_neg hm]
          refine ⟨8 - (c + 1), _, _, _, by omega, ⟨c + 1, rfl, by omega, by rw [nI_1], rfl, Or.inr ⟨rfl, ?_⟩⟩, rfl⟩
          cases z : mwB f i e k with
          | false => rfl
          | true => exact absurd (by rw [hy]; exact mw_pd hk hi z c (by omega)) hm
      by_cases hie : e ≤ i + c
      · rw [if_pos (nI_le hie (by omega))]
        exact hgo 32 (by unfold pd; rw [if_neg (by omega)])
      · rw [if_neg (nI_ge (by omega) (by omega)), gd_t (inb_t (N := 160) (by omega) (by omega)), nI_c (by omega), h5 _ (by omega)]
        exact hgo _ (by unfold pd; rw [if_pos (by omega)])
  · left
    rw [hm]
    by_cases hc8 : (8 : Int32) ≤ nI c
    · rw [if_pos hc8]; rfl
    · rw [if_neg hc8, if_pos rfl]; rfl
theorem fwk_s {g : Nat → Bool} {m k : Nat} : fwk g (m + 1) k = match g k with | true => k | false => fwk g m (k + 1) := rfl
theorem wordFromM {f : Nat → Int32} {s i e : Nat} {τ : M2} {fu : Nat} (hi : i ≤ e) (he : e ≤ s) (hs : s ≤ 160) (h5 : ∀ q, q < s → τ 5 q = f q) (h14 : ∀ q, q < 96 → τ 14 q = wordsL.getD q 0) (hl : ∀ q, i ≤ q → q < e → ¬ wi (f q) 97 122 = 0) (hfu : 161 < fu) :
    F12_wordFrom fu (nI i) (nI e) τ = some (nI (wk f i e), τ) := by
  unfold F12_wordFrom F12_wordFrom_2
  refine el1 (R := Int32 × M2) (fun q x3 t => ∃ k, q = 12 - k ∧ k ≤ 12 ∧ x3 = nI k ∧ t = τ ∧ fwk (mwB f i e) (12 - k) k = wk f i e) (fun r => r = some (nI (wk f i e), τ)) ?_ 12 fu 0 τ (by omega) ⟨0, rfl, by omega, rfl, rfl, rfl⟩
  intro k2 q x3 t hI
  obtain ⟨k, rfl, hk, rfl, rfl, hw⟩ := hI
  by_cases hk12 : k = 12
  · left
    subst hk12
    rw [if_pos (by decide), ← hw]
    rfl
  · obtain ⟨p1, p2, p3⟩ := wch_pad k (by omega)
    rw [if_neg (show ¬ (12 : Int32) ≤ nI k from nI_ge (b := 12) (by omega) (by omega)), pk_sub hi]
    unfold F12_wordFrom_21
    have hin : (if (8 : Int32) < nI (e - i) then F12_wordFrom_26 fu k2 (nI i) (nI e) (nI k) 0 0 t else F12_wordFrom_26 fu k2 (nI i) (nI e) (nI k) 1 0 t) = F12_wordFrom_88 fu k2 (nI i) (nI e) (nI k) (b01 (mwB f i e k)) t := by
      by_cases h8 : 8 < e - i
      · rw [if_pos (show (8 : Int32) < nI (e - i) from nI_lt (a := 8) h8 (by omega))]
        have hm : mwB f i e k = false := by
          cases z : mwB f i e k with
          | false => rfl
          | true =>
            have := (mwB_1 z).1
            omega
        rw [hm]
        obtain ⟨q, rfl⟩ : ∃ q, fu = q + 1 := ⟨fu - 1, by omega⟩
        unfold F12_wordFrom_26
        exact rfl
      · rw [if_neg (show ¬ (8 : Int32) < nI (e - i) from nI_nlt (a := 8) (by omega) (by omega))]
        exact innerM (by omega) hi he hs h5 h14 hl (by omega) hfu
    rw [hin]
    unfold F12_wordFrom_88
    rw [show 12 - k = (12 - (k + 1)) + 1 by omega, fwk_s] at hw
    cases z : mwB f i e k with
    | true =>
      left
      rw [z] at hw
      rw [if_neg (by decide), ← hw]
    | false =>
      right
      rw [z] at hw
      rw [if_pos (by decide)]
      exact ⟨12 - (k + 1), _, _, by omega, ⟨k + 1, rfl, by omega, by rw [nI_1], rfl, hw⟩, rfl⟩
/-- the reference's token by the class's code -/
def rtk (c : Nat) : Int32 := if c = 0 then -1 else if c = 1 then 0 else if c < 5 then 3 else if c < 8 then nI (c - 1) else if c < 256 then nI c else if c < 512 then 2 else 1
def rvl (c : Nat) (x : Int32) : Prop := (2 ≤ c → c < 5 → x = nI (c - 2)) ∧ (256 ≤ c → c < 512 → x = nI (c - 256)) ∧ (512 ≤ c → x = nI (c - 512))
theorem word_tok : ∀ k, k < 13 → (if (3 : Int32) ≤ nI k then if (9 : Int32) ≤ nI k then if nI k = (12 : Int32) then (-1 : Int32) else ((4 : Int32) + nI k) - (9 : Int32) else 2 else 3) = rtk (wcode k) ∧ (2 ≤ wcode k → wcode k < 5 → (if (3 : Int32) ≤ nI k then nI k - 3 else nI k) = nI (wcode k - 2)) ∧ (256 ≤ wcode k → wcode k < 512 → (if (3 : Int32) ≤ nI k then nI k - 3 else nI k) = nI (wcode k - 256)) ∧ wcode k < 512 := by decide +kernel
def nM (o k : Nat) : Prop := o = 0 ∧ 19 ≤ k ∧ k ≤ 22
/-- the word's end, its token and value -/
theorem word146 {f : Nat → Int32} {s i e : Nat} {τ : M2} {fu : Nat} (hi : i ≤ e) (he : e ≤ s) (hs : s ≤ 160) (h5 : ∀ q, q < s → τ 5 q = f q) (h14 : ∀ q, q < 96 → τ 14 q = wordsL.getD q 0) (hl : ∀ q, i ≤ q → q < e → ¬ wi (f q) 97 122 = 0) (h20 : τ 0 20 = nI i) (h19 : τ 0 19 = nI e) (hfu : 161 < fu) :
    ∃ τ', F12_next_146 fu τ = some ((), τ') ∧ τ' 0 21 = rtk (wcode (wk f i e)) ∧ rvl (wcode (wk f i e)) (τ' 0 22) ∧ Fr (fun o k => o = 0 ∧ 21 ≤ k ∧ k ≤ 22) τ τ' := by
  obtain ⟨w1, w2, w3, w4⟩ := word_tok (wk f i e) (by have := wk_le (f := f) (i := i) (e := e); omega)
  unfold F12_next_146
  rw [h20, h19, wordFromM hi he hs h5 h14 hl hfu, bnd_s]
  unfold F12_next_195 F12_next_211
  have e1 : ∀ y : Int32, (if (3 : Int32) ≤ nI (wk f i e) then some ((), up (up τ 0 21 y) 0 22 (nI (wk f i e) - 3)) else some ((), up (up τ 0 21 y) 0 22 (nI (wk f i e)))) = some ((), up (up τ 0 21 y) 0 22 (if (3 : Int32) ≤ nI (wk f i e) then nI (wk f i e) - 3 else nI (wk f i e))) := fun y => by
    by_cases z : (3 : Int32) ≤ nI (wk f i e)
    · rw [if_pos z, if_pos z]
    · rw [if_neg z, if_neg z]
  simp only [e1]
  have fin : ∀ y : Int32, y = rtk (wcode (wk f i e)) → ∃ τ', some ((), up (up τ 0 21 y) 0 22 (if (3 : Int32) ≤ nI (wk f i e) then nI (wk f i e) - 3 else nI (wk f i e))) = some ((), τ') ∧ τ' 0 21 = rtk (wcode (wk f i e)) ∧ rvl (wcode (wk f i e)) (τ' 0 22) ∧ Fr (fun o k => o = 0 ∧ 21 ≤ k ∧ k ≤ 22) τ τ' := by
    rintro y rfl
    refine ⟨_, rfl, by rw [up_ne (by omega), up_eq], ?_, (Fr.rf.up (by omega)).up (by omega)⟩
    rw [up_eq]
    exact ⟨w2, w3, fun z => by omega⟩
  by_cases c0 : (3 : Int32) ≤ nI (wk f i e)
  · rw [if_pos c0] at w1
    by_cases c1 : (9 : Int32) ≤ nI (wk f i e)
    · rw [if_pos c1] at w1
      by_cases c2 : nI (wk f i e) = (12 : Int32)
      · rw [if_pos c2] at w1
        rw [if_pos c0, if_pos c1, if_pos c2]; exact fin _ w1
      · rw [if_neg c2] at w1
        rw [if_pos c0, if_pos c1, if_neg c2]; exact fin _ w1
    · rw [if_neg c1] at w1
      rw [if_pos c0, if_neg c1]; exact fin _ w1
  · rw [if_neg c0] at w1
    rw [if_neg c0]; exact fin _ w1
theorem letters103 {f : Nat → Int32} {s i : Nat} {τ : M2} {fu : Nat} (hi : i < s) (hs : s ≤ 160) (h7 : τ 0 7 = nI s) (h5 : ∀ q, q < s → τ 5 q = f q) (hl : ¬ wi (f i) 97 122 = 0) (h19 : τ 0 19 = nI i) (hfu : 161 < fu) :
    ∃ τ', F12_next_103 fu τ = F12_next_146 fu τ' ∧ τ' 0 19 = nI (eT f s i) ∧ Fr (fun o k => o = 0 ∧ k = 19) τ τ' := by
  have hE : rn f 97 122 (s - i) i = eT f s i := by
    unfold eT
    rw [if_pos hl, show s - i = (s - (i + 1)) + 1 by omega, rn_s, if_neg hl]
  unfold F12_next_103
  refine el0 (R := Unit × M2) (fun q t => ∃ k, q = s - k ∧ i ≤ k ∧ k ≤ s ∧ t 0 19 = nI k ∧ rn f 97 122 (s - k) k = eT f s i ∧ Fr (fun o k => o = 0 ∧ k = 19) τ t) (fun r => ∃ τ', r = F12_next_146 fu τ' ∧ τ' 0 19 = nI (eT f s i) ∧ Fr (fun o k => o = 0 ∧ k = 19) τ τ') ?_ (s - i) fu τ (by omega) ⟨i, rfl, Nat.le_refl _, by omega, h19, hE, Fr.rf⟩
  intro k103 q t hI
  obtain ⟨k, rfl, hk1, hk2, h19, hr, hf⟩ := hI
  have e7 : t 0 7 = nI s := by rw [hf 0 7 (by omega)]; exact h7
  rw [e7, h19]
  by_cases hks : s ≤ k
  · left
    rw [if_pos (nI_le hks (by omega))]
    rw [show s - k = 0 by omega] at hr
    exact ⟨t, rfl, by rw [h19, ← hr]; rfl, hf⟩
  · rw [if_neg (nI_ge (by omega) (by omega)), gd_t (inb_t (N := 160) (by omega) (by omega)), nI_c (by omega), hf 5 k (by omega), h5 k (by omega), gwi, bnd_s, h19]
    rw [show s - k = (s - (k + 1)) + 1 by omega, rn_s] at hr
    by_cases c : wi (f k) 97 122 = 0
    · left
      rw [if_pos c] at hr
      rw [if_pos c]
      exact ⟨t, rfl, by rw [h19, hr], hf⟩
    · right
      rw [if_neg c] at hr
      rw [if_neg c]
      exact ⟨s - (k + 1), _, by omega, ⟨k + 1, rfl, by omega, by omega, by rw [up_eq, nI_1], hr, hf.up ⟨rfl, rfl⟩⟩, rfl⟩
theorem digits230 {f : Nat → Int32} {s i : Nat} {τ : M2} {fu : Nat} (hi : i < s) (hs : s ≤ 160) (h7 : τ 0 7 = nI s) (h5 : ∀ q, q < s → τ 5 q = f q) (hl : wi (f i) 97 122 = 0) (hd : ¬ wi (f i) 48 57 = 0) (h19 : τ 0 19 = nI i) (h22 : τ 0 22 = 0) (hfu : 161 < fu) :
    ∃ τ', F12_next_230 fu 0 τ = some ((), τ') ∧ τ' 0 19 = nI (eT f s i) ∧ τ' 0 21 = rtk (tkn f i (eT f s i)) ∧ rvl (tkn f i (eT f s i)) (τ' 0 22) ∧ Fr (fun o k => o = 0 ∧ (k = 19 ∨ k = 21 ∨ k = 22)) τ τ' := by
  have hE : rn f 48 57 (s - i) i = eT f s i := by
    unfold eT
    rw [if_neg (fun z => z hl), if_pos hd, show s - i = (s - (i + 1)) + 1 by omega, rn_s, if_neg hd]
  have key : ∃ p, F12_next_230 fu 0 τ = some p ∧ ((p : Unit × M2).2 0 19 = nI (eT f s i) ∧ p.2 0 21 = rtk (tkn f i (eT f s i)) ∧ rvl (tkn f i (eT f s i)) (p.2 0 22) ∧ Fr (fun o k => o = 0 ∧ (k = 19 ∨ k = 21 ∨ k = 22)) τ p.2) := by
    unfold F12_next_230
    refine sl1 (R := Unit × M2) (fun q x2 t => ∃ k, q = s - k ∧ i ≤ k ∧ k ≤ s ∧ x2 = nI (k - i) ∧ t 0 19 = nI k ∧ rn f 48 57 (s - k) k = eT f s i ∧ (k - i ≤ 4 → t 0 22 = nI (numN f i (k - i))) ∧ Fr (fun o k => o = 0 ∧ (k = 19 ∨ k = 21 ∨ k = 22)) τ t) (fun p => p.2 0 19 = nI (eT f s i) ∧ p.2 0 21 = rtk (tkn f i (eT f s i)) ∧ rvl (tkn f i (eT f s i)) (p.2 0 22) ∧ Fr (fun o k => o = 0 ∧ (k = 19 ∨ k = 21 ∨ k = 22)) τ p.2) ?_ (s - i) fu 0 τ (by omega) ⟨i, rfl, Nat.le_refl _, by omega, by rw [Nat.sub_self]; rfl, h19, hE, fun _ => by rw [Nat.sub_self]; exact h22, Fr.rf⟩
    intro k230 q x2 t hI
    obtain ⟨k, rfl, hk1, hk2, rfl, h19, hr, h22, hf⟩ := hI
    have e7 : t 0 7 = nI s := by rw [hf 0 7 (by omega)]; exact h7
    have fin : k = eT f s i → ∃ r, F12_next_309 fu (nI (k - i)) t = some r ∧ ((r : Unit × M2).2 0 19 = nI (eT f s i) ∧ r.2 0 21 = rtk (tkn f i (eT f s i)) ∧ rvl (tkn f i (eT f s i)) (r.2 0 22) ∧ Fr (fun o k => o = 0 ∧ (k = 19 ∨ k = 21 ∨ k = 22)) τ r.2) := by
      intro hk
      have et : tkn f i (eT f s i) = if k - i ≤ 4 then 512 + numN f i (k - i) else 0 := by
        unfold tkn
        rw [if_neg (fun z => z hl), if_pos hd, ← hk]
      unfold F12_next_309 F12_next_320
      by_cases h4 : k - i ≤ 4
      · rw [if_pos (show nI (k - i) ≤ (4 : Int32) from nI_le (b := 4) h4 (by omega))]
        rw [if_pos h4] at et
        refine ⟨_, rfl, ?_, ?_, ?_, hf.up (by omega)⟩
        · show up t 0 21 1 0 19 = _
          rw [up_ne (by omega), h19, hk]
        · show up t 0 21 1 0 21 = _
          rw [up_eq, et]
          unfold rtk
          rw [if_neg (by omega), if_neg (by omega), if_neg (by omega), if_neg (by omega), if_neg (by omega), if_neg (by omega)]
        · show rvl _ (up t 0 21 1 0 22)
          rw [up_ne (by omega), h22 h4, et]
          exact ⟨fun a b => by omega, fun a b => by omega, fun a => by rw [Nat.add_sub_cancel_left]⟩
      · rw [if_neg (show ¬ nI (k - i) ≤ (4 : Int32) from nI_ge (a := 4) (by omega) (by omega))]
        rw [if_neg h4] at et
        refine ⟨_, rfl, ?_, ?_, ?_, hf.up (by omega)⟩
        · show up t 0 21 (-1) 0 19 = _
          rw [up_ne (by omega), h19, hk]
        · show up t 0 21 (-1) 0 21 = _
          rw [up_eq, et]; rfl
        · rw [et]
          exact ⟨fun a b => by omega, fun a b => by omega, fun a => by omega⟩
    rw [e7, h19]
    by_cases hks : s ≤ k
    · left
      rw [if_pos (nI_le hks (by omega))]
      rw [show s - k = 0 by omega] at hr
      exact fin hr
    · rw [if_neg (nI_ge (by omega) (by omega)), gd_t (inb_t (N := 160) (by omega) (by omega)), nI_c (by omega), hf 5 k (by omega), h5 k (by omega), gwi, bnd_s]
      rw [show s - k = (s - (k + 1)) + 1 by omega, rn_s] at hr
      by_cases c : wi (f k) 48 57 = 0
      · left
        rw [if_pos c] at hr
        rw [if_pos c]
        exact fin hr
      · right
        rw [if_neg c] at hr
        rw [if_neg c, h19]
        have hgo : ∀ y : Int32, (k + 1 - i ≤ 4 → y = nI (numN f i (k + 1 - i))) → ∃ m x0 s_1, m < s - k ∧ (∃ k, m = s - k ∧ i ≤ k ∧ k ≤ s ∧ x0 = nI (k - i) ∧ s_1 0 19 = nI k ∧ rn f 48 57 (s - k) k = eT f s i ∧ (k - i ≤ 4 → s_1 0 22 = nI (numN f i (k - i))) ∧ Fr (fun o k => o = 0 ∧ (k = 19 ∨ k = 21 ∨ k = 22)) τ s_1) ∧ F12_next_290 fu k230 (nI (k - i)) y t = k230 x0 s_1 := by
          intro y hy
          unfold F12_next_290
          refine ⟨s - (k + 1), _, _, by omega, ⟨k + 1, rfl, by omega, by omega, by rw [nI_1, show k - i + 1 = k + 1 - i by omega], by rw [up_eq, up_ne (by omega), h19, nI_1], hr, fun h4 => by rw [up_ne (by omega), up_eq]; exact hy h4, (hf.up (by omega)).up (by omega)⟩, rfl⟩
        by_cases h4 : 4 ≤ k - i
        · rw [if_pos (show (4 : Int32) ≤ nI (k - i) from nI_le (a := 4) h4 (by omega))]
          exact hgo 0 (fun z => by omega)
        · obtain ⟨z, hz, ez⟩ := dig_of c
          rw [if_neg (show ¬ (4 : Int32) ≤ nI (k - i) from nI_ge (b := 4) (by omega) (by omega)), gd_t (inb_t (N := 160) (by omega) (by omega)), nI_c (by omega), hf 5 k (by omega), h5 k (by omega), h22 (by omega)]
          refine hgo _ (fun _ => ?_)
          rw [ez, show (10 : Int32) = nI 10 from rfl, show (48 : Int32) = nI 48 from rfl, pk_mul, nI_add, pk_sub (by omega), show k + 1 - i = (k - i) + 1 by omega, num_s hz (by rw [show i + (k - i) = k by omega]; exact ez)]
          congr 1
          omega
  obtain ⟨⟨⟨⟩, τ'⟩, k1, k2⟩ := key
  exact ⟨τ', k1, k2⟩
theorem signM {x : Int32} {τ : M2} {fu : Nat} : (if x = (40 : Int32) then F12_next_374 fu x τ else if x = (41 : Int32) then F12_next_374 fu x τ else if x = (59 : Int32) then F12_next_374 fu x τ else if x = (43 : Int32) then F12_next_374 fu x τ else if x = (45 : Int32) then F12_next_374 fu x τ else if x = (42 : Int32) then F12_next_374 fu x τ else if x = (60 : Int32) then F12_next_374 fu x τ else if x = (61 : Int32) then F12_next_374 fu x τ else F12_next_379 fu x 0 τ) = F12_next_379 fu x (sgv x) τ := by
  unfold F12_next_374 sgv
  by_cases c0 : x = 40
  · rw [if_pos c0, if_pos c0]
  rw [if_neg c0, if_neg c0]
  by_cases c1 : x = 41
  · rw [if_pos c1, if_pos c1]
  rw [if_neg c1, if_neg c1]
  by_cases c2 : x = 59
  · rw [if_pos c2, if_pos c2]
  rw [if_neg c2, if_neg c2]
  by_cases c3 : x = 43
  · rw [if_pos c3, if_pos c3]
  rw [if_neg c3, if_neg c3]
  by_cases c4 : x = 45
  · rw [if_pos c4, if_pos c4]
  rw [if_neg c4, if_neg c4]
  by_cases c5 : x = 42
  · rw [if_pos c5, if_pos c5]
  rw [if_neg c5, if_neg c5]
  by_cases c6 : x = 60
  · rw [if_pos c6, if_pos c6]
  rw [if_neg c6, if_neg c6]
  by_cases c7 : x = 61
  · rw [if_pos c7, if_pos c7]
  rw [if_neg c7, if_neg c7]
theorem nextM {f : Nat → Int32} {s j : Nat} {τ : M2} {fu : Nat} (hs : s ≤ 160) (h7 : τ 0 7 = nI s) (h5 : ∀ q, q < s → τ 5 q = f q) (h14 : ∀ q, q < 96 → τ 14 q = wordsL.getD q 0) (h19 : τ 0 19 = nI (An f s j)) (hfu : 161 < fu) :
    ∃ τ', F12_next fu τ = some ((), τ') ∧ τ' 0 19 = nI (An f s (j + 1)) ∧ τ' 0 20 = nI (Pn f s j) ∧ τ' 0 21 = rtk (Tn f s j) ∧ rvl (Tn f s j) (τ' 0 22) ∧ Fr nM τ τ' := by
  have hA := An_le (f := f) (s := s) j
  obtain ⟨hP1, hP2⟩ := Pn_le (f := f) (s := s) (j := j)
  have step1 : ∃ t, F12_next fu τ = F12_next_52 fu t ∧ t 0 19 = nI (Pn f s j) ∧ Fr (fun o k => o = 0 ∧ k = 19) τ t := by
    unfold F12_next F12_next_0
    refine el0 (R := Unit × M2) (fun q t => ∃ k, q = s - k ∧ k ≤ s ∧ t 0 19 = nI k ∧ sk f (s - k) k = Pn f s j ∧ Fr (fun o k => o = 0 ∧ k = 19) τ t) (fun r => ∃ t, r = F12_next_52 fu t ∧ t 0 19 = nI (Pn f s j) ∧ Fr (fun o k => o = 0 ∧ k = 19) τ t) ?_ (s - An f s j) fu τ (by omega) ⟨An f s j, rfl, hA, h19, rfl, Fr.rf⟩
    intro k0 q t hI
    obtain ⟨k, rfl, hk, h19, hr, hf⟩ := hI
    have e7 : t 0 7 = nI s := by rw [hf 0 7 (by omega)]; exact h7
    rw [e7, h19]
    by_cases hks : s ≤ k
    · left
      rw [if_pos (nI_le hks (by omega))]
      rw [show s - k = 0 by omega] at hr
      exact ⟨t, rfl, by rw [h19, ← hr]; rfl, hf⟩
    · rw [if_neg (nI_ge (by omega) (by omega)), gd_t (inb_t (N := 160) (by omega) (by omega)), nI_c (by omega), hf 5 k (by omega), h5 k (by omega)]
      rw [show s - k = (s - (k + 1)) + 1 by omega] at hr
      unfold F12_next_39
      by_cases hb : blk (f k)
      · right
        rw [sk_b hb] at hr
        have hgo : ∃ m s_1, m < s - k ∧ (∃ k, m = s - k ∧ k ≤ s ∧ s_1 0 19 = nI k ∧ sk f (s - k) k = Pn f s j ∧ Fr (fun o k => o = 0 ∧ k = 19) τ s_1) ∧ k0 (up t 0 19 (t 0 19 + 1)) = k0 s_1 := ⟨s - (k + 1), _, by omega, ⟨k + 1, rfl, by omega, by rw [up_eq, h19, nI_1], hr, hf.up ⟨rfl, rfl⟩⟩, rfl⟩
        by_cases b1 : f k = 32
        · rw [if_pos b1]; exact hgo
        · rw [if_neg b1, if_pos (hb.resolve_left b1)]; exact hgo
      · left
        rw [sk_n hb] at hr
        rw [if_neg (fun e => hb (Or.inl e)), if_neg (fun e => hb (Or.inr e))]
        exact ⟨t, rfl, by rw [h19, hr], hf⟩
  obtain ⟨t, s1, s2, s3⟩ := step1
  rw [s1]
  unfold F12_next_52
  have u19 : up (up (up t 0 20 (t 0 19)) 0 21 (0 : Int32)) 0 22 (0 : Int32) 0 19 = nI (Pn f s j) := by rw [up_ne (by omega), up_ne (by omega), up_ne (by omega), s2]
  have u7 : up (up (up t 0 20 (t 0 19)) 0 21 (0 : Int32)) 0 22 (0 : Int32) 0 7 = nI s := by rw [up_ne (by omega), up_ne (by omega), up_ne (by omega), s3 0 7 (by omega), h7]
  have u20 : up (up (up t 0 20 (t 0 19)) 0 21 (0 : Int32)) 0 22 (0 : Int32) 0 20 = nI (Pn f s j) := by rw [up_ne (by omega), up_ne (by omega), up_eq, s2]
  have u21 : up (up (up t 0 20 (t 0 19)) 0 21 (0 : Int32)) 0 22 (0 : Int32) 0 21 = 0 := by rw [up_ne (by omega), up_eq]
  have u22 : up (up (up t 0 20 (t 0 19)) 0 21 (0 : Int32)) 0 22 (0 : Int32) 0 22 = 0 := up_eq
  have uf : Fr nM τ (up (up (up t 0 20 (t 0 19)) 0 21 (0 : Int32)) 0 22 (0 : Int32)) := (((s3.mono fun o k z => (by unfold nM; omega)).up (by unfold nM; omega)).up (by unfold nM; omega)).up (by unfold nM; omega)
  generalize up (up (up t 0 20 (t 0 19)) 0 21 (0 : Int32)) 0 22 (0 : Int32) = u at *
  rw [u19, u7]
  by_cases hPs : Pn f s j < s
  · have eA : An f s (j + 1) = eT f s (Pn f s j) := An_1 hPs
    have eTn : Tn f s j = tkn f (Pn f s j) (eT f s (Pn f s j)) := if_pos hPs
    have e5 : ∀ q, q < s → u 5 q = f q := fun q hq => by rw [uf 5 q (by unfold nM; omega)]; exact h5 q hq
    have e14 : ∀ q, q < 96 → u 14 q = wordsL.getD q 0 := fun q hq => by rw [uf 14 q (by unfold nM; omega)]; exact h14 q hq
    have hE := eT_le (f := f) hPs
    rw [if_neg (nI_eqI (by omega) (by omega) (by omega)), gd_t (inb_t (N := 160) (by omega) (by omega)), nI_c (by omega), e5 _ hPs, gwi, bnd_s, eA, eTn]
    by_cases c0 : wi (f (Pn f s j)) 97 122 = 0
    · rw [if_pos c0, gwi, bnd_s]
      by_cases c1 : wi (f (Pn f s j)) 48 57 = 0
      · rw [if_pos c1, signM]
        have eE : eT f s (Pn f s j) = Pn f s j + 1 := by
          unfold eT
          rw [if_neg (fun z => z c0), if_neg (fun z => z c1)]
        have et : tkn f (Pn f s j) (eT f s (Pn f s j)) = if sgv (f (Pn f s j)) = 0 then 0 else (f (Pn f s j)).toNatClampNeg := by
          unfold tkn
          rw [if_neg (fun z => z c0), if_neg (fun z => z c1)]
        rw [et, eE]
        unfold F12_next_379 F12_next_390
        by_cases c2 : sgv (f (Pn f s j)) = 0
        · rw [if_pos c2, if_pos c2]
          refine ⟨_, rfl, by rw [up_eq, up_ne (by omega), u19, nI_1], by rw [up_ne (by omega), up_ne (by omega), u20], by rw [up_ne (by omega), up_eq]; rfl, ⟨fun a b => by omega, fun a b => by omega, fun a => by omega⟩, (uf.up (by unfold nM; omega)).up (by unfold nM; omega)⟩
        · obtain ⟨z, hz, ez⟩ := sgv_1 c2
          rw [if_neg c2, if_neg c2, ez, nI_c (by unfold sgN at hz; omega)]
          unfold sgN at hz
          refine ⟨_, rfl, by rw [up_eq, up_ne (by omega), u19, nI_1], by rw [up_ne (by omega), up_ne (by omega), u20], ?_, ⟨fun a b => by omega, fun a b => by omega, fun a => by omega⟩, (uf.up (by unfold nM; omega)).up (by unfold nM; omega)⟩
          rw [up_ne (by omega), up_eq]
          unfold rtk
          rw [if_neg (by omega), if_neg (by omega), if_neg (by omega), if_neg (by omega), if_pos (by omega)]
      · rw [if_neg c1]
        obtain ⟨τ', d1, d2, d3, d4, d5⟩ := digits230 (f := f) (fu := fu) hPs hs u7 e5 c0 c1 u19 u22 hfu
        exact ⟨τ', d1, d2, by rw [d5 0 20 (by omega), u20], d3, d4, uf.tr (d5.mono fun o k z => (by unfold nM; omega))⟩
    · rw [if_neg c0]
      obtain ⟨τ1, d1, d2, d3⟩ := letters103 (f := f) (fu := fu) hPs hs u7 e5 c0 u19 hfu
      obtain ⟨τ', g1, g2, g3, g4⟩ := word146 (f := f) (s := s) (i := Pn f s j) (e := eT f s (Pn f s j)) (τ := τ1) (fu := fu) (by omega) hE.2 hs (fun q hq => by rw [d3 5 q (by omega)]; exact e5 q hq) (fun q hq => by rw [d3 14 q (by omega)]; exact e14 q hq) (eT_let c0) (by rw [d3 0 20 (by omega), u20]) d2 hfu
      have et : tkn f (Pn f s j) (eT f s (Pn f s j)) = wcode (wk f (Pn f s j) (eT f s (Pn f s j))) := by
        unfold tkn
        rw [if_pos c0]
      rw [et]
      exact ⟨τ', by rw [d1, g1], by rw [g4 0 19 (by omega), d2], by rw [g4 0 20 (by omega), d3 0 20 (by omega), u20], g2, g3, (uf.tr (d3.mono fun o k z => (by unfold nM; omega))).tr (g4.mono fun o k z => (by unfold nM; omega))⟩
  · have ePs : Pn f s j = s := by omega
    have eA : An f s (j + 1) = s := An_2 hPs
    have eTn : Tn f s j = 1 := if_neg hPs
    rw [ePs, if_pos rfl, eA, eTn]
    rw [ePs] at u19 u20
    exact ⟨u, rfl, u19, u20, by rw [u21]; rfl, ⟨fun a b => by omega, fun a b => by omega, fun a => by omega⟩, uf⟩
end
