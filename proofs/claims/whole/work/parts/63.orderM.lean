section
/-! the reference's way through all numbers -/
theorem chk_1 {r N : Nat} (h : chk r N = true) : rk r N < 720 ∧ ∃ v s, F4_goOn 20 (cmem r N) = some (v, s) ∧ ((r ^ r ≤ nx r N ∧ v = -1) ∨ (nx r N < r ^ r ∧ ∃ pl, v = nI pl ∧ pl < r ∧ rk r (nx r N) = rk r N + 1 ∧ (∀ k, k < 6 → s 49 k = cmem r (nx r N) 49 k) ∧ ∀ k, k < pl → k < 6 → dg r (nx r N) k = dg r N k)) := by
  unfold chk at h
  rw [Bool.and_eq_true] at h
  obtain ⟨h1, h2⟩ := h
  refine ⟨Nat.le_of_ble_eq_true h1, ?_⟩
  cases e : F4_goOn 20 (cmem r N) with
  | none => rw [e] at h2; cases h2
  | some p =>
    obtain ⟨v, s⟩ := p
    rw [e] at h2
    refine ⟨v, s, rfl, ?_⟩
    dsimp only at h2
    cases e2 : Nat.ble (r ^ r) (nx r N) with
    | true =>
      rw [e2] at h2
      exact Or.inl ⟨Nat.le_of_ble_eq_true e2, of_decide_eq_true h2⟩
    | false =>
      rw [e2] at h2
      dsimp only at h2
      rw [Bool.and_eq_true, Bool.and_eq_true, Bool.and_eq_true, Bool.and_eq_true] at h2
      obtain ⟨h3, h4, h5, h6, h7⟩ := h2
      have e3 : ¬ r ^ r ≤ nx r N := fun z => by
        rw [Nat.ble_eq_true_of_le z] at e2
        cases e2
      refine Or.inr ⟨by omega, v.toNatClampNeg, of_decide_eq_true h3, Nat.le_of_ble_eq_true h4, Nat.eq_of_beq_eq_true h5, fun k hk => of_decide_eq_true (List.all_eq_true.mp h6 k (List.mem_range.mpr hk)), fun k hk hk6 => ?_⟩
      have h8 := List.all_eq_true.mp h7 k (List.mem_range.mpr hk6)
      rw [Bool.or_eq_true] at h8
      rcases h8 with h8 | h8
      · have := Nat.le_of_ble_eq_true h8
        omega
      · exact Nat.eq_of_beq_eq_true h8
theorem np_le (r : Nat) : ∀ m N, N ≤ np r m N ∧ np r m N ≤ N + m
  | 0, N => ⟨Nat.le_refl _, Nat.le_refl _⟩
  | m + 1, N => by
    unfold np
    cases isP r N with
    | true => exact ⟨Nat.le_refl _, by show N ≤ _; omega⟩
    | false =>
      have := np_le r m (N + 1)
      exact ⟨by show N ≤ np r m (N + 1); omega, by show np r m (N + 1) ≤ _; omega⟩
theorem np_is (r : Nat) : ∀ m N, np r m N < N + m → isP r (np r m N) = true
  | 0, N, h => by unfold np at h; omega
  | m + 1, N, h => by
    unfold np at h ⊢
    cases e : isP r N with
    | true => exact e
    | false =>
      rw [e] at h
      have h : np r m (N + 1) < N + (m + 1) := h
      exact np_is r m (N + 1) (by omega)
theorem nx_le {r N : Nat} (h : N < r ^ r) : N + 1 ≤ nx r N ∧ nx r N ≤ r ^ r ∧ (nx r N < r ^ r → isP r (nx r N) = true) := by
  have h1 := np_le r (r ^ r - (N + 1)) (N + 1)
  have h2 := np_is r (r ^ r - (N + 1)) (N + 1)
  unfold nx
  refine ⟨h1.1, by omega, fun z => h2 (by omega)⟩
/-- all orders from N on weighed, m numbers -/
def bf (r : Nat) (ds : Nat → Int32) (res : Nat → Int32 × Int32) : Nat → Nat → Int32 × Int32 × Int32 → Int32 × Int32 × Int32
  | 0, _, b => b
  | m + 1, N, b => bf r ds res m (N + 1) (match isP r N with
    | true => wgh b (ds N) (res N)
    | false => b)
theorem bf_t {r m N : Nat} {ds : Nat → Int32} {res : Nat → Int32 × Int32} {b : Int32 × Int32 × Int32} (h : isP r N = true) : bf r ds res (m + 1) N b = bf r ds res m (N + 1) (wgh b (ds N) (res N)) := by
  show bf r ds res m (N + 1) (match isP r N with | true => wgh b (ds N) (res N) | false => b) = _
  rw [h]
theorem bf_f {r m N : Nat} {ds : Nat → Int32} {res : Nat → Int32 × Int32} {b : Int32 × Int32 × Int32} (h : isP r N = false) : bf r ds res (m + 1) N b = bf r ds res m (N + 1) b := by
  show bf r ds res m (N + 1) (match isP r N with | true => wgh b (ds N) (res N) | false => b) = _
  rw [h]
theorem bf_skip {r : Nat} {ds : Nat → Int32} {res : Nat → Int32 × Int32} : ∀ m N b, bf r ds res m N b = bf r ds res (m - (np r m N - N)) (np r m N) b
  | 0, N, b => by
    unfold np
    rw [Nat.sub_self]
  | m + 1, N, b => by
    cases e : isP r N with
    | true =>
      have e2 : np r (m + 1) N = N := by unfold np; rw [e]
      rw [e2, Nat.sub_self, Nat.sub_zero]
    | false =>
      have e2 : np r (m + 1) N = np r m (N + 1) := by
        show (match isP r N with | true => N | false => np r m (N + 1)) = _
        rw [e]
      have h := np_le r m (N + 1)
      rw [e2, bf_f e, bf_skip m (N + 1) b, show m + 1 - (np r m (N + 1) - N) = m - (np r m (N + 1) - (N + 1)) by omega]
theorem bf_next {r N : Nat} {ds : Nat → Int32} {res : Nat → Int32 × Int32} {b : Int32 × Int32 × Int32} (hN : N < r ^ r) (h : isP r N = true) : bf r ds res (r ^ r - N) N b = bf r ds res (r ^ r - nx r N) (nx r N) (wgh b (ds N) (res N)) := by
  obtain ⟨h1, h2, -⟩ := nx_le hN
  rw [show r ^ r - N = (r ^ r - (N + 1)) + 1 by omega, bf_t h, bf_skip]
  show bf r ds res (r ^ r - (N + 1) - (nx r N - (N + 1))) (nx r N) _ = _
  rw [show r ^ r - (N + 1) - (nx r N - (N + 1)) = r ^ r - nx r N by omega]
def dsm (r N : Nat) : Nat → Nat
  | 0 => 0
  | k + 1 => dsm r N k + 10 ^ k * (lo r N k + 1)
theorem or_bit6 : ∀ z, z < 64 → ∀ c, c < 6 → (z ||| (1 <<< c)) < 64 ∧ nI z ||| ((1 : Int32) <<< (nI c &&& 31)) = nI (z ||| (1 <<< c)) := by decide +kernel
theorem lo_lt {r N i : Nat} (h0 : 0 < r) : lo r N i < r := Nat.mod_lt _ h0
theorem dg_lt {r N k : Nat} (h0 : 0 < r) : dg r N k < r := Nat.mod_lt _ h0
theorem sn_lt {r N : Nat} (h0 : 0 < r) (h6 : r ≤ 6) : ∀ k, sn r N k < 64
  | 0 => by unfold sn; omega
  | k + 1 => (or_bit6 _ (sn_lt h0 h6 k) _ (Nat.lt_of_lt_of_le (lo_lt h0) h6)).1
theorem pow66 {r : Nat} (h6 : r ≤ 6) : r ^ r ≤ 46656 := by
  rcases (show r = 0 ∨ r = 1 ∨ r = 2 ∨ r = 3 ∨ r = 4 ∨ r = 5 ∨ r = 6 by omega) with rfl | rfl | rfl | rfl | rfl | rfl | rfl <;> decide
def one0 (b : Bool) : Int32 := match b with
  | true => 1
  | false => 0
theorem tellsM {r N : Nat} {τ0 : M2} {fu' : Nat} (h0 : 0 < r) (h6 : r ≤ 6) (hN : N < 2 ^ 31) (h2 : τ0 0 2 = nI r) (hfu' : 161 < fu') :
    ∃ τ', F12_tells fu' (nI N) τ0 = some (one0 (isP r N), τ') ∧ (∀ k, k < r → τ' 22 k = nI (dg r N k)) ∧ τ' 0 43 = nI (dsm r N r) ∧ Fr (fun o k => (o = 22 ∧ k < 6) ∨ (o = 0 ∧ k = 43)) τ0 τ' := by
  have key : ∃ p, F12_tells fu' (nI N) τ0 = some p ∧ (p.1 = one0 (isP r N) ∧ (∀ k, k < r → p.2 22 k = nI (dg r N k)) ∧ p.2 0 43 = nI (dsm r N r) ∧ Fr (fun o k => (o = 22 ∧ k < 6) ∨ (o = 0 ∧ k = 43)) τ0 p.2) := by
    unfold F12_tells F12_tells_20
    refine sl4 (R := Int32 × M2) (fun m x2 x3 x4 x5 s => ∃ q, m = r - q ∧ q ≤ r ∧ x2 = nI (N / r ^ q) ∧ x3 = nI (sn r N q) ∧ x4 = nI (10 ^ q) ∧ x5 = nI (r - q) - 1 ∧ (∀ i, i < q → s 22 (r - 1 - i) = nI (lo r N i)) ∧ s 0 43 = nI (dsm r N q) ∧ Fr (fun o k => (o = 22 ∧ k < 6) ∨ (o = 0 ∧ k = 43)) τ0 s) (fun p => p.1 = one0 (isP r N) ∧ (∀ k, k < r → p.2 22 k = nI (dg r N k)) ∧ p.2 0 43 = nI (dsm r N r) ∧ Fr (fun o k => (o = 22 ∧ k < 6) ∨ (o = 0 ∧ k = 43)) τ0 p.2) ?_ r fu' (nI N) 0 1 _ _ (by omega) ⟨0, rfl, by omega, ?_, rfl, rfl, ?_, fun i hi => by omega, up_eq, Fr.rf.up (Or.inr ⟨rfl, rfl⟩)⟩
    · intro k20 m x2 x3 x4 x5 s hI
      obtain ⟨q, rfl, hq, rfl, rfl, rfl, rfl, h22, h43, hf⟩ := hI
      have e02 : s 0 2 = nI r := by rw [hf 0 2 (by omega)]; exact h2
      by_cases hqr : r ≤ q
      · left
        obtain rfl : q = r := by omega
        rw [Nat.sub_self, if_pos (show nI 0 - 1 < 0 by decide), e02, one_shl q (by omega)]
        have hp : 2 ^ q - 1 < 64 := by
          have : 2 ^ q ≤ 2 ^ 6 := Nat.pow_le_pow_right (by omega) h6
          omega
        have hp1 : 0 < 2 ^ q := Nat.pow_pos (by omega)
        have e1 : nI (2 ^ q) - 1 = nI (2 ^ q - 1) := pk_sub (b := 1) hp1
        have hs := sn_lt (N := N) h0 h6 q
        have hd : ∀ k, k < q → s 22 k = nI (dg q N k) := fun k hk => by
          have := h22 (q - 1 - k) (by omega)
          rw [show q - 1 - (q - 1 - k) = k by omega] at this
          exact this
        rw [e1]
        unfold isP
        by_cases he : sn q N q = 2 ^ q - 1
        · rw [he, if_pos rfl]
          exact ⟨_, rfl, by rw [Nat.beq_refl]; rfl, hd, h43, hf⟩
        · rw [if_neg (nI_eqI (by omega) (by omega) he)]
          have : Nat.beq (sn q N q) (2 ^ q - 1) = false := by
            cases z : Nat.beq (sn q N q) (2 ^ q - 1) with
            | true => exact absurd (Nat.eq_of_beq_eq_true z) he
            | false => rfl
          exact ⟨_, rfl, by rw [this]; rfl, hd, h43, hf⟩
      · right
        have hNq : N / r ^ q ≤ N := Nat.div_le_self _ _
        have hlo : lo r N q < r := lo_lt h0
        have e5 : nI (r - q) - 1 = nI (r - 1 - q) := by rw [show r - 1 - q = (r - q) - 1 by omega]; exact pk_sub (b := 1) (by omega)
        have hr0 : ¬ nI r = 0 := nI_eqI (b := 0) (by omega) (by omega) (by omega)
        have erem : nI (N / r ^ q) - nI (N / r ^ q) / nI r * nI r = nI (lo r N q) := pk_rem (by omega) h0 (by omega)
        have ediv : nI (N / r ^ q) / nI r = nI (N / r ^ (q + 1)) := by rw [pk_div (by omega) h0 (by omega), Nat.div_div_eq_div_mul, Nat.pow_succ]
        have u02 : ∀ x, up s 22 (r - 1 - q) x 0 2 = nI r := fun x => by rw [up_ne (by omega)]; exact e02
        have u43 : ∀ x, up s 22 (r - 1 - q) x 0 43 = nI (dsm r N q) := fun x => by rw [up_ne (by omega)]; exact h43
        rw [e5, if_neg (nI_pos (by omega)), e02, gd_t (decide_eq_true hr0), gd_t (inb_t (N := 6) (by omega) (by omega)), nI_c (by omega), erem, u02, u43, up_eq, gd_t (decide_eq_true hr0), ediv, (or_bit6 _ (sn_lt h0 h6 q) _ (by omega)).2, nI_1, show (10 : Int32) = nI 10 from rfl, pk_mul, pk_mul, nI_add]
        refine ⟨r - (q + 1), _, _, _, _, _, by omega, ⟨q + 1, rfl, by omega, rfl, rfl, rfl, ?_, fun i hi => ?_, ?_, (hf.up (Or.inl ⟨rfl, by omega⟩)).up (Or.inr ⟨rfl, rfl⟩)⟩, rfl⟩
        · rw [show r - 1 - q = (r - (q + 1)) by omega, Int32.sub_eq_add_neg]
        · rw [up_ne (by omega)]
          by_cases hiq : i = q
          · rw [hiq, up_eq]
          · rw [up_ne (by omega)]; exact h22 i (by omega)
        · rw [up_eq]; rfl
    · rw [Nat.pow_zero, Nat.div_one]
    · rw [up_ne (by omega), h2, Nat.sub_zero]
  obtain ⟨⟨v, τ'⟩, k1, k2, k3, k4, k5⟩ := key
  have k2 : v = _ := k2
  subst k2
  exact ⟨τ', k1, k3, k4, k5⟩
def oM (o k : Nat) : Prop := yM o k ∨ (o = 22 ∧ k < 6) ∨ (o = 0 ∧ k = 43)
theorem oM_no {o k : Nat} (h : (0 < o ∧ o < 16) ∨ (o = 0 ∧ (k < 33 ∨ (36 < k ∧ k < 40) ∨ 43 < k)) ∨ 22 < o) : ¬ oM o k := by
  rintro (z | z)
  · exact yM_no (by omega) z
  · omega
theorem RD.oM {n r w : Nat} {σ τ τ' : M2} (h : RD n r w σ τ) (hg : Fr oM τ τ') : RD n r w σ τ' := h.of2 (fun _ _ _ => rfl) (fun _ _ => ⟨rfl, rfl⟩) (fun o k q => hg o k (oM_no (by omega))) (fun k q => hg 0 k (oM_no (by omega)))
/-- all numbers from N on -/
theorem order55 {n r w : Nat} {σ0 τs : M2} {fu' : Nat} {what : Int32} (h : RD n r w σ0 τs) (h0 : 0 < r) (hdrop : τs 0 39 = -1) (hfu' : 46656 < fu') (τ : M2) (b : Int32 × Int32 × Int32) (hg : Fr oM τs τ) (hb : bM τ = b) :
    ∃ τ', F12_order_55 fu' what (nI (r ^ r)) 0 τ = F12_order_84 fu' what 0 τ' ∧ bM τ' = bf r (fun N => nI (dsm r N r)) (fun N => rsl fu' τs (dg r N) r) (r ^ r) 0 b ∧ Fr oM τs τ' := by
  have h6 : r ≤ 6 := h.2.1
  have hpw := pow66 h6
  unfold F12_order_55
  refine el1 (R := Int32 × M2) (fun q x3 s => ∃ N, q = r ^ r - N ∧ N ≤ r ^ r ∧ x3 = nI N ∧ Fr oM τs s ∧ bf r (fun N => nI (dsm r N r)) (fun N => rsl fu' τs (dg r N) r) (r ^ r - N) N (bM s) = bf r (fun N => nI (dsm r N r)) (fun N => rsl fu' τs (dg r N) r) (r ^ r) 0 b) (fun p => ∃ τ', p = F12_order_84 fu' what 0 τ' ∧ bM τ' = bf r (fun N => nI (dsm r N r)) (fun N => rsl fu' τs (dg r N) r) (r ^ r) 0 b ∧ Fr oM τs τ') ?_ (r ^ r) fu' 0 τ (by omega) ⟨0, rfl, by omega, rfl, hg, by rw [hb]; rfl⟩
  intro k55 q x3 s hI
  obtain ⟨N, rfl, hN, rfl, hgs, hbf⟩ := hI
  by_cases hNr : r ^ r ≤ N
  · left
    rw [if_pos (nI_le hNr (by omega))]
    rw [show r ^ r - N = 0 by omega] at hbf
    exact ⟨s, rfl, hbf, hgs⟩
  · right
    have e02 : s 0 2 = nI r := by rw [hgs 0 2 (oM_no (by omega))]; exact h.2.2.2.2.2.2.1
    obtain ⟨τ1, a1, a2, a3, a4⟩ := tellsM (N := N) (fu' := fu') h0 h6 (by omega) e02 (by omega)
    have hg1 : Fr oM τs τ1 := hgs.tr (a4.mono fun o k q => Or.inr q)
    have eb1 : bM τ1 = bM s := by unfold bM; rw [a4 0 40 (by omega), a4 0 41 (by omega), a4 0 42 (by omega)]
    rw [if_neg (nI_ge (by omega) (by omega)), a1, bnd_s]
    unfold F12_order_76
    rw [show r ^ r - N = (r ^ r - (N + 1)) + 1 by omega] at hbf
    cases e : isP r N with
    | false =>
      rw [bf_f e] at hbf
      rw [if_pos (show one0 false = 0 from rfl)]
      exact ⟨r ^ r - (N + 1), _, _, by omega, ⟨N + 1, rfl, by omega, by rw [nI_1], hg1, by rw [eb1]; exact hbf⟩, rfl⟩
    | true =>
      rw [bf_t e] at hbf
      obtain ⟨τ2, b1, b2, b3⟩ := goesP (p := dg r N) (h.oM hg1) h (fun k _ => dg_lt h0) a2 (by rw [hg1 0 39 (oM_no (by omega))]; exact hdrop) (show 161 < fu' by omega)
      obtain ⟨τ3, c1, c2, c3⟩ := wghM (x := τ1 0 43) b1
      rw [if_neg (show ¬ one0 true = 0 by decide), c1, bnd_s]
      have eb2 : bM τ2 = bM s := by
        rw [← eb1]
        unfold bM
        rw [b3 0 40 (dM_no (by omega)), b3 0 41 (dM_no (by omega)), b3 0 42 (dM_no (by omega))]
      refine ⟨r ^ r - (N + 1), _, _, by omega, ⟨N + 1, rfl, by omega, by rw [nI_1], (hg1.tr (b3.mono fun o k q => Or.inl (Or.inl q))).tr (c3.mono fun o k q => Or.inl (Or.inr q)), ?_⟩, rfl⟩
      rw [c2, eb2, b2, a3]
      exact hbf
theorem order84 {τ0 : M2} {fu' : Nat} {what : Int32} (hfu' : 161 < fu') : ∃ τ', F12_order_84 fu' what 0 τ0 = bnd (F12_toldBest what τ') (fun r2 s3 => some (r2, s3)) ∧ (∀ k, k < 6 → τ' 22 k = nI k) ∧ Fr (fun o k => o = 22 ∧ k < 6) τ0 τ' := by
  unfold F12_order_84
  refine el1 (R := Int32 × M2) (fun q x3 s => ∃ k, q = 6 - k ∧ k ≤ 6 ∧ x3 = nI k ∧ (∀ j, j < k → s 22 j = nI j) ∧ Fr (fun o k => o = 22 ∧ k < 6) τ0 s) (fun p => ∃ τ', p = bnd (F12_toldBest what τ') (fun r2 s3 => some (r2, s3)) ∧ (∀ k, k < 6 → τ' 22 k = nI k) ∧ Fr (fun o k => o = 22 ∧ k < 6) τ0 τ') ?_ 6 fu' 0 τ0 (by omega) ⟨0, rfl, by omega, rfl, fun j hj => by omega, Fr.rf⟩
  intro k84 q x3 s hI
  obtain ⟨k, rfl, hk, rfl, h1, hf⟩ := hI
  by_cases hk6 : k = 6
  · left
    subst hk6
    rw [if_pos (by decide)]
    exact ⟨s, rfl, h1, hf⟩
  · right
    rw [if_neg (show ¬ (6 : Int32) ≤ nI k from nI_ge (b := 6) (by omega) (by omega)), gd_t (inb_t (N := 6) (by omega) (by omega)), nI_c (by omega)]
    refine ⟨6 - (k + 1), _, _, by omega, ⟨k + 1, rfl, by omega, by rw [nI_1], fun j hj => ?_, hf.up ⟨rfl, by omega⟩⟩, rfl⟩
    by_cases hjk : j = k
    · rw [hjk, up_eq]
    · rw [up_ne (by omega)]; exact h1 j (by omega)
theorem order32 {r : Nat} {τ0 : M2} {fu' : Nat} {what : Int32} (h6 : r ≤ 6) (h2 : τ0 0 2 = nI r) (hfu' : 161 < fu') : F12_order_32 fu' what 1 0 τ0 = F12_order_55 fu' what (nI (r ^ r)) 0 τ0 := by
  unfold F12_order_32
  refine el2 (R := Int32 × M2) (fun q x2 x3 s => ∃ k, q = r - k ∧ k ≤ r ∧ x2 = nI (r ^ k) ∧ x3 = nI k ∧ s = τ0) (fun p => p = F12_order_55 fu' what (nI (r ^ r)) 0 τ0) ?_ r fu' 1 0 τ0 (by omega) ⟨0, rfl, by omega, rfl, rfl, rfl⟩
  intro k32 q x2 x3 s hI
  obtain ⟨k, rfl, hk, rfl, rfl, rfl⟩ := hI
  rw [h2]
  by_cases hkr : r ≤ k
  · left
    obtain rfl : k = r := by omega
    rw [if_pos (nI_le (Nat.le_refl _) (by omega))]
  · right
    rw [if_neg (nI_ge (by omega) (by omega)), pk_mul, ← Nat.pow_succ]
    exact ⟨r - (k + 1), _, _, _, by omega, ⟨k + 1, rfl, by omega, rfl, by rw [nI_1], rfl⟩, rfl⟩
end
