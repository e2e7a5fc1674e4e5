section
/-! rows copied; luck by lots -/
def cpr (σ : M2) (o1 o2 N : Nat) : M2 := fun a k => if a = o2 ∧ k < N then σ o1 k else σ a k
theorem cpr_in {σ : M2} {o1 o2 N k : Nat} (h : k < N) : cpr σ o1 o2 N o2 k = σ o1 k := if_pos ⟨rfl, h⟩
theorem cpr_ne {σ : M2} {o1 o2 N a k : Nat} (h : ¬ (a = o2 ∧ k < N)) : cpr σ o1 o2 N a k = σ a k := if_neg h
theorem cpr_0 {σ : M2} {o1 o2 : Nat} : cpr σ o1 o2 0 = σ := by
  funext a k
  exact cpr_ne (by omega)
theorem cpr_s {σ : M2} {o1 o2 k : Nat} (hne : o1 ≠ o2) : up (cpr σ o1 o2 k) o2 k (cpr σ o1 o2 k o1 k) = cpr σ o1 o2 (k + 1) := by
  funext a j
  rw [cpr_ne (a := o1) (fun e => hne e.1)]
  by_cases e : a = o2 ∧ j = k
  · obtain ⟨rfl, rfl⟩ := e
    rw [up_eq, cpr_in (by omega)]
  · rw [up_ne e]
    by_cases h : a = o2 ∧ j < k
    · obtain ⟨rfl, h⟩ := h
      rw [cpr_in h, cpr_in (by omega)]
    · rw [cpr_ne h, cpr_ne (by omega)]
theorem copyRow_eq {o1 o2 N : Nat} {σ0 : M2} {fu : Nat} (h1 : csh o1 = (0, N)) (h2 : csh o2 = (0, N)) (hne : o1 ≠ o2) (hN : N < 2 ^ 31) (hfu : N < fu) : F11_copyRow fu o1 o2 σ0 = some ((), cpr σ0 o1 o2 N) := by
  have key : ∃ p, F11_copyRow fu o1 o2 σ0 = some p ∧ p = ((), cpr σ0 o1 o2 N) := by
    unfold F11_copyRow F11_copyRow_2
    refine sl1 (R := Unit × M2) (fun q x2 s => ∃ k, q = N - k ∧ k ≤ N ∧ x2 = nI k ∧ s = cpr σ0 o1 o2 k) (fun p => p = ((), cpr σ0 o1 o2 N)) ?_ N fu 0 σ0 hfu ⟨0, rfl, by omega, rfl, cpr_0.symm⟩
    intro k2 q x2 s hI
    obtain ⟨k, rfl, hk, rfl, rfl⟩ := hI
    rw [gd_t (isA_t h1), gd_t (isA_t h2), h1, h2]
    show (∃ r, (if nI N ≤ nI k then _ else if nI N ≤ nI k then _ else gd (inb (nI k) N) (gd (inb (nI k) N) _)) = some r ∧ _) ∨ (∃ m x0 s', _ ∧ _ ∧ (if nI N ≤ nI k then _ else if nI N ≤ nI k then _ else gd (inb (nI k) N) (gd (inb (nI k) N) _)) = _)
    by_cases hkN : N ≤ k
    · left
      obtain rfl : k = N := by omega
      rw [if_pos (nI_le (Nat.le_refl _) hN)]
      exact ⟨_, rfl, rfl⟩
    · right
      have hc : ¬ nI N ≤ nI k := nI_ge (by omega) hN
      refine ⟨N - (k + 1), nI k + 1, cpr σ0 o1 o2 (k + 1), by omega, ⟨k + 1, rfl, by omega, by rw [nI_1], rfl⟩, ?_⟩
      rw [if_neg hc, if_neg hc, gd_t (inb_t (by omega) hN), gd_t (inb_t (by omega) hN), nI_c (by omega), cpr_s hne]
  obtain ⟨p, k1, rfl⟩ := key
  exact k1
def lot1 (a : Nat) : Nat := a * 48271 % 2147483647
def lot (a : Nat) : Nat → Nat
  | 0 => a
  | c + 1 => lot1 (lot a c)
theorem lot1_lt (a : Nat) : lot1 a < 2 ^ 31 := by unfold lot1; omega
theorem lot_lt {a : Nat} (ha : a < 2 ^ 31) : ∀ c, lot a c < 2 ^ 31
  | 0 => ha
  | _ + 1 => lot1_lt _
theorem lstep {a : Nat} (ha : a < 2 ^ 31) : lN a * (48271 : Int64) - lN a * (48271 : Int64) / (2147483647 : Int64) * (2147483647 : Int64) = lN (lot1 a) := by
  rw [show (48271 : Int64) = lN 48271 from rfl, show (2147483647 : Int64) = lN 2147483647 from rfl, lN_mul]
  exact pk_lRem (by omega) (by omega) (by omega)
theorem lluck {b : Nat} (hb : b < 2 ^ 31) : (lN b - lN b / (100 : Int64) * (100 : Int64)).toInt32 = nI (b % 100) := by
  rw [show (100 : Int64) = lN 100 from rfl, pk_lRem (by omega) (by omega) (by omega), lN_i]
/-- the class's lucks, c of them -/
def lkC (σ : M2) (a c : Nat) : M2 := fun o k => if o = 3 ∧ k < c then nI (lot a (k + 1) % 100) else σ o k
theorem lkC_in {σ : M2} {a c k : Nat} (h : k < c) : lkC σ a c 3 k = nI (lot a (k + 1) % 100) := if_pos ⟨rfl, h⟩
theorem lkC_ne {σ : M2} {a c o k : Nat} (h : ¬ (o = 3 ∧ k < c)) : lkC σ a c o k = σ o k := if_neg h
theorem lkC_0 {σ : M2} {a : Nat} : lkC σ a 0 = σ := by
  funext o k
  exact lkC_ne (by omega)
theorem lkC_s {σ : M2} {a c : Nat} : up (lkC σ a c) 3 c (nI (lot1 (lot a c) % 100)) = lkC σ a (c + 1) := by
  funext o k
  by_cases e : o = 3 ∧ k = c
  · obtain ⟨rfl, rfl⟩ := e
    rw [up_eq, lkC_in (by omega)]
    rfl
  · rw [up_ne e]
    by_cases h : o = 3 ∧ k < c
    · obtain ⟨rfl, h⟩ := h
      rw [lkC_in h, lkC_in (by omega)]
    · rw [lkC_ne h, lkC_ne (by omega)]
theorem lotsC {n a : Nat} {σ0 : M2} {fu : Nat} (hn : n ≤ 8) (h13 : σ0 1 3 = nI n) (ha : a < 2 ^ 31) (hfu : 161 < fu) : F11_runByLots_8 fu (lN a) 0 σ0 = bnd (F2_run fu (lkC σ0 a n)) (fun _ s3 => some ((), s3)) := by
  unfold F11_runByLots_8
  refine el2 (R := Unit × M2) (fun q x2 x4 s => ∃ c, q = n - c ∧ c ≤ n ∧ x2 = lN (lot a c) ∧ x4 = nI c ∧ s = lkC σ0 a c) (fun r => r = bnd (F2_run fu (lkC σ0 a n)) (fun _ s3 => some ((), s3))) ?_ n fu (lN a) 0 σ0 (by omega) ⟨0, rfl, by omega, rfl, rfl, lkC_0.symm⟩
  intro k8 q x2 x4 s hI
  obtain ⟨c, rfl, hc, rfl, rfl, rfl⟩ := hI
  have e13 : lkC σ0 a c 1 3 = nI n := by rw [lkC_ne (by omega)]; exact h13
  rw [e13]
  by_cases hcn : n ≤ c
  · left
    obtain rfl : c = n := by omega
    rw [if_pos (nI_le (Nat.le_refl _) (by omega))]
  · right
    rw [if_neg (nI_ge (by omega) (by omega)), lstep (lot_lt ha c), lluck (lot1_lt _), fset (N := 8) (by decide) (by omega) (by omega), bnd_s, lkC_s]
    exact ⟨n - (c + 1), _, _, _, by omega, ⟨c + 1, rfl, by omega, rfl, by rw [nI_1], rfl⟩, rfl⟩
/-- the reference's lucks, c of them, and what is kept of them -/
def lkM (τ : M2) (a c : Nat) : M2 := fun o k => if o = 23 ∧ k < c then τ 1 (3 * k + 1) else if o = 1 ∧ k % 3 = 1 ∧ k < 3 * c then nI (lot a (k / 3 + 1) % 100) else τ o k
theorem lkM_k {τ : M2} {a c k : Nat} (h : k < c) : lkM τ a c 23 k = τ 1 (3 * k + 1) := if_pos ⟨rfl, h⟩
theorem lkM_in {τ : M2} {a c k : Nat} (h : k < c) : lkM τ a c 1 (3 * k + 1) = nI (lot a (k + 1) % 100) := by
  unfold lkM
  rw [if_neg (by omega), if_pos ⟨rfl, by omega, by omega⟩, show (3 * k + 1) / 3 = k by omega]
theorem lkM_ne {τ : M2} {a c o k : Nat} (h : ¬ (o = 23 ∧ k < c)) (h2 : ¬ (o = 1 ∧ k % 3 = 1 ∧ k < 3 * c)) : lkM τ a c o k = τ o k := by
  unfold lkM
  rw [if_neg h, if_neg h2]
theorem lkM_0 {τ : M2} {a : Nat} : lkM τ a 0 = τ := by
  funext o k
  exact lkM_ne (by omega) (by omega)
theorem lkM_s {τ : M2} {a c : Nat} : up (up (lkM τ a c) 23 c (lkM τ a c 1 (3 * c + 1))) 1 (3 * c + 1) (nI (lot1 (lot a c) % 100)) = lkM τ a (c + 1) := by
  funext o k
  by_cases e : o = 1 ∧ k = 3 * c + 1
  · obtain ⟨rfl, rfl⟩ := e
    rw [up_eq, lkM_in (by omega)]
    rfl
  · rw [up_ne e]
    by_cases e2 : o = 23 ∧ k = c
    · obtain ⟨rfl, rfl⟩ := e2
      rw [up_eq, lkM_k (by omega), lkM_ne (by omega) (by omega)]
    · rw [up_ne e2]
      unfold lkM
      by_cases h1 : o = 23 ∧ k < c
      · rw [if_pos h1, if_pos (by omega)]
      · rw [if_neg h1, if_neg (show ¬ (o = 23 ∧ k < c + 1) by omega)]
        by_cases h2 : o = 1 ∧ k % 3 = 1 ∧ k < 3 * c
        · rw [if_pos h2, if_pos (by omega)]
        · rw [if_neg h2, if_neg (by omega)]
/-- the reference's lucks put back -/
def rsM (s : M2) (c : Nat) : M2 := fun o k => if o = 1 ∧ k % 3 = 1 ∧ k < 3 * c then s 23 (k / 3) else s o k
theorem rsM_in {s : M2} {c o k : Nat} (h : o = 1 ∧ k % 3 = 1 ∧ k < 3 * c) : rsM s c o k = s 23 (k / 3) := if_pos h
theorem rsM_ne {s : M2} {c o k : Nat} (h : ¬ (o = 1 ∧ k % 3 = 1 ∧ k < 3 * c)) : rsM s c o k = s o k := if_neg h
theorem rsM_0 {s : M2} : rsM s 0 = s := by
  funext o k
  exact rsM_ne (by omega)
theorem rsM_s {s : M2} {c : Nat} : up (rsM s c) 1 (3 * c + 1) (rsM s c 23 c) = rsM s (c + 1) := by
  funext o k
  rw [rsM_ne (o := 23) (by omega)]
  by_cases e : o = 1 ∧ k = 3 * c + 1
  · obtain ⟨rfl, rfl⟩ := e
    rw [up_eq, rsM_in (by omega), show (3 * c + 1) / 3 = c by omega]
  · rw [up_ne e]
    unfold rsM
    by_cases h2 : o = 1 ∧ k % 3 = 1 ∧ k < 3 * c
    · rw [if_pos h2, if_pos (by omega)]
    · rw [if_neg h2, if_neg (by omega)]
theorem restM {n : Nat} {s : M2} {fu : Nat} (hn : n ≤ 8) (h00 : s 0 0 = nI n) (hfu : 161 < fu) : F12_dayBy_75 fu 0 s = some ((), rsM s n) := by
  unfold F12_dayBy_75
  refine el1 (R := Unit × M2) (fun q x4 u => ∃ c, q = n - c ∧ c ≤ n ∧ x4 = nI c ∧ u = rsM s c) (fun r => r = some ((), rsM s n)) ?_ n fu 0 s (by omega) ⟨0, rfl, by omega, rfl, rsM_0.symm⟩
  intro k75 q x4 u hI
  obtain ⟨c, rfl, hc, rfl, rfl⟩ := hI
  have e : rsM s c 0 0 = nI n := by rw [rsM_ne (by omega)]; exact h00
  rw [e]
  by_cases hcn : n ≤ c
  · left
    obtain rfl : c = n := by omega
    rw [if_pos (nI_le (Nat.le_refl _) (by omega))]
  · right
    rw [if_neg (nI_ge (by omega) (by omega)), ix3, nI_1, gd_t (inb_t (N := 8) (by omega) (by omega)), gd_t (inb_t (N := 24) (by omega) (by omega)), nI_c (by omega), nI_c (by omega), rsM_s]
    exact ⟨n - (c + 1), _, _, by omega, ⟨c + 1, rfl, by omega, by rw [nI_1], rfl⟩, rfl⟩
theorem lotsM {n a : Nat} {τ0 : M2} {fu : Nat} (hn : n ≤ 8) (h00 : τ0 0 0 = nI n) (ha : a < 2 ^ 31) (hfu : 161 < fu) : F12_dayBy_8 fu (lN a) 0 τ0 = bnd (F12_goes fu (lkM τ0 a n)) (fun _ s3 => F12_dayBy_75 fu 0 s3) := by
  unfold F12_dayBy_8
  refine el2 (R := Unit × M2) (fun q x2 x4 s => ∃ c, q = n - c ∧ c ≤ n ∧ x2 = lN (lot a c) ∧ x4 = nI c ∧ s = lkM τ0 a c) (fun r => r = bnd (F12_goes fu (lkM τ0 a n)) (fun _ s3 => F12_dayBy_75 fu 0 s3)) ?_ n fu (lN a) 0 τ0 (by omega) ⟨0, rfl, by omega, rfl, rfl, lkM_0.symm⟩
  intro k8 q x2 x4 s hI
  obtain ⟨c, rfl, hc, rfl, rfl, rfl⟩ := hI
  have e : lkM τ0 a c 0 0 = nI n := by rw [lkM_ne (by omega) (by omega)]; exact h00
  rw [e]
  by_cases hcn : n ≤ c
  · left
    obtain rfl : c = n := by omega
    rw [if_pos (nI_le (Nat.le_refl _) (by omega))]
  · right
    rw [if_neg (nI_ge (by omega) (by omega)), lstep (lot_lt ha c), lluck (lot1_lt _), ix3, nI_1, gd_t (inb_t (N := 24) (by omega) (by omega)), gd_t (inb_t (N := 8) (by omega) (by omega)), nI_c (by omega), nI_c (by omega), lkM_s]
    exact ⟨n - (c + 1), _, _, _, by omega, ⟨c + 1, rfl, by omega, rfl, by rw [nI_1], rfl⟩, rfl⟩
def zC (n o k : Nat) : Prop := xC o k ∨ (o = 3 ∧ k < n)
theorem RD.lk {n r w : Nat} {σ τ σ' τ' : M2} (h : RD n r w σ τ) (hf : Fr (zC n) σ σ') (hg : Fr (fun o k => xM o k ∨ (o = 1 ∧ k % 3 = 1 ∧ k < 3 * n)) τ τ') (hl : ∀ c, c < n → σ' 3 c = τ' 1 (3 * c + 1) ∧ in99 (σ' 3 c)) : RD n r w σ' τ' := by
  obtain ⟨h1, h2, h3, h4, h5, h6, h7, h8, h9, h10, h11, h12⟩ := h
  have c : ∀ o k, (0 < o ∧ o < 12) → o ≠ 3 → σ' o k = σ o k := fun o k q q3 => hf o k (by rintro (z | z); exact xC_no (Or.inl q) z; exact q3 z.1)
  have m : ∀ o k, (0 < o ∧ o < 15) → ¬ (o = 1 ∧ k % 3 = 1) → τ' o k = τ o k := fun o k q q3 => hg o k (by rintro (z | z); exact xM_no (Or.inl q) z; omega)
  have m0 : ∀ k, k = 0 ∨ k = 2 ∨ k = 11 → τ' 0 k = τ 0 k := fun k q => hg 0 k (by rintro (z | z); exact xM_no (by omega) z; omega)
  refine ⟨h1, h2, h3, ?_, ?_, ?_, ?_, fun k hk => ?_, fun k hk => ?_, ?_, ?_, h12.frx (funext fun k => hf _ _ (by rintro (z | z); exact (xC_tx h3).1 z; omega)) (funext fun k => hf _ _ (by rintro (z | z); exact (xC_tx h3).2 z; omega)) (fun k _ => m _ _ (by omega) (by omega)) (fun k _ => m _ _ (by omega) (by omega))⟩
  · rw [c 1 _ (by omega) (by omega)]; exact h4
  · rw [m0 0 (by omega)]; exact h5
  · rw [c 5 _ (by omega) (by omega)]; exact h6
  · rw [m0 2 (by omega)]; exact h7
  · obtain ⟨b1, b2, b3, b4, b5, b6⟩ := h8 k hk
    obtain ⟨l1, l2⟩ := hl k hk
    refine ⟨?_, l1, ?_, ?_, l2, ?_⟩
    · rw [c 2 _ (by omega) (by omega), m 1 _ (by omega) (by omega)]; exact b1
    · rw [c 4 _ (by omega) (by omega), m 1 _ (by omega) (by omega)]; exact b3
    · rw [c 2 _ (by omega) (by omega)]; exact b4
    · rw [c 4 _ (by omega) (by omega)]; exact b6
  · have := h9 k hk
    unfold Rac at this ⊢
    rw [c 6 _ (by omega) (by omega), c 7 _ (by omega) (by omega), c 8 _ (by omega) (by omega), c 9 _ (by omega) (by omega), m 2 _ (by omega) (by omega), m 3 _ (by omega) (by omega), m 4 _ (by omega) (by omega), m 4 _ (by omega) (by omega)]
    exact this
  · rw [c 10 _ (by omega) (by omega)]; exact h10
  · rw [m0 11 (by omega)]; exact h11
theorem lots_rel {n r w a : Nat} {σ0 τ0 s u : M2} {fu fu' : Nat} (h : RD n r w σ0 τ0) (hturn : ∀ k, k < 6 → τ0 22 k = nI k) (hdrop : τ0 0 39 = -1) (ha : a < 2 ^ 31) (hf : Fr (zC n) σ0 s) (hg : Fr xM τ0 u) (hfu : 161 < fu) (hfu' : 161 < fu') :
    ∃ s' u', F11_runByLots_8 fu (lN a) 0 s = some ((), s') ∧ F12_dayBy_8 fu' (lN a) 0 u = some ((), u') ∧ s' 41 10 = u' 0 35 ∧ s' 41 8 = u' 0 34 ∧ (∀ k, s' 67 k = s 67 k) ∧ Fr (zC n) σ0 s' ∧ Fr xM τ0 u' := by
  have hn8 : n ≤ 8 := h.1
  have e13 : s 1 3 = nI n := by rw [hf 1 3 (by rintro (z | z); exact xC_no (by omega) z; omega)]; exact h.2.2.2.1
  have e00 : u 0 0 = nI n := by rw [hg 0 0 (xM_no (by omega))]; exact h.2.2.2.2.1
  have f1 : Fr (zC n) σ0 (lkC s a n) := fun o k hz => by
    rw [lkC_ne (fun e => hz (Or.inr e))]; exact hf o k hz
  have g1 : Fr (fun o k => xM o k ∨ (o = 1 ∧ k % 3 = 1 ∧ k < 3 * n)) τ0 (lkM u a n) := fun o k hz => by
    rw [lkM_ne (fun e => hz (Or.inl (Or.inr (Or.inr (Or.inl e.1))))) (fun e => hz (Or.inr e))]; exact hg o k (fun e => hz (Or.inl e))
  have h1 : RD n r w (lkC s a n) (lkM u a n) := h.lk f1 g1 (fun c hc => ⟨by rw [lkC_in hc, lkM_in hc], ⟨lot a (c + 1) % 100, by omega, lkC_in hc⟩⟩)
  have turn1 : ∀ k, k < 6 → lkM u a n 22 k = nI k := fun k hk => by
    rw [lkM_ne (by omega) (by omega), hg 22 k (xM_no (by omega))]; exact hturn k hk
  have drop1 : lkM u a n 0 39 = -1 := by
    rw [lkM_ne (by omega) (by omega), hg 0 39 (xM_no (by omega))]; exact hdrop
  obtain ⟨σ', τ', a1, a2, ⟨⟨d1, d2, d3⟩, d4, d5, d6⟩, a4, a5⟩ := run_rel (fu := fu) (fu' := fu') h1 turn1 drop1 hfu hfu'
  have t00 : τ' 0 0 = nI n := by rw [a5 0 0 (dM_no (by omega)), lkM_ne (by omega) (by omega)]; exact e00
  refine ⟨σ', rsM τ' n, ?_, ?_, ?_, ?_, fun k => ?_, ?_, fun o k hz => ?_⟩
  · rw [lotsC hn8 e13 ha hfu, run_def a1, bnd_s]
  · rw [lotsM hn8 e00 ha hfu', a2, bnd_s, restM hn8 t00 hfu']
  · rw [rsM_ne (by omega)]; exact d4
  · rw [rsM_ne (by omega)]; exact d2
  · rw [a4 67 k (dC_no (by omega)), lkC_ne (by omega)]
  · exact f1.tr (a4.mono fun o k q => Or.inl (dC_xC q))
  · by_cases e : o = 1 ∧ k % 3 = 1 ∧ k < 3 * n
    · rw [rsM_in e, a5 23 _ (dM_no (by omega)), lkM_k (by omega), show 3 * (k / 3) + 1 = k by omega, ← e.1]
      exact hg o k hz
    · rw [rsM_ne e, a5 o k (fun q => hz (dM_xM q)), lkM_ne (fun e => hz (Or.inr (Or.inr (Or.inl e.1)))) e]
      exact hg o k hz
theorem luck_back {n : Nat} {σ0 s : M2} (hn : n ≤ 8) (hf : Fr (zC n) σ0 s) (h67 : ∀ k, k < 8 → s 67 k = σ0 3 k) : Fr xC σ0 (cpr s 67 3 8) := fun o k hz => by
  by_cases e : o = 3 ∧ k < 8
  · obtain ⟨rfl, e⟩ := e
    rw [cpr_in e, h67 k e]
  · rw [cpr_ne e]
    exact hf o k (fun q => q.elim hz (fun q => e ⟨q.1, by omega⟩))
theorem seed_C {z : Nat} (hz : z < 2 ^ 30) : (nI z + 1).toInt64 = lN (z + 1) := by rw [nI_1, nI_l (by omega)]
theorem seed_M {z : Nat} (hz : z < 2 ^ 30) : (nI z).toInt64 + 1 = lN (z + 1) := by rw [nI_l (by omega), lN_1]
theorem m_drawn {fu fu' : Nat} (hfu : 161 < fu) (hfu' : 161 < fu') (seed what : Int32) : Both (F11_drawn fu seed what) (F12_drawn fu' seed what) := by
  intro σ τ hR
  obtain ⟨n, r, t, w, hA⟩ := id hR
  have hmis := hA.2.2.2.2.2.2
  have hn8 : n ≤ 8 := hA.1.1
  unfold F11_drawn F12_drawn
  rw [fwi, gwi, bnd_s, bnd_s]
  by_cases c0 : wi seed 0 99999 = 0
  · rw [if_pos c0, if_pos c0]; exact ⟨_, _, _, rfl, rfl, hR⟩
  rw [if_neg c0, if_neg c0, fwi, gwi, bnd_s, bnd_s]
  by_cases c1 : wi what 0 1 = 0
  · rw [if_pos c1, if_pos c1]; exact ⟨_, _, _, rfl, rfl, hR⟩
  rw [if_neg c1, if_neg c1]
  obtain ⟨z, hz, rfl⟩ := wi_m (n := 99999) (by omega) c0
  unfold F11_keepLuck F11_runByLots F12_dayBy F11_bringLuckBack
  rw [copyRow_eq (N := 8) (by decide) (by decide) (by decide) (by omega) (by omega), bnd_s, bnd_s, seed_C (by omega), seed_M (by omega)]
  obtain ⟨s', u', a1, a2, a3, a4, a5, a6, a7⟩ := lots_rel (s := cpr σ 3 67 8) (u := τ) (a := z + 1) (fu := fu) (fu' := fu') hA.1 hmis.1 hmis.2.1 (by omega) (fun o k hz => cpr_ne (fun e => hz (Or.inl (Or.inr (by omega))))) Fr.rf hfu hfu'
  rw [a1, bnd_s, a2, bnd_s, copyRow_eq (N := 8) (by decide) (by decide) (by decide) (by omega) (by omega), bnd_s, bnd_s, cpr_ne (by omega), cpr_ne (by omega), a3, a4]
  have hback := luck_back hn8 a6 (fun k hk => by rw [a5, cpr_in hk])
  by_cases c2 : what = 0
  · rw [if_pos c2, if_pos c2]; exact ⟨_, _, _, rfl, rfl, n, r, t, w, hA.fr hback a7⟩
  · rw [if_neg c2, if_neg c2]; exact ⟨_, _, _, rfl, rfl, n, r, t, w, hA.fr hback a7⟩
theorem gcdC {a b : Nat} {σ : M2} {fu : Nat} (ha : a ≤ 60) (hb60 : b ≤ 60) (hfu : 161 < fu) : F11_commonDivisor fu (nI a) (nI b) σ = some (nI (Nat.gcd a b), σ) := by
  unfold F11_commonDivisor F11_commonDivisor_7
  refine el3 (R := Int32 × M2) (fun q x2 x3 x4 s => ∃ x y i, q = b - i ∧ i ≤ b ∧ x2 = nI x ∧ x3 = nI y ∧ x4 = nI i ∧ s = σ ∧ y ≤ b - i ∧ x ≤ 60 ∧ Nat.gcd x y = Nat.gcd a b) (fun r => r = some (nI (Nat.gcd a b), σ)) ?_ b fu (nI a) (nI b) 0 σ (by omega) ⟨a, b, 0, rfl, by omega, rfl, rfl, rfl, rfl, by omega, by omega, rfl⟩
  intro k7 q x2 x3 x4 s hI
  obtain ⟨x, y, i, rfl, hi, rfl, rfl, rfl, rfl, hy, hx, hg⟩ := hI
  by_cases hbi : b ≤ i
  · left
    obtain rfl : y = 0 := by omega
    rw [Nat.gcd_zero_right] at hg
    rw [if_pos (nI_le hbi (by omega)), hg]
  · rw [if_neg (nI_ge (by omega) (by omega))]
    by_cases hy0 : y = 0
    · left
      subst hy0
      rw [Nat.gcd_zero_right] at hg
      rw [if_pos (show nI 0 = 0 from rfl), hg]
    · right
      have hyn : ¬ nI y = 0 := nI_eqI (b := 0) (by omega) (by omega) hy0
      have hm : x % y < y := Nat.mod_lt _ (by omega)
      rw [if_neg hyn, gd_t (decide_eq_true hyn), pk_rem (by omega) (by omega) (by omega)]
      exact ⟨b - (i + 1), _, _, _, _, by omega, ⟨y, x % y, i + 1, rfl, by omega, rfl, rfl, by rw [nI_1], rfl, by omega, by omega, by rw [Nat.gcd_comm y, ← Nat.gcd_rec, Nat.gcd_comm, hg]⟩, rfl⟩
theorem lgc0 {x y : Int64} : lg_cmp x y = 0 ↔ x = y := by
  unfold lg_cmp
  by_cases h : x > y
  · rw [if_pos h]
    exact ⟨fun e => absurd e (by decide), fun e => by subst e; exact absurd h (by rw [gt_iff_lt, Int64.lt_iff_toInt_lt]; omega)⟩
  · rw [if_neg h]
    by_cases h2 : x = y
    · rw [if_pos h2]; exact ⟨fun _ => h2, fun _ => rfl⟩
    · rw [if_neg h2]; exact ⟨fun e => absurd e (by decide), fun e => absurd e h2⟩
theorem lowM {g b p : Nat} {τ : M2} {fu : Nat} (hg : g ≤ b) (hb : 1 ≤ b) (hb60 : b ≤ 60) (hp : p ≤ 1) (hfu : 161 < fu) : F12_lowest fu (lN g) (lN b) (nI p) τ = some (lN ((if p = 0 then g else b) / Nat.gcd g b), τ) := by
  unfold F12_lowest
  by_cases g0 : g = 0
  · subst g0
    rw [if_pos (lgc0.mpr (show lN 0 = 0 from rfl)), nI_l (by omega), Nat.gcd_zero_left]
    rcases (show p = 0 ∨ p = 1 by omega) with rfl | rfl
    · rw [if_pos rfl, Nat.zero_div]
    · rw [if_neg (by decide), Nat.div_self (by omega)]
  · rw [if_neg (show ¬ lg_cmp (lN g) 0 = 0 from fun e => g0 ((pk_lEQ (b := 0) (by omega) (by omega)).mp (lgc0.mp e)))]
    unfold F12_lowest_16
    refine el2 (R := Int64 × M2) (fun q x5 x7 s => ∃ x y : Nat, q = y ∧ x5 = lN x ∧ x7 = lN y ∧ s = τ ∧ y ≤ 60 ∧ x ≤ 60 ∧ Nat.gcd x y = Nat.gcd g b) (fun r => r = some (lN ((if p = 0 then g else b) / Nat.gcd g b), τ)) ?_ b fu (lN g) (lN b) τ (by omega) ⟨g, b, rfl, rfl, rfl, rfl, by omega, by omega, rfl⟩
    intro k16 q x5 x7 s hI
    obtain ⟨x, y, rfl, rfl, rfl, rfl, hy, hx, hgc⟩ := hI
    by_cases hy0 : q = 0
    · left
      subst hy0
      rw [Nat.gcd_zero_right] at hgc
      have hx0 : 0 < x := by rw [hgc]; exact Nat.gcd_pos_of_pos_right _ (by omega)
      have hd : ¬ lN x = 0 := fun e => by
        have := (pk_lEQ (b := 0) (by omega) (by omega)).mp e
        omega
      unfold F12_lowest_51
      rw [if_pos (lgc0.mpr (show lN 0 = 0 from rfl)), gd_t (decide_eq_true hd), gd_t (decide_eq_true hd), pk_lDiv (by omega) (by omega) (by omega), pk_lDiv (by omega) (by omega) (by omega), hgc]
      rcases (show p = 0 ∨ p = 1 by omega) with rfl | rfl
      · rw [if_pos (show nI 0 = 0 from rfl), if_pos rfl]
      · rw [if_neg (show ¬ nI 1 = 0 by decide), if_neg (by decide)]
    · right
      have hyn : ¬ lN q = 0 := fun e => hy0 ((pk_lEQ (b := 0) (by omega) (by omega)).mp e)
      have hm : x % q < q := Nat.mod_lt _ (by omega)
      rw [if_neg (fun e => hyn (lgc0.mp e)), gd_t (decide_eq_true hyn), pk_lRem (by omega) (by omega) (by omega)]
      exact ⟨x % q, _, _, _, hm, ⟨q, x % q, rfl, rfl, rfl, rfl, by omega, by omega, by rw [Nat.gcd_comm q, ← Nat.gcd_rec, Nat.gcd_comm, hgc]⟩, rfl⟩
theorem endC {g b p : Nat} {σ : M2} {fu : Nat} (hg : g ≤ b) (hb : 1 ≤ b) (hb60 : b ≤ 60) (hp : p ≤ 1) (hfu : 161 < fu) : bnd (F11_commonDivisor fu (nI g) (nI b) σ) (fun r5 s6 => if (1 : Int32) ≤ r5 then if nI p = 0 then F11_odds_143 fu r5 (nI g) s6 else F11_odds_143 fu r5 (nI b) s6 else some ((-4611686018427387904 : Int64), s6)) = some (lN ((if p = 0 then g else b) / Nat.gcd g b), σ) := by
  have hd0 : 0 < Nat.gcd g b := Nat.gcd_pos_of_pos_right _ (by omega)
  have hd1 : Nat.gcd g b ≤ b := Nat.gcd_le_right _ (by omega)
  have hdn : ¬ nI (Nat.gcd g b) = 0 := nI_eqI (b := 0) (by omega) (by omega) (by omega)
  have q1 : g / Nat.gcd g b ≤ g := Nat.div_le_self _ _
  have q2 : b / Nat.gcd g b ≤ b := Nat.div_le_self _ _
  unfold F11_odds_143
  rw [gcdC (by omega) hb60 hfu, bnd_s, if_pos (show (1 : Int32) ≤ nI (Nat.gcd g b) from nI_le (a := 1) (by omega) (by omega)), gd_t (decide_eq_true hdn), gd_t (decide_eq_true hdn), pk_div (by omega) (by omega) (by omega), pk_div (by omega) (by omega) (by omega), nI_l (by omega), nI_l (by omega)]
  rcases (show p = 0 ∨ p = 1 by omega) with rfl | rfl
  · rw [if_pos (show nI 0 = 0 from rfl), if_pos rfl]
  · rw [if_neg (show ¬ nI 1 = 0 by decide), if_neg (by decide)]
def BothL (f g : M2 → Option (Int64 × M2)) : Prop := ∀ σ τ, R σ τ → ∃ v σ' τ', f σ = some (v, σ') ∧ g τ = some (v, τ') ∧ R σ' τ'
theorem m_odds {fu fu' : Nat} (hfu : 161 < fu) (hfu' : 161 < fu') (seed seeds most part : Int32) : BothL (F11_odds fu seed seeds most part) (F12_odds fu' seed seeds most part) := by
  intro σ0 τ0 hR
  obtain ⟨n, r, t, w, hA⟩ := id hR
  have hmis := hA.2.2.2.2.2.2
  have hn8 : n ≤ 8 := hA.1.1
  unfold F11_odds F12_odds F11_odds_45 F11_odds_46
  rw [fwi, gwi, bnd_s, bnd_s]
  by_cases c0 : wi seed 0 99999 = 0
  · rw [if_pos c0, if_pos c0, if_pos rfl]; exact ⟨_, _, _, rfl, rfl, hR⟩
  rw [if_neg c0, if_neg c0, fwi, gwi, bnd_s, bnd_s]
  by_cases c1 : wi seeds 1 60 = 0
  · rw [if_pos c1, if_pos c1, if_pos rfl]; exact ⟨_, _, _, rfl, rfl, hR⟩
  rw [if_neg c1, if_neg c1, fwi, gwi, bnd_s, bnd_s]
  by_cases c2 : wi most 0 8 = 0
  · rw [if_pos c2, if_pos c2, if_pos rfl]; exact ⟨_, _, _, rfl, rfl, hR⟩
  rw [if_neg c2, if_neg c2, fwi, gwi, bnd_s, bnd_s]
  by_cases c3 : wi part 0 1 = 0
  · rw [if_pos c3, if_pos c3, if_pos rfl]; exact ⟨_, _, _, rfl, rfl, hR⟩
  rw [if_neg c3, if_neg c3, if_neg (by decide)]
  obtain ⟨z, hz, rfl⟩ := wi_m (n := 99999) (by omega) c0
  obtain ⟨p, hp, rfl⟩ := wi_m (n := 1) (by omega) c3
  obtain ⟨b, hb, hb60, rfl⟩ : ∃ b, 1 ≤ b ∧ b ≤ 60 ∧ seeds = nI b := by
    obtain ⟨d1, d2⟩ := wi_1 c1
    have d3 : ¬ seeds < 0 := fun e => d1 (by
      rw [Int32.lt_iff_toInt_lt] at e ⊢
      have e0 : (0 : Int32).toInt = 0 := rfl
      have e1 : (1 : Int32).toInt = 1 := rfl
      omega)
    obtain ⟨b, hb, rfl⟩ := nI_of d3
    refine ⟨b, ?_, ?_, rfl⟩
    · rcases Nat.eq_zero_or_pos b with rfl | q
      · exact absurd (by decide) d1
      · exact q
    · rcases Nat.lt_or_ge 60 b with q | q
      · exact absurd (nI_lt (a := 60) q hb) d2
      · exact q
  unfold F11_keepLuck
  rw [copyRow_eq (N := 8) (by decide) (by decide) (by decide) (by omega) (by omega), bnd_s, bnd_s]
  have key : ∃ q q' : Int64 × M2, F11_odds_67 fu (nI z) (nI b) most (nI p) 0 0 (cpr σ0 3 67 8) = some q ∧ F12_odds_51 fu' (nI z) (nI b) most (nI p) 0 0 τ0 = some q' ∧ (q.1 = q'.1 ∧ Fr xC σ0 q.2 ∧ Fr xM τ0 q'.2) := by
    unfold F11_odds_67 F12_odds_51
    refine pl22 (R := Int64 × M2) (R' := Int64 × M2) (fun q x6 x7 s y5 y7 u => ∃ i g, q = b - i ∧ i ≤ b ∧ g ≤ i ∧ x6 = nI g ∧ x7 = nI i ∧ y5 = lN g ∧ y7 = nI i ∧ Fr (zC n) σ0 s ∧ (∀ k, k < 8 → s 67 k = σ0 3 k) ∧ Fr xM τ0 u) (fun q q' => q.1 = q'.1 ∧ Fr xC σ0 q.2 ∧ Fr xM τ0 q'.2) ?_ b fu fu' 0 0 (cpr σ0 3 67 8) 0 0 τ0 (by omega) (by omega) ⟨0, 0, rfl, by omega, by omega, rfl, rfl, rfl, rfl, fun o k hz => cpr_ne (fun e => hz (Or.inl (Or.inr (by omega)))), fun k hk => cpr_in hk, Fr.rf⟩
    intro k67 k51 q x6 x7 s y5 y7 u hI
    obtain ⟨i, g, rfl, hi, hgi, rfl, rfl, rfl, rfl, hf, h67, hg⟩ := hI
    by_cases hbi : b ≤ i
    · left
      obtain rfl : i = b := by omega
      unfold F11_bringLuckBack
      rw [if_pos (nI_le (Nat.le_refl _) (by omega)), if_pos (nI_le (Nat.le_refl _) (by omega)), copyRow_eq (N := 8) (by decide) (by decide) (by decide) (by omega) (by omega), bnd_s, bnd_s, endC hgi hb hb60 hp hfu, nI_l (by omega), lowM hgi hb hb60 hp hfu', bnd_s]
      exact ⟨_, _, rfl, rfl, rfl, luck_back hn8 hf h67, hg⟩
    · right
      obtain ⟨s', u', a1, a2, a3, a4, a5, a6, a7⟩ := lots_rel (s := s) (u := u) (a := z + i + 1) (fu := fu) (fu' := fu') hA.1 hmis.1 hmis.2.1 (by omega) hf hg hfu hfu'
      unfold F11_runByLots F12_dayBy
      rw [if_neg (nI_ge (by omega) (by omega)), if_neg (nI_ge (by omega) (by omega)), nI_add, seed_C (by omega), seed_M (by omega), a1, bnd_s, a2, bnd_s, a3]
      unfold F11_odds_99 F12_odds_80
      by_cases c4 : most < u' 0 35
      · rw [if_pos c4, if_pos c4]
        exact ⟨b - (i + 1), _, _, _, _, _, _, by omega, ⟨i + 1, g, rfl, by omega, by omega, Int32.add_zero _, nI_1 _, Int64.add_zero _, nI_1 _, a6, fun k hk => by rw [a5]; exact h67 k hk, a7⟩, rfl, rfl⟩
      · rw [if_neg c4, if_neg c4]
        exact ⟨b - (i + 1), _, _, _, _, _, _, by omega, ⟨i + 1, g + 1, rfl, by omega, by omega, nI_1 _, nI_1 _, lN_1 _, nI_1 _, a6, fun k hk => by rw [a5]; exact h67 k hk, a7⟩, rfl, rfl⟩
  obtain ⟨⟨v, σ'⟩, ⟨v', τ'⟩, k1, k2, k3, k4, k5⟩ := key
  have k3 : v = v' := k3
  subst k3
  exact ⟨_, _, _, k1, k2, n, r, t, w, hA.fr k4 k5⟩
end
