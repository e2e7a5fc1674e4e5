/-! the reference's line; both lines together -/
theorem runs48_eq {m c : Nat} {x1 : Int32} {τ0 : M2} {fu : Nat} {k7 : Int32 → M2 → Option (Unit × M2)} (hm : m < 8) (hc : c < 8) (hord : ∀ j, j < m → ∃ q, q < c ∧ τ0 20 j = nI q) (hran : τ0 0 33 = nI m) (hfu : 9 < fu) :
    ∃ τ', F12_runs_48 fu k7 x1 (nI c) (nI m) τ0 = k7 (nI (c + 1)) τ' ∧ (∀ j, τ' 20 j = insAt (τ0 20) (pos (fun j => τ0 19 (τ0 20 j).toNatClampNeg) (τ0 19 c) m) m (nI c) j) ∧ τ' 0 33 = nI (m + 1) ∧ Fr (fun o k => o = 20 ∨ (o = 0 ∧ k = 33)) τ0 τ' := by
  unfold F12_runs_48
  refine el1 (R := Unit × M2) (fun i x3 τ => x3 = nI i ∧ i ≤ m ∧ pos (fun j => τ0 19 (τ0 20 j).toNatClampNeg) (τ0 19 c) i = pos (fun j => τ0 19 (τ0 20 j).toNatClampNeg) (τ0 19 c) m ∧ (∀ j, τ 20 j = if j ≤ i then τ0 20 j else if j ≤ m then τ0 20 (j - 1) else τ0 20 j) ∧ Fr (fun o k => o = 20 ∨ (o = 0 ∧ k = 33)) τ0 τ ∧ τ 0 33 = nI m)
    (fun o => ∃ τ', o = k7 (nI (c + 1)) τ' ∧ (∀ j, τ' 20 j = insAt (τ0 20) (pos (fun j => τ0 19 (τ0 20 j).toNatClampNeg) (τ0 19 c) m) m (nI c) j) ∧ τ' 0 33 = nI (m + 1) ∧ Fr (fun o k => o = 20 ∨ (o = 0 ∧ k = 33)) τ0 τ') ?_ m fu (nI m) τ0 (by omega) ⟨rfl, Nat.le_refl _, rfl, fun j => ?_, Fr.rf, hran⟩
  · intro k i x3 τ hI
    obtain ⟨rfl, him, hpos, h20, hf, h33⟩ := hI
    have fin : i = pos (fun j => τ0 19 (τ0 20 j).toNatClampNeg) (τ0 19 c) m → ∃ τ', F12_runs_94 fu k7 x1 (nI c) (nI i) τ = k7 (nI (c + 1)) τ' ∧ (∀ j, τ' 20 j = insAt (τ0 20) (pos (fun j => τ0 19 (τ0 20 j).toNatClampNeg) (τ0 19 c) m) m (nI c) j) ∧ τ' 0 33 = nI (m + 1) ∧ Fr (fun o k => o = 20 ∨ (o = 0 ∧ k = 33)) τ0 τ' := by
      intro hip
      refine ⟨up (up τ 20 i (nI c)) 0 33 (nI (m + 1)), ?_, fun j => ?_, up_eq, (hf.up (Or.inl rfl)).up (Or.inr ⟨rfl, rfl⟩)⟩
      · unfold F12_runs_94 F12_runs_111
        rw [gd_t (inb_t (N := 8) (by omega) (by omega)), nI_c (by omega), up_ne (o := 20) (a := 0) (by omega), h33, nI_1, nI_1]
      · rw [← hip]
        unfold insAt
        rw [up_ne (by omega), up_at]
        by_cases h1 : j = i
        · rw [if_pos ⟨rfl, h1⟩, if_neg (by omega), if_pos h1]
        · rw [if_neg (fun e => h1 e.2), h20]
          by_cases h2 : j < i
          · rw [if_pos (by omega), if_pos h2]
          · rw [if_neg (by omega), if_neg h2, if_neg h1]
    by_cases hi0 : i = 0
    · left
      subst hi0
      rw [if_pos (by decide)]
      exact fin (by rw [← hpos]; rfl)
    · obtain ⟨q, rfl⟩ : ∃ q, i = q + 1 := ⟨i - 1, by omega⟩
      obtain ⟨z, hz, hzq⟩ := hord q (by omega)
      have e20 : τ 20 q = nI z := by rw [h20, if_pos (by omega)]; exact hzq
      have e19 : ∀ a, τ 19 a = τ0 19 a := fun a => hf 19 a (by omega)
      rw [if_neg (nI_nle (by omega) (by omega)), nI_pred, gd_t (inb_t (N := 8) (by omega) (by omega)), nI_c (by omega), e20, gd_t (inb_t (N := 8) (by omega) (by omega)), gd_t (inb_t (N := 8) (by omega) (by omega)), nI_c (by omega), nI_c (by omega), e19, e19]
      have epos : ∀ b : Bool, pos (fun j => τ0 19 (τ0 20 j).toNatClampNeg) (τ0 19 c) (q + 1) = if τ0 19 c ≤ τ0 19 z then q + 1 else pos (fun j => τ0 19 (τ0 20 j).toNatClampNeg) (τ0 19 c) q := fun b => by
        conv => lhs; unfold pos
        rw [hzq, nI_c (by omega)]
      by_cases hs : τ0 19 c ≤ τ0 19 z
      · left
        rw [if_pos hs]
        refine fin ?_
        rw [← hpos, epos true, if_pos hs]
      · right
        rw [if_neg hs, gd_t (inb_t (N := 8) (by omega) (by omega)), nI_c (by omega), show nI (q + 1) + (-1 : Int32) = nI q from pk_m1 q]
        refine ⟨q, nI q, _, by omega, ⟨rfl, by omega, ?_, fun j => ?_, hf.up (Or.inl rfl), ?_⟩, rfl⟩
        · rw [← hpos, epos true, if_neg hs]
        · rw [up_at]
          by_cases h1 : j = q + 1
          · rw [if_pos ⟨rfl, h1⟩, if_neg (by omega), if_pos (by omega), h1]
            exact hzq.symm
          · rw [if_neg (fun e => h1 e.2), h20]
            by_cases h2 : j ≤ q
            · rw [if_pos (by omega), if_pos h2]
            · rw [if_neg (by omega), if_neg h2]
        · rw [up_ne (by omega)]; exact h33
  · by_cases h : j ≤ m
    · rw [if_pos h]
    · rw [if_neg h, if_neg h]
/-- the line so far, of the children below c, on both sides -/
def Line (m c : Nat) (σ τ : M2) : Prop := m ≤ c ∧ ∀ j, j < m → ∃ q, q < c ∧ σ 43 j = nI q ∧ τ 20 j = nI q ∧ σ 45 j = τ 19 q
theorem insAt_cases {p m : Nat} (hp : p ≤ m) {j : Nat} (hj : j < m + 1) (P : Nat → Prop) : (∀ (f : Nat → Int32) (x : Int32), insAt f p m x j = x) ∨ ∃ q, q < m ∧ ∀ (f : Nat → Int32) (x : Int32), insAt f p m x j = f q := by
  by_cases h1 : j < p
  · exact Or.inr ⟨j, by omega, fun f x => if_pos h1⟩
  · by_cases h2 : j = p
    · exact Or.inl fun f x => by unfold insAt; rw [if_neg h1, if_pos h2]
    · exact Or.inr ⟨j - 1, by omega, fun f x => by unfold insAt; rw [if_neg h1, if_neg h2, if_pos (by omega)]⟩
/-- what standing in line changes -/
def lC (o k : Nat) : Prop := sC o k ∨ o = 43 ∨ o = 45
def lM (o k : Nat) : Prop := sM o k ∨ o = 19 ∨ o = 20 ∨ (o = 0 ∧ k = 33)
theorem lC_dC {o k : Nat} (h : lC o k) : dC o k := by
  rcases h with h | h
  · exact sC_dC h
  · exact Or.inl (by omega)
theorem lM_dM {o k : Nat} (h : lM o k) : dM o k := by
  rcases h with h | h
  · exact sM_dM h
  · rcases h with h | h | h
    · exact Or.inl (by omega)
    · exact Or.inl (by omega)
    · exact Or.inr (by omega)
/-- whether a bit is set -/
def bit (x : Int32) (c : Nat) : Prop := (x >>> (nI c &&& 31)) &&& 1 = 1
theorem bit_or (y : Int32) : y &&& 1 = 0 ∨ y &&& 1 = 1 := by
  have h := pk_and y (m := 1) 1 (by decide)
  rw [h]
  have : y.toBitVec.toNat % 2 ^ 1 < 2 := Nat.mod_lt _ (by decide)
  rcases (show y.toBitVec.toNat % 2 ^ 1 = 0 ∨ y.toBitVec.toNat % 2 ^ 1 = 1 by omega) with h | h
  · rw [h]; exact Or.inl rfl
  · rw [h]; exact Or.inr rfl
theorem has_t {x : Int32} {c : Nat} {σ : M2} (h : bit x c) : F11_has x (nI c) σ = some (1, σ) := by
  unfold F11_has
  unfold bit at h
  rw [h]
  rfl
theorem has_f {x : Int32} {c : Nat} {σ : M2} (h : ¬ bit x c) : F11_has x (nI c) σ = some (0, σ) := by
  unfold F11_has
  unfold bit at h
  rcases bit_or (x >>> (nI c &&& 31)) with e | e
  · rw [if_pos e]
  · exact absurd e h
/-- how many bits below c -/
def cnt (x : Int32) : Nat → Nat
  | 0 => 0
  | c + 1 => cnt x c + (if (x >>> (nI c &&& 31)) &&& 1 = 1 then 1 else 0)
theorem cnt_t {x : Int32} {c : Nat} (h : bit x c) : cnt x (c + 1) = cnt x c + 1 := by
  unfold bit at h
  show cnt x c + (if _ then 1 else 0) = _
  rw [if_pos h]
theorem cnt_f {x : Int32} {c : Nat} (h : ¬ bit x c) : cnt x (c + 1) = cnt x c := by
  unfold bit at h
  show cnt x c + (if _ then 1 else 0) = _
  rw [if_neg h]; rfl
theorem cnt_ones : ∀ n, n ≤ 8 → ∀ z, z < 2 ^ n → onesV (nI z) = nI (cnt (nI z) n) := by decide +kernel
