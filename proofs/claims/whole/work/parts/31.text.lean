/-! what a text says: the class's stack and the reference's, side by side -/
theorem tx_sh : ∀ i, i < 6 → csh (12 + 4 * i) = (8 + 2, 5) ∧ csh (13 + 4 * i) = (0, 160) ∧ csh (14 + 4 * i) = (0, 3) ∧ csh (15 + 4 * i) = (0, 32) ∧ crf (12 + 4 * i) 0 = 13 + 4 * i ∧ crf (12 + 4 * i) 1 = 14 + 4 * i ∧ crf (12 + 4 * i) 2 = 15 + 4 * i ∧ crf 11 i = 12 + 4 * i := by decide
/-- a code of the class's and one of the reference's -/
def crel (c m : Int32) : Prop := (∃ z : Nat, z < 10000 ∧ c = nI z ∧ m = nI (z + 100000)) ∨ (∃ j : Nat, j < 6 ∧ c = -1 - nI j ∧ m = nI j) ∨ (c = -7 ∧ m = 19) ∨ (c = -8 ∧ m = 13) ∨ (c = -9 ∧ m = 18) ∨ (c = -10 ∧ m = 16) ∨ (c = -11 ∧ m = 17) ∨ (c = -12 ∧ m = 14) ∨ (c = -13 ∧ m = 15) ∨ (c = -14 ∧ m = 12) ∨ (c = -15 ∧ m = 11)
/-- how deep the stack is behind a code; none: too deep, or nothing to take -/
def stk1 (c : Int32) (d : Nat) : Option Nat := if -7 < c then (if d < 32 then some (d + 1) else none) else if c = -7 ∨ c = -8 then (if 1 ≤ d then some d else none) else (if 2 ≤ d then some (d - 1) else none)
def stkN (f : Nat → Int32) : Nat → Nat → Nat → Option Nat
  | _, 0, d => some d
  | lo, m + 1, d => match stk1 (f lo) d with
    | none => none
    | some d' => stkN f (lo + 1) m d'
theorem pushN {i d : Nat} {x : Int32} {σ : M2} (hi : i < 6) (hd : d < 32) (ht : σ (12 + 4 * i) 4 = nI d) : F9_push (12 + 4 * i) x σ = some ((), up (up σ (15 + 4 * i) d x) (12 + 4 * i) 4 (nI (d + 1))) := by
  obtain ⟨h1, -, -, h4, -, -, h7, -⟩ := tx_sh i hi
  unfold F9_push
  rw [gd_t (isO_t h1), h7, gd_t (isA_t h4), h4, ht]
  show (if nI 32 ≤ nI d then _ else _) = _
  rw [if_neg (nI_ge hd (by omega)), gd_t (inb_t hd (by omega)), nI_c (by omega), up_ne (by omega), ht, nI_1]
theorem popN {i d : Nat} {σ : M2} (hi : i < 6) (hd : d < 32) (ht : σ (12 + 4 * i) 4 = nI (d + 1)) : F9_pop (12 + 4 * i) σ = some (σ (15 + 4 * i) d, up σ (12 + 4 * i) 4 (nI d)) := by
  obtain ⟨h1, -, -, h4, -, -, h7, -⟩ := tx_sh i hi
  unfold F9_pop
  rw [gd_t (isO_t h1), h7, gd_t (isA_t h4), h4, ht, nI_pred, up_eq]
  rw [if_neg (nI_nle (by omega) (by omega))]
  show (if nI (d + 1) ≤ nI 32 then _ else _) = _
  rw [if_pos (nI_le (by omega) (by omega)), gd_t (inb_t hd (by omega)), nI_c (by omega), up_ne (by omega)]
/-- what only saying a text changes -/
def sC (o k : Nat) : Prop := o = 46 ∨ (∃ i, i < 6 ∧ (o = 12 + 4 * i ∧ k = 4 ∨ o = 15 + 4 * i))
def sM (o _k : Nat) : Prop := o = 16 ∨ o = 17
theorem joined_two {c m x y : Int32} {σ τ : M2} (h : (c = -9 ∧ m = 18) ∨ (c = -10 ∧ m = 16) ∨ (c = -11 ∧ m = 17) ∨ (c = -12 ∧ m = 14) ∨ (c = -13 ∧ m = 15) ∨ (c = -14 ∧ m = 12) ∨ (c = -15 ∧ m = 11)) : ∃ v, F9_joined c x y σ = some (v, σ) ∧ F12_two m x y τ = some (v, τ) := by
  unfold F9_joined F12_two F12_two_102
  rcases h with ⟨rfl, rfl⟩ | ⟨rfl, rfl⟩ | ⟨rfl, rfl⟩ | ⟨rfl, rfl⟩ | ⟨rfl, rfl⟩ | ⟨rfl, rfl⟩ | ⟨rfl, rfl⟩
  · exact ⟨x * y, by simp, by simp⟩
  · exact ⟨x + y, by simp, by simp⟩
  · exact ⟨x - y, by simp, by simp⟩
  · by_cases h : y ≤ x
    · exact ⟨0, by simp [h], by simp [h]⟩
    · exact ⟨1, by simp [h], by simp [h]⟩
  · by_cases h : x = y
    · exact ⟨1, by simp [h], by simp [h]⟩
    · exact ⟨0, by simp [h], by simp [h]⟩
  · by_cases h1 : x = 0
    · exact ⟨0, by simp [h1], by simp [h1]⟩
    · by_cases h2 : y = 0
      · exact ⟨0, by simp [h1, h2], by simp [h1, h2]⟩
      · exact ⟨1, by simp [h1, h2], by simp [h1, h2]⟩
  · by_cases h1 : x = 0
    · by_cases h2 : y = 0
      · exact ⟨0, by simp [h1, h2], by simp [h1, h2]⟩
      · exact ⟨1, by simp [h1, h2], by simp [h1, h2]⟩
    · exact ⟨1, by simp [h1], by simp [h1]⟩
/-- what a text says, within its bounds: the two ways to say it -/
theorem clampE {lo v : Int32} (h : lo.toInt ≤ 99) : (if lo < (if v < (99 : Int32) then v else (99 : Int32)) then (if v < (99 : Int32) then v else (99 : Int32)) else lo) = (if lo ≤ v then if v ≤ (99 : Int32) then v else (99 : Int32) else lo) := by
  have h99 : (99 : Int32).toInt = 99 := rfl
  apply Int32.toInt_inj.mp
  simp only [Int32.lt_iff_toInt_lt, Int32.le_iff_toInt_le, h99]
  by_cases h1 : v.toInt < 99
  · simp only [if_pos h1, if_pos (show v.toInt ≤ 99 by omega)]
    by_cases h2 : lo.toInt < v.toInt
    · rw [if_pos h2, if_pos (by omega)]
    · rw [if_neg h2]
      by_cases h3 : lo.toInt ≤ v.toInt
      · rw [if_pos h3]; omega
      · rw [if_neg h3]
  · simp only [if_neg h1, h99]
    by_cases h2 : lo.toInt < 99
    · rw [if_pos h2, if_pos (by omega)]
      by_cases h3 : v.toInt ≤ 99
      · rw [if_pos h3]; omega
      · rw [if_neg h3]
    · rw [if_neg h2, if_pos (by omega)]
      by_cases h3 : v.toInt ≤ 99
      · rw [if_pos h3]; omega
      · rw [if_neg h3, h99]; omega
def sC1 (i o k : Nat) : Prop := (o = 12 + 4 * i ∧ k = 4) ∨ o = 15 + 4 * i
def sM1 (o _k : Nat) : Prop := o = 16
/-- one text of both sides: the codes of a part -/
def Seg (σ τ : M2) (i lo hi : Nat) : Prop := lo ≤ hi ∧ hi ≤ 160 ∧ (∀ k, lo ≤ k → k < hi → crel (σ (13 + 4 * i) k) (τ 6 (200 * i + k))) ∧ stkN (σ (13 + 4 * i)) lo (hi - lo) 0 = some 1
theorem stkN_step {f : Nat → Int32} {lo m d r : Nat} (h : stkN f lo (m + 1) d = some r) : ∃ d', stk1 (f lo) d = some d' ∧ stkN f (lo + 1) m d' = some r := by
  unfold stkN at h
  cases hs : stk1 (f lo) d with
  | none => rw [hs] at h; cases h
  | some d' => rw [hs] at h; exact ⟨d', rfl, h⟩
theorem rule_ix {i p : Nat} : ((4 : Int32) * nI i + nI p) = nI (4 * i + p) := by rw [show (4 : Int32) = nI 4 from rfl, pk_mul, nI_add]
theorem code_ix {i k : Nat} : ((200 : Int32) * nI i + nI k) = nI (200 * i + k) := by rw [show (200 : Int32) = nI 200 from rfl, pk_mul, nI_add]
