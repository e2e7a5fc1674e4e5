section
/-! text -/
section TXT
variable {f : Nat → Int32} {s M t fu fl : Nat} {σ τ σ' τ' : M2}
theorem Env.fr (h : Env f s M t σ τ) (hf : Fr (fun o k => wC t o k ∨ o = 14 + 4 * t) σ σ') (hg : Fr (wM7 t) τ τ') : Env f s M t σ' τ' := by
  obtain ⟨h1, h2, h3, h4, h5, h6, h7, h8⟩ := h
  refine ⟨h1, h2, h3.fr (hf _ _ (by unfold wC; omega)) (fun k => hf _ _ (by unfold wC; omega)) (fun k => hf _ _ (by unfold wC; omega)), ?_, ?_, fun q hq => ?_, fun q hq => ?_, ?_⟩
  · rw [hf _ _ (by unfold wC; omega)]; exact h4
  · rw [hg _ _ (by unfold wM7 wM; omega)]; exact h5
  · rw [hg _ _ (by unfold wM7 wM; omega)]; exact h6 q hq
  · rw [hg _ _ (by unfold wM7 wM; omega)]; exact h7 q hq
  · rw [hg _ _ (by unfold wM7 wM; omega)]; exact h8
def T3 (σ : M2) : Option (Int32 × M2) := bnd (F6_expect (1 : Int32) σ) (fun _ s21 => some (s21 40 4, s21))
def T2 (fl t : Nat) (σ : M2) : Option (Int32 × M2) := bnd (F6_readPart fl (12 + 4 * t) (4 : Int32) (2 : Int32) σ) (fun _ s18 => T3 s18)
def T1 (fl t : Nat) (σ : M2) : Option (Int32 × M2) := bnd (F6_readPart fl (12 + 4 * t) (3 : Int32) (1 : Int32) σ) (fun _ s15 => T2 fl t s15)
def wC4 (t o k : Nat) : Prop := wC t o k ∨ o = 14 + 4 * t
theorem T3F {k : Nat} (h : Env f s M t σ τ) (hc : CF f s t σ σ k) : ∃ σ', T3 σ = some (nI (Pn f s k), σ') ∧ Fr (wC4 t) σ σ' := by
  obtain ⟨σ1, a1, a2⟩ := expectF (x := 1) h hc (by decide)
  unfold T3
  rw [a1, bnd_s, a2.1]
  exact ⟨σ1, rfl, a2.2.2.2.mono fun o k z => Or.inl z⟩
theorem T2F {k : Nat} (h : Env f s M t σ τ) (hfl : 0 < fl) (hc : CF f s t σ σ k) : ∃ σ', T2 fl t σ = some (nI (Pn f s k), σ') ∧ Fr (wC4 t) σ σ' := by
  obtain ⟨fl, rfl⟩ : ∃ q, fl = q + 1 := ⟨fl - 1, by omega⟩
  obtain ⟨σ1, a1, a2⟩ := partF (p := 2) (x := 4) (fl := fl) h (by omega) (by decide) hc
  have a1 : F6_readPart (fl + 1) (12 + 4 * t) 4 2 σ = some ((), σ1) := a1
  obtain ⟨σ2, b1, b2⟩ := T3F (h.fr a2.2.2.2 Fr.rf) a2.cf
  unfold T2
  rw [a1, bnd_s, b1]
  exact ⟨σ2, rfl, Fr.tr a2.2.2.2 b2⟩
theorem T1F {k : Nat} (h : Env f s M t σ τ) (hfl : 0 < fl) (hc : CF f s t σ σ k) : ∃ σ', T1 fl t σ = some (nI (Pn f s k), σ') ∧ Fr (wC4 t) σ σ' := by
  obtain ⟨fl, rfl⟩ : ∃ q, fl = q + 1 := ⟨fl - 1, by omega⟩
  obtain ⟨σ1, a1, a2⟩ := partF (p := 1) (x := 3) (fl := fl) h (by omega) (by decide) hc
  have a1 : F6_readPart (fl + 1) (12 + 4 * t) 3 1 σ = some ((), σ1) := a1
  obtain ⟨σ2, b1, b2⟩ := T2F (fl := fl + 1) (h.fr a2.2.2.2 Fr.rf) (by omega) a2.cf
  unfold T1
  rw [a1, bnd_s, b1]
  exact ⟨σ2, rfl, Fr.tr a2.2.2.2 b2⟩
/-- the reference's end behind a fault, and behind none -/
def u22 (t : Nat) (τ : M2) : M2 := up (up τ 7 (4 * t + 3) (τ 0 27)) 0 7 0
theorem end122 (ht : t < 6) (h0 : τ 0 10 = nI t) {x1 : Int32} : F12_text_122 fu x1 τ = if x1 = 0 then some ((-100 : Int32) - τ 0 20, u22 t τ) else some (nI t, up (u22 t τ) 0 10 (nI (t + 1))) := by
  unfold F12_text_122
  have e3 : ((4 : Int32) * nI t + (3 : Int32)) = nI (4 * t + 3) := rule_ix (p := 3)
  rw [h0, e3, gd_t (inb_t (N := 24) (by omega) (by omega)), nI_c (by omega)]
  have e20 : up (up τ 7 (4 * t + 3) (τ 0 27)) 0 7 (0 : Int32) 0 20 = τ 0 20 := by rw [up_ne (by omega), up_ne (by omega)]
  have e10 : up (up τ 7 (4 * t + 3) (τ 0 27)) 0 7 (0 : Int32) 0 10 = nI t := by rw [up_ne (by omega), up_ne (by omega)]; exact h0
  rw [e20, e10, nI_1, up_eq, nI_pred]
  rfl
theorem end0 {q p : Nat} : wl2 (body26 fu) (q + 1) 0 (nI p) τ = F12_text_122 fu 0 τ := by
  show (if (3 : Int32) ≤ nI p then F12_text_101 fu 0 τ else if (0 : Int32) = 0 then F12_text_101 fu 0 τ else _) = _
  unfold F12_text_101
  by_cases c : (3 : Int32) ≤ nI p
  · rw [if_pos c, if_pos rfl]
  · rw [if_neg c, if_pos rfl, if_pos rfl]
theorem stkN_list {g : Nat → Int32} : ∀ (w : List Int32) lo d, (∀ i, i < w.length → g (lo + i) = w.getD i 0) → stkN g lo w.length d = skL w d
  | [], lo, d, _ => rfl
  | c :: l, lo, d, h => by
    have h0 : g lo = c := h 0 (by show 0 < l.length + 1; omega)
    show (match stk1 (g lo) d with | none => none | some d' => stkN g (lo + 1) l.length d') = (match stk1 c d with | none => none | some d' => skL l d')
    rw [h0]
    cases stk1 c d with
    | none => rfl
    | some d' =>
      exact stkN_list l (lo + 1) d' (fun i hi => by
        have := h (i + 1) (by show i + 1 < l.length + 1; omega)
        rw [show lo + 1 + i = lo + (i + 1) by omega, this]
        rfl)
theorem getD_app {α : Type} {a b : List α} {x : α} {i : Nat} (hi : i < b.length) : (a ++ b).getD (a.length + i) x = b.getD i x := by
  rw [List.getD_eq_getElem?_getD, List.getD_eq_getElem?_getD, List.getElem?_append_right (by omega), Nat.add_sub_cancel_left]
theorem getD_left {α : Type} {a b : List α} {x : α} {i : Nat} (hi : i < a.length) : (a ++ b).getD i x = a.getD i x := by
  rw [List.getD_eq_getElem?_getD, List.getD_eq_getElem?_getD, List.getElem?_append_left hi]
/-- a piece of the codes on both sides -/
theorem seg_of {a w b : List Int32} {a0 w0 b0 : List Nat} (hC : ∀ i, i < (a ++ w ++ b).length → σ (13 + 4 * t) i = (a ++ w ++ b).getD i 0) (hM : ∀ i, i < (a0 ++ w0 ++ b0).length → τ 6 (200 * t + i) = nI ((a0 ++ w0 ++ b0).getD i 0)) (hl : (a ++ w ++ b).length ≤ 160) (ha : a.length = a0.length) (hw : LR w w0) (hk : skL w 0 = some 1) : Seg σ τ t a.length (a.length + w.length) := by
  have hwl := LR_len hw
  rw [List.length_append, List.length_append] at hC hM hl
  have eC : ∀ i, i < w.length → σ (13 + 4 * t) (a.length + i) = w.getD i 0 := fun i hi => by
    rw [hC _ (by omega), getD_left (by rw [List.length_append]; omega), getD_app hi]
  refine ⟨by omega, by omega, fun k h1 h2 => ?_, ?_⟩
  · obtain ⟨i, rfl⟩ : ∃ i, k = a.length + i := ⟨k - a.length, by omega⟩
    rw [eC i (by omega), hM _ (by omega), getD_left (by rw [List.length_append]; omega), ha, getD_app (by omega)]
    exact LR_get hw i (by omega)
  · rw [show a.length + w.length - a.length = w.length by omega, stkN_list w a.length 0 eC]
    exact hk
end TXT
end
