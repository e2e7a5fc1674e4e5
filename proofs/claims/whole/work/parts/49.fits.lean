/-! what fits a sheet: each value tried, in both memories -/
def fitv (fu' i : Nat) (τ0 : M2) (mo mk v : Nat) : Int32 := match F12_unlike fu' (nI i) (up τ0 mo mk (nI v)) with
  | none => 0
  | some q => q.1
/-- the setting of a search: the place on both sides, the values that may stand there -/
def Srch (n r i : Nat) (o k mo mk M : Nat) (σ0 τ0 : M2) : Prop := i < 4 ∧ (∀ v, v < M → ∃ w, RD n r w (up σ0 o k (nI v)) (up τ0 mo mk (nI v))) ∧ (∀ k, k < 40 → σ0 (60 + 2 * i) k = τ0 12 (40 * i + k)) ∧ (∀ k, k < 6 → τ0 22 k = nI k) ∧ τ0 0 39 = -1 ∧ (0 < o ∧ o < 12) ∧ (mo = 0 ∧ mk = 11 ∨ (0 < mo ∧ mo < 5))
theorem fr_up {P : Nat → Nat → Prop} {σ0 σ : M2} {o k : Nat} {x : Int32} (h : Fr (fun a b => P a b ∨ (a = o ∧ b = k)) σ0 σ) : Fr P (up σ0 o k x) (up σ o k x) := fun a b hp => by
  by_cases e : a = o ∧ b = k
  · rw [e.1, e.2, up_eq, up_eq]
  · rw [up_ne e, up_ne e]
    exact h a b (fun z => z.elim hp e)
theorem fit_both {n r i o k mo mk M v : Nat} {σ0 τ0 σ τ : M2} {fu fu' : Nat} (hS : Srch n r i o k mo mk M σ0 τ0) (hv : v < M) (hf : Fr (fun a b => xC a b ∨ (a = o ∧ b = k)) σ0 σ) (hg : Fr (fun a b => xM a b ∨ (a = mo ∧ b = mk)) τ0 τ) (hfu : 161 < fu) (hfu' : 161 < fu') :
    ∃ σ1 τ1, F2_run fu (up σ o k (nI v)) = some ((), σ1) ∧ F11_firstOtherwise fu (59 + 2 * i) σ1 = some (fitv fu' i τ0 mo mk v, σ1) ∧ F12_unlike fu' (nI i) (up τ mo mk (nI v)) = some (fitv fu' i τ0 mo mk v, τ1) ∧ Fr (fun a b => xC a b ∨ (a = o ∧ b = k)) σ0 σ1 ∧ Fr (fun a b => xM a b ∨ (a = mo ∧ b = mk)) τ0 τ1 := by
  obtain ⟨hi, hset, hcell, hturn, hdrop, ho, hm⟩ := hS
  obtain ⟨w, hd⟩ := hset v hv
  have f1 : Fr xC (up σ0 o k (nI v)) (up σ o k (nI v)) := fr_up hf
  have g1 : Fr xM (up τ0 mo mk (nI v)) (up τ mo mk (nI v)) := fr_up hg
  have cell : ∀ s t : M2, Fr xC (up σ0 o k (nI v)) s → Fr xM (up τ0 mo mk (nI v)) t → ∀ k, k < 40 → s (60 + 2 * i) k = t 12 (40 * i + k) := fun s t hs ht q hq => by
    rw [hs _ _ (xC_no (by omega)), ht _ _ (xM_no (by omega)), up_ne (by omega), up_ne (by omega)]
    exact hcell q hq
  have turn : ∀ t : M2, Fr xM (up τ0 mo mk (nI v)) t → ∀ k, k < 6 → t 22 k = nI k := fun t ht q hq => by
    rw [ht _ _ (xM_no (by omega)), up_ne (by omega)]; exact hturn q hq
  have drop : ∀ t : M2, Fr xM (up τ0 mo mk (nI v)) t → t 0 39 = -1 := fun t ht => by
    rw [ht _ _ (xM_no (by omega)), up_ne (by omega)]; exact hdrop
  obtain ⟨x, sA, tA, a1, a2, a3, a4, a5⟩ := unlike_rel (fu := fu) (fu' := fu') (hd.fr2 f1 Fr.rf) hi (cell _ _ f1 Fr.rf) (turn _ Fr.rf) (drop _ Fr.rf) hfu hfu'
  obtain ⟨y, sB, tB, b1, b2, b3, b4, b5⟩ := unlike_rel (fu := fu) (fu' := fu') (hd.fr2 Fr.rf g1) hi (cell _ _ Fr.rf g1) (turn _ g1) (drop _ g1) hfu hfu'
  obtain ⟨z, sC, tC, c1, c2, c3, c4, c5⟩ := unlike_rel (fu := fu) (fu' := fu') hd hi (cell _ _ Fr.rf Fr.rf) (turn _ Fr.rf) (drop _ Fr.rf) hfu hfu'
  have e1 : fitv fu' i τ0 mo mk v = x := by unfold fitv; rw [a3]
  have e2 : fitv fu' i τ0 mo mk v = z := by unfold fitv; rw [c3]
  have e3 : y = z := by
    rw [b1] at c1
    obtain ⟨-, rfl⟩ := s2_inj c1
    rw [b2] at c2
    exact (s2_inj c2).1
  refine ⟨sA, tB, a1, by rw [e1]; exact a2, by rw [e2, ← e3]; exact b3, ?_, ?_⟩
  · exact (hf.up (Or.inr ⟨rfl, rfl⟩)).tr (a4.mono fun _ _ q => Or.inl (dC_xC q))
  · exact (hg.up (Or.inr ⟨rfl, rfl⟩)).tr (b5.mono fun _ _ q => Or.inl (dM_xM q))
/-- the class's way: from the greatest down -/
def bt (m : Nat) : Int32 := if 9 < m then 0 else (1 : Int32) <<< (nI m &&& 31)
def desc (f : Nat → Int32) : Nat → Int32 → Int32 → Int32 → Int32 × Int32 × Int32
  | 0, a, b, c => (a, b, c)
  | m + 1, a, b, c => if f m = -1 then desc f m (a ||| bt m) (b + 1) (nI m) else desc f m a b c
theorem tryAll_eq {n r i o k mo mk M N : Nat} {σ0 τ0 : M2} {fu fu' : Nat} (hS : Srch n r i o k mo mk M σ0 τ0) (ho : csh o = (0, N)) (hk : k < N) (hN : N < 100) (hM : M ≤ 100) (hM0 : 0 < M) (hfu : 161 < fu) (hfu' : 161 < fu') :
    ∃ σ', F11_tryAll fu (59 + 2 * i) o (nI k) (nI (M - 1)) σ0 = some ((), σ') ∧ (σ' 0 14, σ' 0 15, σ' 0 16) = desc (fitv fu' i τ0 mo mk) M 0 0 (-1) ∧ Fr xC σ0 σ' := by
  have ho12 : 0 < o ∧ o < 12 := hS.2.2.2.2.2.1
  unfold F11_tryAll F11_tryAll_26
  rw [fat ho hk (by omega), bnd_s]
  obtain ⟨p, h1, h2⟩ := sl1 (R := Unit × M2) (fun q x6 s => ∃ m, q = m ∧ m ≤ M ∧ x6 = nI m - 1 ∧ desc (fitv fu' i τ0 mo mk) m (s 0 14) (s 0 15) (s 0 16) = desc (fitv fu' i τ0 mo mk) M 0 0 (-1) ∧ Fr (fun a b => xC a b ∨ (a = o ∧ b = k)) σ0 s) (fun p => (p.2 0 14, p.2 0 15, p.2 0 16) = desc (fitv fu' i τ0 mo mk) M 0 0 (-1) ∧ Fr xC σ0 p.2) (b := fun (k26 : Int32 → M2 → Option (Unit × M2)) (x6 : Int32) (σ : M2) => if x6 < 0 then bnd (F11_set o (nI k) (σ0 o k) σ) (fun r2 s3 => some ((), s3)) else bnd (F11_set o (nI k) x6 σ) (fun r5 s6 => bnd (F2_run fu s6) (fun r8 s9 => bnd (F11_firstOtherwise fu (59 + 2 * i) s9) (fun r11 s12 => if r11 = (-1 : Int32) then if (9 : Int32) < x6 then F11_tryAll_74 fu k26 (59 + 2 * i) o (nI k) (σ0 o k) x6 (0 : Int32) (s12 0 14) s12 else F11_tryAll_74 fu k26 (59 + 2 * i) o (nI k) (σ0 o k) x6 ((1 : Int32) <<< (x6 &&& 31)) (s12 0 14) s12 else F11_tryAll_94 fu k26 (59 + 2 * i) o (nI k) (σ0 o k) x6 s12)))) (fun k26 m x6 s hI => by
    obtain ⟨m', rfl, hm, rfl, hdesc, hf⟩ := hI
    cases m with
    | zero =>
      left
      rw [if_pos (by decide), fset ho hk (by omega), bnd_s]
      refine ⟨_, rfl, ?_, fr_back hf rfl⟩
      show (up s o k (σ0 o k) 0 14, up s o k (σ0 o k) 0 15, up s o k (σ0 o k) 0 16) = _
      rw [up_ne (by omega), up_ne (by omega), up_ne (by omega)]
      exact hdesc
    | succ m =>
      right
      obtain ⟨σ1, τ1, u1, u2, u3, u4, u5⟩ := fit_both (σ := s) (τ := τ0) (v := m) (fu := fu) (fu' := fu') hS (by omega) hf Fr.rf hfu hfu'
      have e0 : ∀ q, 14 ≤ q → q ≤ 16 → σ1 0 q = s 0 q := fun q hq hq2 => by
        have a1 : F2_run fu (up s o k (nI m)) = some ((), σ1) := u1
        obtain ⟨w, hd⟩ := hS.2.1 m (by omega)
        have f1 : Fr xC (up σ0 o k (nI m)) (up s o k (nI m)) := fr_up hf
        obtain ⟨s', t', b1, b2, b3, b4, b5⟩ := run_rel (left := -1) (fu := fu) (fu' := fu') (hd.fr2 f1 Fr.rf) (fun q hq => by rw [up_ne (by have := hS.2.2.2.2.2.2; omega)]; exact hS.2.2.2.1 q hq) (by rw [up_ne (by have := hS.2.2.2.2.2.2; omega)]; exact hS.2.2.2.2.1) hfu hfu'
        rw [run_def b1] at a1
        obtain ⟨-, rfl⟩ := s2_inj a1
        rw [b4 _ _ (dC_no (by omega)), up_ne (by omega)]
      rw [if_neg (by rw [nI_pred]; exact nn_nI (by omega)), nI_pred, fset ho hk (by omega), bnd_s, u1, bnd_s, u2, bnd_s]
      have hd2 : desc (fitv fu' i τ0 mo mk) (m + 1) (s 0 14) (s 0 15) (s 0 16) = if fitv fu' i τ0 mo mk m = -1 then desc (fitv fu' i τ0 mo mk) m (s 0 14 ||| bt m) (s 0 15 + 1) (nI m) else desc (fitv fu' i τ0 mo mk) m (s 0 14) (s 0 15) (s 0 16) := rfl
      rw [hd2] at hdesc
      have hx : nI m + (-1 : Int32) = nI m - 1 := by rw [Int32.sub_eq_add_neg]
      unfold F11_tryAll_74 F11_tryAll_94
      rw [hx]
      by_cases hfit : fitv fu' i τ0 mo mk m = -1
      · rw [if_pos hfit] at hdesc
        rw [if_pos hfit]
        have hgo : ∀ z : Int32, z = bt m → ∃ m' x s', m' < m + 1 ∧ (∃ q, m' = q ∧ q ≤ M ∧ x = nI q - 1 ∧ desc (fitv fu' i τ0 mo mk) q (s' 0 14) (s' 0 15) (s' 0 16) = desc (fitv fu' i τ0 mo mk) M 0 0 (-1) ∧ Fr (fun a b => xC a b ∨ (a = o ∧ b = k)) σ0 s') ∧ k26 (nI m - 1) (up (up (up σ1 0 14 ((σ1 0 14) ||| z)) 0 15 (((up σ1 0 14 ((σ1 0 14) ||| z)) 0 15) + (1 : Int32))) 0 16 (nI m)) = k26 x s' := by
          rintro z rfl
          refine ⟨m, _, _, by omega, ⟨m, rfl, by omega, rfl, ?_, ((u4.up (Or.inl (Or.inr (by omega)))).up (Or.inl (Or.inr (by omega)))).up (Or.inl (Or.inr (by omega)))⟩, rfl⟩
          rw [← hdesc]
          simp only [up_at]
          simp [e0 14 (by omega) (by omega), e0 15 (by omega) (by omega)]
        by_cases h9 : 9 < m
        · rw [if_pos (show (9 : Int32) < nI m from nI_lt (a := 9) h9 (by omega))]
          exact hgo 0 (by unfold bt; rw [if_pos h9])
        · rw [if_neg (show ¬ (9 : Int32) < nI m from nI_nlt (a := 9) (by omega) (by omega))]
          exact hgo _ (by unfold bt; rw [if_neg h9])
      · rw [if_neg hfit] at hdesc
        rw [if_neg hfit]
        refine ⟨m, _, _, by omega, ⟨m, rfl, by omega, rfl, ?_, u4⟩, rfl⟩
        rw [e0 14 (by omega) (by omega), e0 15 (by omega) (by omega), e0 16 (by omega) (by omega)]
        exact hdesc) M fu (nI (M - 1)) (up (up (up σ0 0 14 (0 : Int32)) 0 15 (0 : Int32)) 0 16 (-1 : Int32)) (by omega) ⟨M, rfl, by omega, by
          obtain ⟨m, rfl⟩ : ∃ m, M = m + 1 := ⟨M - 1, by omega⟩
          rw [nI_pred, Nat.add_sub_cancel], by
          simp only [up_at]; simp, ((Fr.rf.up (Or.inl (Or.inr (by omega)))).up (Or.inl (Or.inr (by omega)))).up (Or.inl (Or.inr (by omega)))⟩
  obtain ⟨⟨⟩, σ'⟩ := p
  exact ⟨σ', h1, h2.1, h2.2⟩
