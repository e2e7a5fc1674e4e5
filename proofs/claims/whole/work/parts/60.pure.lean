section
/-! a day in any order: what it is worth, by the reference's own race on one memory -/
def mkM (τ : M2) (W : Nat → Int32) (J : Int32) : M2 := fun o k => if o = 18 then W k else if o = 0 ∧ k = 34 then J else τ o k
def mkC (σ : M2) (W : Nat → Int32) (J : Int32) : M2 := fun o k => if o = 42 then W k else if o = 41 ∧ k = 8 then J else σ o k
theorem mkM_18 {τ : M2} {W : Nat → Int32} {J : Int32} {q : Nat} : mkM τ W J 18 q = W q := if_pos rfl
theorem mkM_34 {τ : M2} {W : Nat → Int32} {J : Int32} : mkM τ W J 0 34 = J := by
  unfold mkM
  rw [if_neg (by omega), if_pos ⟨rfl, rfl⟩]
theorem mkC_42 {σ : M2} {W : Nat → Int32} {J : Int32} {q : Nat} : mkC σ W J 42 q = W q := if_pos rfl
theorem mkC_8 {σ : M2} {W : Nat → Int32} {J : Int32} : mkC σ W J 41 8 = J := by
  unfold mkC
  rw [if_neg (by omega), if_pos ⟨rfl, rfl⟩]
theorem mkM_fr {τ : M2} {W : Nat → Int32} {J : Int32} : Fr dM τ (mkM τ W J) := fun o k h => by
  unfold mkM
  rw [if_neg (fun e => h (Or.inl (by omega))), if_neg (fun e => h (Or.inr (by omega)))]
theorem mkC_fr {σ : M2} {W : Nat → Int32} {J : Int32} : Fr dC σ (mkC σ W J) := fun o k h => by
  unfold mkC
  rw [if_neg (fun e => h (Or.inl (by omega))), if_neg (fun e => h (Or.inl (by omega)))]
theorem shf (a b : Int32) : a = b + (a - b) := by rw [Int32.add_comm, Int32.sub_add_cancel]
/-- one race more -/
def stp (fu' : Nat) (τ : M2) (k : Nat) (W : Nat → Int32) (J : Int32) : (Nat → Int32) × Int32 := match F12_raceOf fu' (nI k) (mkM τ W J) with
  | none => (W, J)
  | some p => (p.2 18, p.2 0 34)
theorem stpC {n r w k : Nat} {σ τs : M2} {fu fu' : Nat} {W : Nat → Int32} {J : Int32} (h : RD n r w σ τs) (hk : k < r) (hW : ∀ q, q < 8 → σ 42 q = W q) (hJ : σ 41 8 = J) (hfu : 161 < fu) (hfu' : 161 < fu') :
    ∃ m σ1 σ', F2_lineUp fu (nI k) σ = some (nI m, σ1) ∧ F2_giveRibbons fu (nI k) (nI m) σ1 = some ((), σ') ∧ (∀ q, q < 8 → σ' 42 q = (stp fu' τs k W J).1 q) ∧ σ' 41 8 = (stp fu' τs k W J).2 ∧ Fr gC σ σ' := by
  have h2 : RD n r w σ (mkM τs W J) := h.fr Fr.rf mkM_fr
  have hD : DSd (σ 41 9 - mkM τs W J 0 36) σ (mkM τs W J) := ⟨fun q hq => by rw [hW q hq, mkM_18], by rw [hJ, mkM_34], shf _ _⟩
  obtain ⟨m, σ1, σ', τ', a1, a2, a3, a4, a5, a6, a7, a8⟩ := raceD (fu := fu) (fu' := fu') h2 hk hD hfu hfu'
  have e : stp fu' τs k W J = (τ' 18, τ' 0 34) := by
    unfold stp
    rw [a3]
  exact ⟨m, σ1, σ', a1, a2, fun q hq => by rw [e]; exact a4.1 q hq, by rw [e]; exact a4.2.1, a7⟩
theorem stpM {n r w k : Nat} {σ τs τ : M2} {fu' : Nat} {W : Nat → Int32} {J : Int32} (h : RD n r w σ τ) (h0 : RD n r w σ τs) (hk : k < r) (hW : ∀ q, q < 8 → τ 18 q = W q) (hJ : τ 0 34 = J) (hfu' : 161 < fu') :
    ∃ τ', F12_raceOf fu' (nI k) τ = some ((), τ') ∧ (∀ q, q < 8 → τ' 18 q = (stp fu' τs k W J).1 q) ∧ τ' 0 34 = (stp fu' τs k W J).2 ∧ Fr gM τ τ' := by
  have h1 : RD n r w (mkC σ W J) τ := h.fr mkC_fr Fr.rf
  have hD : DSd (mkC σ W J 41 9 - τ 0 36) (mkC σ W J) τ := ⟨fun q hq => by rw [hW q hq, mkC_42], by rw [hJ, mkC_8], shf _ _⟩
  obtain ⟨m, σ1, σ', τ', a1, a2, a3, a4, a5, a6, a7, a8⟩ := raceD (fu := fu') (fu' := fu') h1 hk hD hfu' hfu'
  obtain ⟨m2, σ2, σ'', b1, b2, b3, b4, -⟩ := stpC (fu := fu') (fu' := fu') (W := W) (J := J) (h0.fr mkC_fr Fr.rf) hk (fun q _ => mkC_42) mkC_8 hfu' hfu'
  rw [a1] at b1
  obtain ⟨e1, rfl⟩ := s2_inj b1
  rw [← e1, a2] at b2
  obtain ⟨-, rfl⟩ := s2_inj b2
  exact ⟨τ', a3, fun q hq => by rw [← b3 q hq]; exact (a4.1 q hq).symm, by rw [← b4]; exact a4.2.1.symm, a8⟩
/-- its end: how many are crossed, the joy -/
def edv (fu' : Nat) (τ : M2) (W : Nat → Int32) (J : Int32) : Int32 × Int32 := match F12_goes_60 fu' 0 (up (mkM τ W J) 0 35 0) with
  | none => (0, 0)
  | some p => (p.2 0 35, p.2 0 34)
theorem edC {n r w : Nat} {σ τs : M2} {fu fu' : Nat} {W : Nat → Int32} {J : Int32} (h : RD n r w σ τs) (hW : ∀ q, q < 8 → σ 42 q = W q) (hJ : σ 41 8 = J) (hfu : 161 < fu) (hfu' : 161 < fu') :
    ∃ σ', F2_end fu σ = some ((), σ') ∧ (σ' 41 10, σ' 41 8) = edv fu' τs W J ∧ Fr eC σ σ' := by
  have hg : Fr dM τs (up (mkM τs W J) 0 35 0) := mkM_fr.up (Or.inr (by omega))
  have hD : DSd (σ 41 9 - up (mkM τs W J) 0 35 0 0 36) σ (up (mkM τs W J) 0 35 0) := ⟨fun q hq => by rw [hW q hq, up_ne (by omega), mkM_18], by rw [hJ, up_ne (by omega), mkM_34], shf _ _⟩
  obtain ⟨σ', τ', a1, a2, a3, a4, a5, a6, a7⟩ := endD (fu := fu) (fu' := fu') (h.fr Fr.rf hg) hD up_eq hfu hfu'
  have e : edv fu' τs W J = (τ' 0 35, τ' 0 34) := by
    unfold edv
    rw [a2]
  exact ⟨σ', a1, by rw [e, a4, a3.2.1], a6⟩
theorem edM {n r w : Nat} {σ τs τ : M2} {fu' : Nat} {W : Nat → Int32} {J : Int32} (h : RD n r w σ τ) (h0 : RD n r w σ τs) (hW : ∀ q, q < 8 → τ 18 q = W q) (hJ : τ 0 34 = J) (h35 : τ 0 35 = 0) (hfu' : 161 < fu') :
    ∃ τ', F12_goes_60 fu' 0 τ = some ((), τ') ∧ (τ' 0 35, τ' 0 34) = edv fu' τs W J ∧ Fr eM τ τ' := by
  have h1 : RD n r w (mkC σ W J) τ := h.fr mkC_fr Fr.rf
  have hD : DSd (mkC σ W J 41 9 - τ 0 36) (mkC σ W J) τ := ⟨fun q hq => by rw [hW q hq, mkC_42], by rw [hJ, mkC_8], shf _ _⟩
  obtain ⟨σ', τ', a1, a2, a3, a4, a5, a6, a7⟩ := endD (fu := fu') (fu' := fu') h1 hD h35 hfu' hfu'
  obtain ⟨σ'', b1, b2, -⟩ := edC (fu := fu') (fu' := fu') (W := W) (J := J) (h0.fr mkC_fr Fr.rf) (fun q _ => mkC_42) mkC_8 hfu' hfu'
  rw [a1] at b1
  obtain ⟨-, rfl⟩ := s2_inj b1
  exact ⟨τ', a2, by rw [← b2, a4, a3.2.1], a7⟩
/-- the first k races of an order -/
def wjn (fu' : Nat) (τs : M2) (p : Nat → Nat) : Nat → (Nat → Int32) × Int32
  | 0 => (fun _ => 0, 0)
  | k + 1 => stp fu' τs (p k) (wjn fu' τs p k).1 (wjn fu' τs p k).2
theorem wjn_ext {fu' : Nat} {τs : M2} {p p' : Nat → Nat} : ∀ k, (∀ i, i < k → p i = p' i) → wjn fu' τs p k = wjn fu' τs p' k
  | 0, _ => rfl
  | k + 1, h => by
    unfold wjn
    rw [h k (by omega), wjn_ext k (fun i hi => h i (by omega))]
def rsl (fu' : Nat) (τs : M2) (p : Nat → Nat) (r : Nat) : Int32 × Int32 := edv fu' τs (wjn fu' τs p r).1 (wjn fu' τs p r).2
theorem goesP {n r w : Nat} {σ τs τ : M2} {fu' : Nat} {p : Nat → Nat} (h : RD n r w σ τ) (h0 : RD n r w σ τs) (hp : ∀ k, k < r → p k < r) (hturn : ∀ k, k < r → τ 22 k = nI (p k)) (hdrop : τ 0 39 = -1) (hfu' : 161 < fu') :
    ∃ τ', F12_goes fu' τ = some ((), τ') ∧ (τ' 0 35, τ' 0 34) = rsl fu' τs p r ∧ Fr dM τ τ' := by
  have hr6 : r ≤ 6 := h.2.1
  have hg0 : Fr dM τ (up (up (up (zw τ 18) 0 34 (0 : Int32)) 0 35 (0 : Int32)) 0 36 (0 : Int32)) := fun o k q => by
    rw [up_ne (fun e => q (Or.inr (by omega))), up_ne (fun e => q (Or.inr (by omega))), up_ne (fun e => q (Or.inr (by omega))), zw_ne (fun e => q (Or.inl (by omega)))]
  have key : ∃ q, F12_goes fu' τ = some q ∧ ((q.2 0 35, q.2 0 34) = rsl fu' τs p r ∧ Fr dM τ q.2) := by
    unfold F12_goes
    rw [begins_eq (by omega), bnd_s]
    unfold F12_goes_21
    refine sl1 (R := Unit × M2) (fun q x1 s => ∃ k, q = r - k ∧ k ≤ r ∧ x1 = nI k ∧ (∀ q, q < 8 → s 18 q = (wjn fu' τs p k).1 q) ∧ s 0 34 = (wjn fu' τs p k).2 ∧ s 0 35 = 0 ∧ Fr dM τ s) (fun q => (q.2 0 35, q.2 0 34) = rsl fu' τs p r ∧ Fr dM τ q.2) ?_ r fu' 0 _ (by omega) ⟨0, rfl, by omega, rfl, fun q hq => ?_, ?_, ?_, hg0⟩
    · intro k21 q x1 s hI
      obtain ⟨k, rfl, hk, rfl, hW, hJ, h35, hg⟩ := hI
      have h' : RD n r w σ s := h.fr Fr.rf hg
      rw [h'.2.2.2.2.2.2.1]
      by_cases hkr : r ≤ k
      · left
        obtain rfl : k = r := by omega
        rw [if_pos (nI_le (Nat.le_refl _) (by omega))]
        obtain ⟨τ', a1, a2, a3⟩ := edM h' h0 hW hJ h35 hfu'
        exact ⟨_, a1, a2, hg.tr (a3.mono fun _ _ => eM_dM)⟩
      · right
        have hpk := hp k (by omega)
        have e22 : s 22 k = nI (p k) := by rw [hg 22 k (dM_no (by omega))]; exact hturn k (by omega)
        have e39 : s 0 39 = -1 := by rw [hg 0 39 (dM_no (by omega))]; exact hdrop
        obtain ⟨τ', a1, a2, a3, a4⟩ := stpM h' h0 hpk hW hJ hfu'
        rw [if_neg (nI_ge (by omega) (by omega)), gd_t (inb_t (N := 6) (by omega) (by omega)), nI_c (by omega), e22, e39, if_neg (nI_nm1 (by omega)), a1, bnd_s]
        unfold F12_goes_52
        exact ⟨r - (k + 1), _, _, by omega, ⟨k + 1, rfl, by omega, by rw [nI_1], a2, a3, by rw [a4 0 35 (by unfold gM lM sM; omega)]; exact h35, hg.tr (a4.mono fun _ _ => gM_dM)⟩, rfl⟩
    · rw [up_ne (by omega), up_ne (by omega), up_ne (by omega), zw_at hq]; rfl
    · rw [up_ne (by omega), up_ne (by omega), up_eq]; rfl
    · rw [up_ne (by omega), up_eq]
  obtain ⟨⟨⟨⟩, τ'⟩, k1, k2, k3⟩ := key
  exact ⟨τ', k1, k2, k3⟩
/-- the best so far, and a day weighed -/
def wgh (b : Int32 × Int32 × Int32) (x : Int32) (v : Int32 × Int32) : Int32 × Int32 × Int32 := if v.1 < b.2.1 then (x, v.1, v.2) else if v.1 = b.2.1 then if v.2 ≤ b.2.2 then b else (x, v.1, v.2) else b
def bC (σ : M2) : Int32 × Int32 × Int32 := (σ 47 0, σ 47 1, σ 47 2)
def bM (τ : M2) : Int32 × Int32 × Int32 := (τ 0 40, τ 0 41, τ 0 42)
theorem wghC {x : Int32} {σ : M2} : ∃ σ', F0_weigh x σ = some ((), σ') ∧ bC σ' = wgh (bC σ) x (σ 41 10, σ 41 8) ∧ Fr (fun o _ => o = 47) σ σ' := by
  obtain ⟨σ', t1, t2, t3, t4, t5⟩ := take_eq (x := x) (σ := σ)
  unfold F0_weigh F0_weigh_33
  rw [t1, bnd_s]
  have eb : bC σ' = (x, σ 41 10, σ 41 8) := by unfold bC; rw [t2, t3, t4]
  by_cases c0 : σ 41 10 < σ 47 1
  · rw [if_pos c0]
    refine ⟨_, rfl, ?_, t5⟩
    rw [eb]
    exact (if_pos c0).symm
  rw [if_neg c0]
  have e0 : wgh (bC σ) x (σ 41 10, σ 41 8) = if σ 41 10 = σ 47 1 then if σ 41 8 ≤ σ 47 2 then bC σ else (x, σ 41 10, σ 41 8) else bC σ := if_neg c0
  rw [e0]
  by_cases c1 : σ 41 10 = σ 47 1
  · rw [if_pos c1, if_pos c1]
    by_cases c2 : σ 41 8 ≤ σ 47 2
    · rw [if_pos c2, if_pos c2]; exact ⟨_, rfl, rfl, Fr.rf⟩
    · rw [if_neg c2, if_neg c2]; exact ⟨_, rfl, eb, t5⟩
  · rw [if_neg c1, if_neg c1]; exact ⟨_, rfl, rfl, Fr.rf⟩
theorem wghM {x : Int32} {τ τ1 : M2} {fu' : Nat} (hg : F12_goes fu' τ = some ((), τ1)) : ∃ τ', F12_tried fu' x τ = some ((), τ') ∧ bM τ' = wgh (bM τ1) x (τ1 0 35, τ1 0 34) ∧ Fr (fun o k => o = 0 ∧ 40 ≤ k ∧ k ≤ 42) τ1 τ' := by
  have hM : ∃ τ', F12_tried_37 fu' x τ1 = some ((), τ') ∧ bM τ' = (x, τ1 0 35, τ1 0 34) ∧ Fr (fun o k => o = 0 ∧ 40 ≤ k ∧ k ≤ 42) τ1 τ' := by
    refine ⟨_, rfl, ?_, fun o k h => ?_⟩
    · unfold bM; simp [up_at]
    · have h : ¬ (o = 0 ∧ 40 ≤ k ∧ k ≤ 42) := h
      rw [up_ne (by omega), up_ne (by omega), up_ne (by omega)]
  obtain ⟨τ', m1, eb, m5⟩ := hM
  unfold F12_tried
  rw [hg, bnd_s]
  by_cases c0 : τ1 0 35 < τ1 0 41
  · rw [if_pos c0]
    refine ⟨_, m1, ?_, m5⟩
    rw [eb]
    exact (if_pos c0).symm
  rw [if_neg c0]
  have e0 : wgh (bM τ1) x (τ1 0 35, τ1 0 34) = if τ1 0 35 = τ1 0 41 then if τ1 0 34 ≤ τ1 0 42 then bM τ1 else (x, τ1 0 35, τ1 0 34) else bM τ1 := if_neg c0
  rw [e0]
  by_cases c1 : τ1 0 35 = τ1 0 41
  · rw [if_pos c1, if_pos c1]
    by_cases c2 : τ1 0 34 ≤ τ1 0 42
    · rw [if_pos c2, if_pos c2]; exact ⟨_, rfl, rfl, Fr.rf⟩
    · rw [if_neg c2, if_neg c2]; exact ⟨_, m1, eb, m5⟩
  · rw [if_neg c1, if_neg c1]; exact ⟨_, rfl, rfl, Fr.rf⟩
end
