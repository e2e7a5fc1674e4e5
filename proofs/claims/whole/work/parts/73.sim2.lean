section
/-! both readers side by side: each level -/
section SIM2
variable {f : Nat → Int32} {s M t o fu C : Nat} {σ0 τ0 : M2}
def prT (mm : Int32) (c : Nat) : Prop := mm = 0 ∨ c ≠ 7
def prN (mm : Int32) (_c : Nat) : Prop := mm = 1
def ex1 (_c : Nat) (_p : List Nat) : Prop := True
def exT (c : Nat) (_p : List Nat) : Prop := c ≠ 42
def exS (c : Nat) (p : List Nat) : Prop := exT c p ∧ c ≠ 43 ∧ c ≠ 45
def exC (c : Nat) (p : List Nat) : Prop := exS c p ∧ ((c ≠ 60 ∧ c ≠ 61) ∨ ∃ p1 h p2, p = p1 ++ h :: p2 ∧ rkN h = 4 ∧ ∀ x, x ∈ p1 → 5 ≤ rkN x)
def exA (c : Nat) (p : List Nat) : Prop := exC c p ∧ c ≠ 6
def exE (c : Nat) (p : List Nat) : Prop := exA c p ∧ c ≠ 5
theorem exC_mono {c sg : Nat} {p : List Nat} (h : exC c p) : exC c (p ++ [sg]) := by
  refine ⟨h.1, ?_⟩
  rcases h.2 with h2 | ⟨p1, x, p2, h3, h4, h5⟩
  · exact Or.inl h2
  · exact Or.inr ⟨p1, x, p2 ++ [sg], by rw [h3, List.append_assoc]; rfl, h4, h5⟩
theorem seqSim {b : (Int32 → M2 → Option (Unit × M2)) → Int32 → M2 → Option (Unit × M2)} {inner : M2 → Option (Unit × M2)} {op : Nat → Option (Int32 × Nat)} {l lvI fl : Nat} {ex exI : Nat → List Nat → Prop} {pr : Int32 → Nat → Prop}
    (h : Env f s M t σ0 τ0) (hC : 161 < C) (hfu : 170 < fu) (hfl : 161 < fl) (ho5 : o ≤ 5)
    (hhit : ∀ k x2 σ c cc sg, σ 40 2 = nI c → op c = some (cc, sg) → ¬ (160 : Int32) ≤ x2 → b k x2 σ = bnd (F6_step σ) (fun _ s4 => bnd (inner s4) (fun _ s7 => bnd (F9_add (12 + 4 * t) cc s7) (fun _ s11 => k (x2 + 1) s11))))
    (hexit : ∀ k x2 σ c, σ 40 2 = nI c → c < 20000 → op c = none → b k x2 σ = some ((), σ))
    (hop : ∀ c cc sg, op c = some (cc, sg) → sgc c = some sg ∧ rkN sg = l ∧ l ≠ 4 ∧ crel cc (nI sg) ∧ (∀ d, 2 ≤ d → stk1 cc d = some (d - 1)) ∧ ∀ c', pr (mN sg) c')
    (hop0 : op 0 = none)
    (hex : ∀ c p, op c = none → exI c p → ex c p)
    (hmono : ∀ c p sg, exI c p → exI c (p ++ [sg]))
    (hin : SimR f s t fu C σ0 τ0 inner pr (l + 1) (l + 1) exI lvI o) :
    SimR f s t fu C σ0 τ0 (fun σ => bnd (inner σ) (fun _ s2 => wl1 b fl 0 s2)) pr l l ex (lvI + 1) o := by
  intro mm σ τ j g L O K h1 h2 h3 h4 h5
  rcases hin mm σ τ j g L O K h1 h2 h3 (fun x m e => by have := h4 x m e; omega) h5 with ⟨σ1, τ1, j1, m1, c1, c2, w, w0, p, g', d1, d2, d3, d4, d5, d6, d7, d8⟩ | ⟨σ1, τ1, k, c1, c2, c3, c4⟩
  · have hg : GD f s t σ0 τ0 l exI (lvI + 1) σ1 τ1 j j1 o L O K := ⟨w, w0, p, g', d1, d2, d3, fun x hx => by have := d4 x hx; omega, d5, d6, d7, fun d hd => d8 d (by omega)⟩
    have hloop := loopSim h hC hfu ho5 hhit hexit hop hop0 hex hmono hin (161 - j1) σ1 τ1 j1 m1 j L O K 0 fl rfl hg h4 h3 (by omega) (by omega)
    rcases hloop with ⟨σ', τ', j', m', e1, e2, e3⟩ | ⟨σ', τ', k, e1, e2, e3, e4⟩
    · left
      refine ⟨σ', τ', j', m', ?_, by rw [c2, e2], e3⟩
      show bnd (inner σ) _ = _
      rw [c1, bnd_s]
      exact e1
    · right
      refine ⟨σ', τ', k, ?_, e2, by rw [c2, e3], e4⟩
      show bnd (inner σ) _ = _
      rw [c1, bnd_s]
      exact e1
  · right
    obtain ⟨fl, rfl⟩ : ∃ q, fl = q + 1 := ⟨fl - 1, by omega⟩
    refine ⟨σ1, τ1, k, ?_, c2, c3, c4⟩
    show bnd (inner σ) _ = _
    rw [c1, bnd_s]
    exact hexit (wl1 b fl) 0 σ1 0 (by rw [c2.2.1]; rfl) (by omega) hop0
/-! * + - and or -/
theorem bin_ok : ∀ cc : Int32, cc = -9 ∨ cc = -10 ∨ cc = -11 ∨ cc = -12 ∨ cc = -13 ∨ cc = -14 ∨ cc = -15 → ∀ d, 2 ≤ d → stk1 cc d = some (d - 1) := by
  intro cc hcc d hd
  unfold stk1
  rcases hcc with rfl | rfl | rfl | rfl | rfl | rfl | rfl <;> rw [if_neg (by decide), if_neg (by decide), if_pos hd]
def opT (c : Nat) : Option (Int32 × Nat) := if c = 42 then some (-9, 18) else none
def opS (c : Nat) : Option (Int32 × Nat) := if c = 43 then some (-10, 16) else if c = 45 then some (-11, 17) else none
def opA (c : Nat) : Option (Int32 × Nat) := if c = 6 then some (-14, 12) else none
def opE (c : Nat) : Option (Int32 × Nat) := if c = 5 then some (-15, 11) else none
theorem opT_1 {c sg : Nat} {cc : Int32} (h : opT c = some (cc, sg)) : c = 42 ∧ cc = -9 ∧ sg = 18 := by
  unfold opT at h
  by_cases z : c = 42
  · rw [if_pos z] at h
    obtain ⟨h1, h2⟩ := s2_inj h
    exact ⟨z, h1.symm, h2.symm⟩
  · rw [if_neg z] at h; cases h
theorem opA_1 {c sg : Nat} {cc : Int32} (h : opA c = some (cc, sg)) : c = 6 ∧ cc = -14 ∧ sg = 12 := by
  unfold opA at h
  by_cases z : c = 6
  · rw [if_pos z] at h
    obtain ⟨h1, h2⟩ := s2_inj h
    exact ⟨z, h1.symm, h2.symm⟩
  · rw [if_neg z] at h; cases h
theorem opE_1 {c sg : Nat} {cc : Int32} (h : opE c = some (cc, sg)) : c = 5 ∧ cc = -15 ∧ sg = 11 := by
  unfold opE at h
  by_cases z : c = 5
  · rw [if_pos z] at h
    obtain ⟨h1, h2⟩ := s2_inj h
    exact ⟨z, h1.symm, h2.symm⟩
  · rw [if_neg z] at h; cases h
theorem opS_1 {c sg : Nat} {cc : Int32} (h : opS c = some (cc, sg)) : (c = 43 ∧ cc = -10 ∧ sg = 16) ∨ (c = 45 ∧ cc = -11 ∧ sg = 17) := by
  unfold opS at h
  by_cases z : c = 43
  · rw [if_pos z] at h
    obtain ⟨h1, h2⟩ := s2_inj h
    exact Or.inl ⟨z, h1.symm, h2.symm⟩
  · rw [if_neg z] at h
    by_cases z2 : c = 45
    · rw [if_pos z2] at h
      obtain ⟨h1, h2⟩ := s2_inj h
      exact Or.inr ⟨z2, h1.symm, h2.symm⟩
    · rw [if_neg z2] at h; cases h
theorem cr_9 : crel (-9) (nI 18) := by unfold crel; exact Or.inr (Or.inr (Or.inr (Or.inr (Or.inl ⟨rfl, rfl⟩))))
theorem cr_10 : crel (-10) (nI 16) := by unfold crel; exact Or.inr (Or.inr (Or.inr (Or.inr (Or.inr (Or.inl ⟨rfl, rfl⟩)))))
theorem cr_11 : crel (-11) (nI 17) := by unfold crel; exact Or.inr (Or.inr (Or.inr (Or.inr (Or.inr (Or.inr (Or.inl ⟨rfl, rfl⟩))))))
theorem cr_12 : crel (-12) (nI 14) := by unfold crel; exact Or.inr (Or.inr (Or.inr (Or.inr (Or.inr (Or.inr (Or.inr (Or.inl ⟨rfl, rfl⟩)))))))
theorem cr_13 : crel (-13) (nI 15) := by unfold crel; exact Or.inr (Or.inr (Or.inr (Or.inr (Or.inr (Or.inr (Or.inr (Or.inr (Or.inl ⟨rfl, rfl⟩))))))))
theorem cr_14 : crel (-14) (nI 12) := by unfold crel; exact Or.inr (Or.inr (Or.inr (Or.inr (Or.inr (Or.inr (Or.inr (Or.inr (Or.inr (Or.inl ⟨rfl, rfl⟩)))))))))
theorem cr_15 : crel (-15) (nI 11) := by unfold crel; exact Or.inr (Or.inr (Or.inr (Or.inr (Or.inr (Or.inr (Or.inr (Or.inr (Or.inr (Or.inr ⟨rfl, rfl⟩)))))))))
theorem cr_7 : crel (-7) (nI 19) := by unfold crel; exact Or.inr (Or.inr (Or.inl ⟨rfl, rfl⟩))
theorem cr_8 : crel (-8) (nI 13) := by unfold crel; exact Or.inr (Or.inr (Or.inr (Or.inl ⟨rfl, rfl⟩)))
theorem tok_ne {c d : Nat} {x : Int32} (hx : x = nI c) (hc : c < 20000) (hd : d < 20000) (h : c ≠ d) : ¬ x = nI d := by
  rw [hx]
  exact nI_eqI (by omega) (by omega) h
theorem termSim {rc : Nat → Nat → M2 → Option (Unit × M2)} (h : Env f s M t σ0 τ0) (hC : 161 < C) (hfu : 170 < fu) {fl : Nat} (hfl : 161 < fl) (ho5 : o ≤ 5) (hin : SimR f s t fu C σ0 τ0 (F6_readOne rc (12 + 4 * t)) prT 7 7 ex1 1 o) : SimR f s t fu C σ0 τ0 (F6_readTerm rc fl (12 + 4 * t)) prT 6 6 exT 2 o := by
  obtain ⟨a1, -⟩ := tx_at h.2.1
  refine seqSim (op := opT) (inner := F6_readOne rc (12 + 4 * t)) (l := 6) (lvI := 1) (exI := ex1) h hC hfu hfl ho5 (fun k x2 σ c cc sg e1 e2 e3 => ?_) (fun k x2 σ c e1 e2 e3 => ?_) (fun c cc sg e => ?_) (by decide) (fun c p e _ => ?_) (fun _ _ _ z => z) hin
  · obtain ⟨rfl, rfl, rfl⟩ := opT_1 e2
    rw [if_neg e3, if_pos (by rw [e1]; rfl)]
    simp only [gd_t (isO_t a1)]
  · have hne : c ≠ 42 := fun z => by rw [z] at e3; cases e3
    by_cases z : (160 : Int32) ≤ x2
    · rw [if_pos z]
    · rw [if_neg z, if_neg (show ¬ σ 40 2 = (42 : Int32) from tok_ne (d := 42) e1 e2 (by omega) hne)]
  · obtain ⟨rfl, rfl, rfl⟩ := opT_1 e
    exact ⟨rfl, rfl, by decide, cr_9, bin_ok _ (Or.inl rfl), fun _ => Or.inl rfl⟩
  · exact fun z => by rw [z] at e; cases e
theorem sumSim {rc : Nat → Nat → M2 → Option (Unit × M2)} (h : Env f s M t σ0 τ0) (hC : 161 < C) (hfu : 170 < fu) {fl : Nat} (hfl : 161 < fl) (ho5 : o ≤ 5) (hin : SimR f s t fu C σ0 τ0 (F6_readTerm rc fl (12 + 4 * t)) prT 6 6 exT 2 o) : SimR f s t fu C σ0 τ0 (F6_readSum rc fl (12 + 4 * t)) prT 5 5 exS 3 o := by
  obtain ⟨a1, -⟩ := tx_at h.2.1
  refine seqSim (op := opS) (inner := F6_readTerm rc fl (12 + 4 * t)) (l := 5) (lvI := 2) (exI := exT) h hC hfu hfl ho5 (fun k x2 σ c cc sg e1 e2 e3 => ?_) (fun k x2 σ c e1 e2 e3 => ?_) (fun c cc sg e => ?_) (by decide) (fun c p e z => ?_) (fun _ _ _ z => z) hin
  · rcases opS_1 e2 with ⟨rfl, rfl, rfl⟩ | ⟨rfl, rfl, rfl⟩
    · rw [if_neg e3, if_pos (by rw [e1]; rfl)]
      unfold F6_readSum_32 F6_readSum_48
      rw [if_pos (by rw [e1]; rfl)]
      simp only [gd_t (isO_t a1)]
    · rw [if_neg e3, if_neg (by rw [e1]; decide), if_pos (by rw [e1]; rfl)]
      unfold F6_readSum_32 F6_readSum_48
      rw [if_neg (by rw [e1]; decide)]
      simp only [gd_t (isO_t a1)]
  · have hne : c ≠ 43 := fun z => by rw [z] at e3; cases e3
    have hne2 : c ≠ 45 := fun z => by rw [z] at e3; cases e3
    by_cases z : (160 : Int32) ≤ x2
    · rw [if_pos z]
    · rw [if_neg z, if_neg (show ¬ σ 40 2 = (43 : Int32) from tok_ne (d := 43) e1 e2 (by omega) hne), if_neg (show ¬ σ 40 2 = (45 : Int32) from tok_ne (d := 45) e1 e2 (by omega) hne2)]
  · rcases opS_1 e with ⟨rfl, rfl, rfl⟩ | ⟨rfl, rfl, rfl⟩
    · exact ⟨rfl, rfl, by decide, cr_10, bin_ok _ (Or.inr (Or.inl rfl)), fun _ => Or.inl rfl⟩
    · exact ⟨rfl, rfl, by decide, cr_11, bin_ok _ (Or.inr (Or.inr (Or.inl rfl))), fun _ => Or.inl rfl⟩
  · exact ⟨z, (fun z => by rw [z] at e; cases e), (fun z => by rw [z] at e; cases e)⟩
theorem andSim {rc : Nat → Nat → M2 → Option (Unit × M2)} (h : Env f s M t σ0 τ0) (hC : 161 < C) (hfu : 170 < fu) {fl : Nat} (hfl : 161 < fl) (ho5 : o ≤ 5) (hin : SimR f s t fu C σ0 τ0 (F6_readNot rc fl (12 + 4 * t)) prN 3 3 exC 4 o) : SimR f s t fu C σ0 τ0 (F6_readAnd rc fl (12 + 4 * t)) prN 2 2 exA 5 o := by
  obtain ⟨a1, -⟩ := tx_at h.2.1
  refine seqSim (op := opA) (inner := F6_readNot rc fl (12 + 4 * t)) (l := 2) (lvI := 4) (exI := exC) h hC hfu hfl ho5 (fun k x2 σ c cc sg e1 e2 e3 => ?_) (fun k x2 σ c e1 e2 e3 => ?_) (fun c cc sg e => ?_) (by decide) (fun c p e z => ?_) (fun _ _ _ z => exC_mono z) hin
  · obtain ⟨rfl, rfl, rfl⟩ := opA_1 e2
    rw [if_neg e3, if_pos (by rw [e1]; rfl)]
    simp only [gd_t (isO_t a1)]
  · have hne : c ≠ 6 := fun z => by rw [z] at e3; cases e3
    by_cases z : (160 : Int32) ≤ x2
    · rw [if_pos z]
    · rw [if_neg z, if_neg (show ¬ σ 40 2 = (6 : Int32) from tok_ne (d := 6) e1 e2 (by omega) hne)]
  · obtain ⟨rfl, rfl, rfl⟩ := opA_1 e
    exact ⟨rfl, rfl, by decide, cr_14, bin_ok _ (by decide), fun _ => rfl⟩
  · exact ⟨z, fun z => by rw [z] at e; cases e⟩
theorem eSim {rc : Nat → Nat → M2 → Option (Unit × M2)} (h : Env f s M t σ0 τ0) (hC : 161 < C) (hfu : 170 < fu) {fl : Nat} (hfl : 161 < fl) (ho5 : o ≤ 5) (hin : SimR f s t fu C σ0 τ0 (F6_readAnd rc fl (12 + 4 * t)) prN 2 2 exA 5 o) : SimR f s t fu C σ0 τ0 (F6_readE rc fl (12 + 4 * t)) prN 1 1 exE 6 o := by
  obtain ⟨a1, -⟩ := tx_at h.2.1
  refine seqSim (op := opE) (inner := F6_readAnd rc fl (12 + 4 * t)) (l := 1) (lvI := 5) (exI := exA) h hC hfu hfl ho5 (fun k x2 σ c cc sg e1 e2 e3 => ?_) (fun k x2 σ c e1 e2 e3 => ?_) (fun c cc sg e => ?_) (by decide) (fun c p e z => ?_) (fun _ _ _ z => ⟨exC_mono z.1, z.2⟩) hin
  · obtain ⟨rfl, rfl, rfl⟩ := opE_1 e2
    rw [if_neg e3, if_pos (by rw [e1]; rfl)]
    simp only [gd_t (isO_t a1)]
  · have hne : c ≠ 5 := fun z => by rw [z] at e3; cases e3
    by_cases z : (160 : Int32) ≤ x2
    · rw [if_pos z]
    · rw [if_neg z, if_neg (show ¬ σ 40 2 = (5 : Int32) from tok_ne (d := 5) e1 e2 (by omega) hne)]
  · obtain ⟨rfl, rfl, rfl⟩ := opE_1 e
    exact ⟨rfl, rfl, by decide, cr_15, bin_ok _ (by decide), fun _ => rfl⟩
  · exact ⟨z, fun z => by rw [z] at e; cases e⟩
end SIM2
end
