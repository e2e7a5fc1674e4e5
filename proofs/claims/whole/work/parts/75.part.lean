section
/-! a part of a text -/
section PRT
variable {f : Nat → Int32} {s M t fu C : Nat} {σ0 τ0 σ : M2}
theorem wl1_1 {A0 R : Type} {b : (A0 → M2 → Option R) → A0 → M2 → Option R} {n : Nat} {a : A0} {u : M2} : wl1 b (n + 1) a u = b (wl1 b n) a u := rfl
/-! behind a fault the class's readers do nothing that shows -/
theorem oneF {rc : Nat → Nat → M2 → Option (Unit × M2)} {k : Nat} (h : Env f s M t σ0 τ0) (hc : CF f s t σ0 σ k) : ∃ σ', F6_readOne rc (12 + 4 * t) σ = some ((), σ') ∧ CF f s t σ0 σ' k := by
  obtain ⟨σ', a1, a2⟩ := failF h hc
  unfold F6_readOne
  rw [hc.2.1, if_pos (by decide), if_pos (by decide), if_neg (by decide), if_neg (by decide), a1, bnd_s]
  exact ⟨σ', rfl, a2⟩
theorem termF {rc : Nat → Nat → M2 → Option (Unit × M2)} {k fl : Nat} (h : Env f s M t σ0 τ0) (hc : CF f s t σ0 σ k) : ∃ σ', F6_readTerm rc (fl + 1) (12 + 4 * t) σ = some ((), σ') ∧ CF f s t σ0 σ' k := by
  obtain ⟨σ', a1, a2⟩ := oneF (rc := rc) h hc
  unfold F6_readTerm F6_readTerm_7
  rw [a1, bnd_s]
  refine ⟨σ', ?_, a2⟩
  rw [wl1_1, if_neg (show ¬ (160 : Int32) ≤ 0 by decide), a2.2.1, if_neg (by decide)]
theorem sumF {rc : Nat → Nat → M2 → Option (Unit × M2)} {k fl : Nat} (h : Env f s M t σ0 τ0) (hc : CF f s t σ0 σ k) : ∃ σ', F6_readSum rc (fl + 1) (12 + 4 * t) σ = some ((), σ') ∧ CF f s t σ0 σ' k := by
  obtain ⟨σ', a1, a2⟩ := termF (rc := rc) (fl := fl) h hc
  unfold F6_readSum F6_readSum_7
  rw [a1, bnd_s]
  refine ⟨σ', ?_, a2⟩
  rw [wl1_1, if_neg (show ¬ (160 : Int32) ≤ 0 by decide), a2.2.1, if_neg (by decide), if_neg (by decide)]
theorem cmpF {rc : Nat → Nat → M2 → Option (Unit × M2)} {k fl : Nat} (h : Env f s M t σ0 τ0) (hc : CF f s t σ0 σ k) : ∃ σ', F6_readComparison rc (fl + 1) (12 + 4 * t) σ = some ((), σ') ∧ CF f s t σ0 σ' k := by
  obtain ⟨σ', a1, a2⟩ := sumF (rc := rc) (fl := fl) h hc
  unfold F6_readComparison
  rw [a1, bnd_s, a2.2.1, if_neg (by decide), if_neg (by decide)]
  exact ⟨σ', rfl, a2⟩
theorem notF {rc : Nat → Nat → M2 → Option (Unit × M2)} {k fl : Nat} (h : Env f s M t σ0 τ0) (hc : CF f s t σ0 σ k) : ∃ σ', F6_readNot rc (fl + 1) (12 + 4 * t) σ = some ((), σ') ∧ CF f s t σ0 σ' k := by
  obtain ⟨σ', a1, a2⟩ := cmpF (rc := rc) (fl := fl) h hc
  unfold F6_readNot
  rw [hc.2.1, if_neg (by decide), a1, bnd_s]
  exact ⟨σ', rfl, a2⟩
theorem andF {rc : Nat → Nat → M2 → Option (Unit × M2)} {k fl : Nat} (h : Env f s M t σ0 τ0) (hc : CF f s t σ0 σ k) : ∃ σ', F6_readAnd rc (fl + 1) (12 + 4 * t) σ = some ((), σ') ∧ CF f s t σ0 σ' k := by
  obtain ⟨σ', a1, a2⟩ := notF (rc := rc) (fl := fl) h hc
  unfold F6_readAnd F6_readAnd_7
  rw [a1, bnd_s]
  refine ⟨σ', ?_, a2⟩
  rw [wl1_1, if_neg (show ¬ (160 : Int32) ≤ 0 by decide), a2.2.1, if_neg (by decide)]
theorem eF {rc : Nat → Nat → M2 → Option (Unit × M2)} {k fl : Nat} (h : Env f s M t σ0 τ0) (hc : CF f s t σ0 σ k) : ∃ σ', F6_readE rc (fl + 1) (12 + 4 * t) σ = some ((), σ') ∧ CF f s t σ0 σ' k := by
  obtain ⟨σ', a1, a2⟩ := andF (rc := rc) (fl := fl) h hc
  unfold F6_readE F6_readE_7
  rw [a1, bnd_s]
  refine ⟨σ', ?_, a2⟩
  rw [wl1_1, if_neg (show ¬ (160 : Int32) ≤ 0 by decide), a2.2.1, if_neg (by decide)]
theorem endPartC {p z : Nat} (ht : t < 6) (hp : p < 3) (hz : σ (12 + 4 * t) 3 = nI z) : F9_endPart (12 + 4 * t) (nI p) σ = some ((), up σ (14 + 4 * t) p (nI z)) := by
  obtain ⟨a1, a2, a3, a4, a5⟩ := tx_at ht
  unfold F9_endPart
  rw [gd_t (isO_t a1), a5, hz, fset a4 hp (by omega), bnd_s]
/-- what a fault in a part leaves in the class -/
def CG (f : Nat → Int32) (s t : Nat) (σ0 σ : M2) (k : Nat) : Prop := σ 40 4 = nI (Pn f s k) ∧ σ 40 2 = 0 ∧ (∃ z : Nat, z ≤ 160 ∧ σ (12 + 4 * t) 3 = nI z) ∧ Fr (fun o k => wC t o k ∨ o = 14 + 4 * t) σ0 σ
theorem tailF {k p : Nat} (h : Env f s M t σ0 τ0) (hp : p < 3) (hc : CF f s t σ0 σ k) : ∃ σ', bnd (F6_expect (59 : Int32) σ) (fun _ s8 => gd (isO csh (12 + 4 * t) 8 5) (bnd (F9_endPart (12 + 4 * t) (nI p) s8) (fun _ s12 => some ((), s12)))) = some ((), σ') ∧ CG f s t σ0 σ' k := by
  obtain ⟨a1, -⟩ := tx_at h.2.1
  have ht := h.2.1
  obtain ⟨σ1, b1, ⟨h1, h2, ⟨z, h3, h4⟩, h5⟩⟩ := expectF (x := 59) h hc (by decide)
  rw [b1, bnd_s, gd_t (isO_t a1), endPartC h.2.1 hp h4, bnd_s]
  exact ⟨_, rfl, by rw [up_ne (by omega)]; exact h1, by rw [up_ne (by omega)]; exact h2, ⟨z, h3, by rw [up_ne (by omega)]; exact h4⟩, (h5.mono fun o k q => Or.inl q).up (Or.inr rfl)⟩
theorem partF {k p fl : Nat} {x : Int32} (h : Env f s M t σ0 τ0) (hp : p < 3) (hx : ¬ (0 : Int32) = x) (hc : CF f s t σ0 σ k) : ∃ σ', F6_readPart (fl + 1) (12 + 4 * t) x (nI p) σ = some ((), σ') ∧ CG f s t σ0 σ' k := by
  obtain ⟨σ1, a1, a2⟩ := expectF h hc hx
  obtain ⟨σ2, b1, b2⟩ := eF (rc := F6_grp (fl + 1) 7) (fl := fl) h a2
  unfold F6_readPart
  rw [a1, bnd_s, b1, bnd_s]
  exact tailF h hp b2
theorem CG.cf {k : Nat} (h : CG f s t σ0 σ k) : CF f s t σ σ k := ⟨h.1, h.2.1, h.2.2.1, Fr.rf⟩
theorem CS.base {j o : Nat} {L : List Int32} (h : CS f s t σ0 σ j o L) : CS f s t σ σ j o L := ⟨h.1, h.2.1, h.2.2.1, h.2.2.2.1, h.2.2.2.2.1, h.2.2.2.2.2.1, h.2.2.2.2.2.2.1, h.2.2.2.2.2.2.2.1, Fr.rf⟩
def PS (f : Nat → Int32) (s t : Nat) (τ : M2) (j : Nat) (O : List Nat) : Prop := τ 0 19 = nI (An f s j) ∧ τ 0 27 = nI O.length ∧ (∀ i, i < O.length → τ 6 (200 * t + i) = nI (O.getD i 0)) ∧ O.length ≤ j ∧ j ≤ 161
def wM7 (t o k : Nat) : Prop := wM t o k ∨ (o = 7 ∧ 4 * t ≤ k ∧ k < 4 * t + 4)
/-- the loop's body of the reference's text() -/
def body26 (fu : Nat) : (Int32 → Int32 → M2 → Option (Int32 × M2)) → Int32 → Int32 → M2 → Option (Int32 × M2) := fun k26 x1 x2 σ => if (3 : Int32) ≤ x2 then F12_text_101 fu x1 σ else if x1 = 0 then F12_text_101 fu x1 σ else bnd (F12_next fu σ) (fun r3 s4 => if (s4 0 21) = (3 : Int32) then if (s4 0 22) = x2 then F12_text_60 fu k26 x2 (1 : Int32) s4 else F12_text_59 fu k26 x2 s4 else F12_text_59 fu k26 x2 s4)
theorem text26 {x1 x2 : Int32} {τ : M2} : F12_text_26 fu x1 x2 τ = wl2 (body26 fu) fu x1 x2 τ := rfl
theorem partSim {p j : Nat} {τ : M2} {L : List Int32} {O : List Nat} {k26 : Int32 → Int32 → M2 → Option (Int32 × M2)} (h : Env f s M t σ τ) (hp : p < 3) (hc : CS f s t σ σ j 0 L) (hm : PS f s t τ j O) (hL : L.length ≤ j) (hfu : 170 < fu) {fl : Nat} (hfl : 170 < fl) :
    (∃ σ' τ' j' w w0, F6_readPart fl (12 + 4 * t) (nI (2 + p)) (nI p) σ = some ((), σ') ∧ CS f s t σ' σ' j' 0 (L ++ w) ∧ σ' (14 + 4 * t) p = nI (L ++ w).length ∧ (∀ q, q ≠ p → σ' (14 + 4 * t) q = σ (14 + 4 * t) q) ∧ Fr (fun o k => wC t o k ∨ o = 14 + 4 * t) σ σ' ∧ body26 fu k26 1 (nI p) τ = k26 1 (nI (p + 1)) τ' ∧ PS f s t τ' j' (O ++ w0) ∧ LR w w0 ∧ skL w 0 = some 1 ∧ τ' 7 (4 * t + p) = nI O.length ∧ (∀ q, q ≠ p → τ' 7 (4 * t + q) = τ 7 (4 * t + q)) ∧ (L ++ w).length ≤ j' ∧ Fr (wM7 t) τ τ') ∨
    (∃ σ' τ' k, F6_readPart fl (12 + 4 * t) (nI (2 + p)) (nI p) σ = some ((), σ') ∧ CG f s t σ σ' k ∧ body26 fu k26 1 (nI p) τ = k26 0 (nI (p + 1)) τ' ∧ τ' 0 20 = nI (Pn f s k) ∧ Fr (wM7 t) τ τ') := by
  obtain ⟨hs, ht, hTok, h363, h07, h5, h14, h010⟩ := id h
  obtain ⟨m1, m2, m3, m4, m5⟩ := hm
  obtain ⟨x1, x2, x3, x4, x5⟩ := tx_at ht
  have hTk := Tn_ok (f := f) (s := s) (j := j)
  obtain ⟨τ1, a1, a2, a3, a4, a5, a6⟩ := nextM (f := f) (s := s) (j := j) (τ := τ) (fu := fu) hs h07 h5 h14 m1 (by omega)
  have n0 : ∀ o k, ¬ nM o k → τ1 o k = τ o k := a6
  have nMw : ∀ o k, nM o k → wM7 t o k := fun o k z => Or.inl (Or.inl (by unfold nM at z; omega))
  have e10 : τ1 0 10 = nI t := by rw [n0 0 10 (by unfold nM; omega)]; exact h010
  have e27 : τ1 0 27 = nI O.length := by rw [n0 0 27 (by unfold nM; omega)]; exact m2
  have hb : body26 fu k26 1 (nI p) τ = if τ1 0 21 = (3 : Int32) then if τ1 0 22 = nI p then F12_text_60 fu k26 (nI p) (1 : Int32) τ1 else F12_text_59 fu k26 (nI p) τ1 else F12_text_59 fu k26 (nI p) τ1 := by
    unfold body26
    rw [if_neg (show ¬ (3 : Int32) ≤ nI p from nI_ge (b := 3) hp (by omega)), if_neg (show ¬ (1 : Int32) = 0 by decide), a1, bnd_s]
  obtain ⟨fl, rfl⟩ : ∃ q, fl = q + 1 := ⟨fl - 1, by omega⟩
  have f93 : ∀ τ' : M2, F12_text_93 fu k26 (nI p) τ' = k26 0 (nI (p + 1)) τ' := fun τ' => by
    unfold F12_text_93 F12_text_94
    rw [nI_1]
  by_cases hT : Tn f s j = 2 + p
  · have hj := h.lt (show Tn f s j ≠ 1 by omega)
    obtain ⟨σ1, b1, b2⟩ := expectC (c := 2 + p) h hc hT (by omega)
    have e22 : τ1 0 22 = nI p := by
      rw [a5.1 (by omega) (by omega), hT, Nat.add_sub_cancel_left]
    have e21 : τ1 0 21 = 3 := by rw [a4]; exact rt_3.mpr (by omega)
    -- the reference's start of the E
    have t7 : up τ1 7 (4 * t + p) (nI O.length) = up τ1 7 (4 * t + p) (nI O.length) := rfl
    have hτ3 : Fr (wM7 t) τ (up (up (up τ1 7 (4 * t + p) (nI O.length)) 0 25 0) 0 26 0) := ((Fr.mono a6 nMw).up (Or.inr ⟨rfl, by omega, by omega⟩) |>.up (Or.inl (Or.inl (by omega)))).up (Or.inl (Or.inl (by omega)))
    have r7 : ∀ q, (up (up (up τ1 7 (4 * t + p) (nI O.length)) 0 25 0) 0 26 0) 7 q = if q = 4 * t + p then nI O.length else τ 7 q := fun q => by
      rw [up_ne (by omega), up_ne (by omega)]
      by_cases z : q = 4 * t + p
      · rw [if_pos z, z, up_eq]
      · rw [if_neg z, up_ne (by omega), n0 7 q (by unfold nM; omega)]
    have hbod : body26 fu k26 1 (nI p) τ = bnd (EL fu fu 1 1 (up (up (up τ1 7 (4 * t + p) (nI O.length)) 0 25 0) 0 26 0)) (fun r3 s4 => if r3 = 0 then F12_text_93 fu k26 (nI p) s4 else F12_text_94 fu k26 (nI p) (1 : Int32) s4) := by
      rw [hb, e21, if_pos rfl, e22, if_pos rfl]
      unfold F12_text_60 F12_eRead
      rw [e10, rule_ix, gd_t (inb_t (N := 24) (by omega) (by omega)), if_neg (by decide), nI_c (by omega), e27, EL_0]
    have h3 : Env f s M t σ (up (up (up τ1 7 (4 * t + p) (nI O.length)) 0 25 0) 0 26 0) := by
      refine ⟨hs, ht, hTok, h363, ?_, fun q hq => ?_, fun q hq => ?_, ?_⟩
      · rw [up_ne (by omega), up_ne (by omega), up_ne (by omega), n0 0 7 (by unfold nM; omega)]; exact h07
      · rw [up_ne (by omega), up_ne (by omega), up_ne (by omega), n0 5 q (by unfold nM; omega)]; exact h5 q hq
      · rw [up_ne (by omega), up_ne (by omega), up_ne (by omega), n0 14 q (by unfold nM; omega)]; exact h14 q hq
      · rw [up_ne (by omega), up_ne (by omega), up_ne (by omega)]; exact e10
    have hms : MS f s t (up (up (up τ1 7 (4 * t + p) (nI O.length)) 0 25 0) 0 26 0) (up (up (up τ1 7 (4 * t + p) (nI O.length)) 0 25 0) 0 26 0) (j + 1) (j + 1) (nI (Pn f s j)) [] 0 O := by
      refine ⟨?_, ?_, ?_, fun i hi => absurd hi (Nat.not_lt_zero i), up_eq, ?_, fun i hi => ?_, fun x hx => (by cases hx), ?_, by omega, Fr.rf⟩
      · rw [up_ne (by omega), up_ne (by omega), up_ne (by omega)]; exact a2
      · rw [up_ne (by omega), up_ne (by omega), up_ne (by omega)]; exact a3
      · rw [up_ne (by omega), up_eq]; rfl
      · rw [up_ne (by omega), up_ne (by omega), up_ne (by omega)]; exact e27
      · rw [up_ne (by omega), up_ne (by omega), up_ne (by omega), n0 6 _ (by unfold nM; omega)]; exact m3 i hi
      · show 0 + O.length ≤ j + 1
        omega
    generalize up (up (up τ1 7 (4 * t + p) (nI O.length)) 0 25 0) 0 26 0 = τ3 at *
    have htop := topSim (C := fu + (j + 1)) (fl := fl + 1) h3 (by omega) hfu (by omega) 1 σ1 τ3 (j + 1) (nI (Pn f s j)) L O [] b2 hms (by omega) (fun x m e => by cases e) rfl
    rw [Nat.add_sub_cancel] at htop
    unfold F6_readPart
    rw [b1, bnd_s, hbod]
    rcases htop with ⟨σ2, τ4, j2, mm, c1, c2, w, w0, p2, g, d1, d2, d3, d4, d5, d6, d7, d8⟩ | ⟨σ2, τ4, k, c1, c2, c3, c4⟩
    · rw [c1, bnd_s, c2]
      have hj2 : j2 ≤ 160 := d1.2.2.2.2.2.2.1
      have hTk2 := Tn_ok (f := f) (s := s) (j := j2)
      have hCj : fu + (j + 1) - j2 = fu + (j + 1) - (j2 + 1) + 1 := by omega
      rw [hCj]
      by_cases q1 : Tn f s j2 = 59
      · left
        obtain ⟨σ3, e1, e2⟩ := expectC (c := 59) h d1 q1 (by omega)
        have e1 : F6_expect 59 σ2 = some ((), σ3) := e1
        rw [List.append_nil] at d2
        obtain ⟨τ5, l1, l2⟩ := E_semi (q := fu + (j + 1) - (j2 + 1)) (m := mm) (o' := 0) h3 d2 q1 d4 rfl (by have := MS_bnd (K := []) (by rw [List.append_nil]; exact d2) (show 0 ≤ 10 by omega); omega) hfu
        have ez : σ3 (12 + 4 * t) 3 = nI (L ++ w).length := e2.2.2.2.2.1
        rw [e1, bnd_s, gd_t (isO_t x1), endPartC ht hp ez, bnd_s, l1, bnd_s, if_neg (by decide)]
        unfold F12_text_94
        rw [nI_1]
        obtain ⟨k1, k2, k3, k4, k5, k6, k7, k8, k9⟩ := e2
        have hwl : w.length = (w0 ++ p2).length := LR_len d3
        refine ⟨_, τ5, j2 + 1, w, w0 ++ p2, rfl, ⟨?_, ?_, ?_, ?_, ?_, fun i hi => ?_, k7, k8, Fr.rf⟩, up_eq, fun q hq => ?_, (k9.mono fun o k z => Or.inl z).up (Or.inr rfl), rfl, ⟨l2.1, ?_, fun i hi => ?_, ?_, by omega⟩, d3, ?_, ?_, fun q hq => ?_, ?_, ?_⟩
        · rw [up_ne (by omega)]; exact k1
        · rw [up_ne (by omega)]; exact k2
        · rw [up_ne (by omega)]; exact k3
        · rw [up_ne (by omega)]; exact k4
        · rw [up_ne (by omega)]; exact k5
        · rw [up_ne (by omega)]; exact k6 i hi
        · rw [up_ne (by omega), k9 _ _ (by unfold wC; omega)]
        · rw [← List.append_assoc]; exact l2.2.2.2.2.2.1
        · rw [← List.append_assoc] at hi ⊢
          exact l2.2.2.2.2.2.2.1 i hi
        · have := l2.2.2.2.2.2.2.2.2.1
          rw [← List.append_assoc]
          have h0 : ([] : List Nat).length = 0 := rfl
          omega
        · exact d8 0 (by omega)
        · rw [l2.2.2.2.2.2.2.2.2.2.2 7 _ (by unfold wM; omega), r7, if_pos rfl]
        · rw [l2.2.2.2.2.2.2.2.2.2.2 7 _ (by unfold wM; omega), r7, if_neg (by omega)]
        · rw [List.length_append]; omega
        · exact hτ3.tr (l2.2.2.2.2.2.2.2.2.2.2.mono fun o k z => Or.inl z)
      · right
        obtain ⟨σ3, e1, e2⟩ := expectN (x := 59) h d1 (show ¬ nI (Tn f s j2) = (59 : Int32) from nI_eqI (b := 59) (by have := hTk2.1; omega) (by omega) q1)
        have hF : ∃ τ', EL fu (fu + (j + 1) - (j2 + 1) + 1) 0 mm τ4 = some (0, τ') ∧ Flt f s t τ3 τ' j2 := by
          by_cases q2 : Tn f s j2 = 41
          · have hb5 := MS_bnd d2 (show 0 ≤ 10 by omega)
            rw [List.append_nil] at d2
            exact E_closeF (o' := 0) h3 d2 q2 d4 rfl hb5 hfu
          · exact endF h3 d2 d5 q2 q1 (by omega) hfu
        obtain ⟨τ5, l1, l2, l3⟩ := hF
        obtain ⟨z1, z2, ⟨z, z3, z4⟩, z5⟩ := e2
        rw [e1, bnd_s, gd_t (isO_t x1), endPartC ht hp z4, bnd_s, l1, bnd_s, if_pos rfl, f93]
        refine ⟨_, τ5, j2, rfl, ⟨by rw [up_ne (by omega)]; exact z1, by rw [up_ne (by omega)]; exact z2, ⟨z, z3, by rw [up_ne (by omega)]; exact z4⟩, (z5.mono fun o k q => Or.inl q).up (Or.inr rfl)⟩, rfl, l2, hτ3.tr (l3.mono fun o k z => Or.inl z)⟩
    · right
      obtain ⟨σ3, e1, e2⟩ := tailF h hp c2
      rw [c1, bnd_s, e1, c3, bnd_s, if_pos rfl, f93]
      exact ⟨σ3, τ4, k, rfl, e2, rfl, c4.1, hτ3.tr (c4.2.mono fun o k z => Or.inl z)⟩
  · right
    have hbod : body26 fu k26 1 (nI p) τ = F12_text_59 fu k26 (nI p) τ1 := by
      rw [hb]
      by_cases q1 : τ1 0 21 = (3 : Int32)
      · rw [if_pos q1, if_neg (fun z => ?_)]
        rw [a4] at q1
        have hr := rt_3.mp q1
        rw [a5.1 hr.1 hr.2] at z
        have := (nI_eq (by omega) (by omega)).mp z
        omega
      · rw [if_neg q1]
    obtain ⟨σ1, b1, b2⟩ := expectN (x := nI (2 + p)) h hc (nI_eqI (by have := hTk.1; omega) (by omega) hT)
    obtain ⟨σ2, d1, d2⟩ := eF (rc := F6_grp (fl + 1) 7) (fl := fl) h b2
    obtain ⟨σ3, e1, e2⟩ := tailF h hp d2
    unfold F6_readPart
    rw [b1, bnd_s, d1, bnd_s, e1, hbod]
    unfold F12_text_59 F12_text_60
    rw [e10, rule_ix, gd_t (inb_t (N := 24) (by omega) (by omega)), if_pos rfl, f93, nI_c (by omega)]
    exact ⟨σ3, _, j, rfl, e2, rfl, by rw [up_ne (by omega)]; exact a3, (Fr.mono a6 nMw).up (Or.inr ⟨rfl, by omega, by omega⟩)⟩
end PRT
end
