section
/-! both readers side by side: comparison, not, one, and the recursion -/
section SIM3
variable {f : Nat → Int32} {s M t o fu C : Nat} {σ0 τ0 : M2}
theorem cmpSim {rc : Nat → Nat → M2 → Option (Unit × M2)} (h : Env f s M t σ0 τ0) (hC : 161 < C) (hfu : 170 < fu) {fl : Nat} (ho5 : o ≤ 5) (hin : SimR f s t fu C σ0 τ0 (F6_readSum rc fl (12 + 4 * t)) prT 5 5 exS 3 o) : SimR f s t fu C σ0 τ0 (F6_readComparison rc fl (12 + 4 * t)) prT 4 3 exC 4 o := by
  obtain ⟨x1, -⟩ := tx_at h.2.1
  intro mm σ τ j g L O K h1 h2 h3 h4 h5
  rcases hin mm σ τ j g L O K h1 h2 h3 (fun x m e => by have := h4 x m e; omega) h5 with ⟨σ1, τ1, j1, m1, c1, c2, w, w0, p, g', d1, d2, d3, d4, d5, d6, d7, d8⟩ | ⟨σ1, τ1, k, c1, c2, c3, c4⟩
  · have hTok := Tn_ok (f := f) (s := s) (j := j1)
    have key : ∀ (c sg : Nat) (cc : Int32), Tn f s j1 = c → sgc c = some sg → rkN sg = 4 → crel cc (nI sg) → (∀ d, 2 ≤ d → stk1 cc d = some (d - 1)) → mN sg = 0 → F6_readComparison rc fl (12 + 4 * t) σ = F6_readComparison_39 rc fl (12 + 4 * t) cc σ1 →
        (∃ σ' τ' j' m', F6_readComparison rc fl (12 + 4 * t) σ = some ((), σ') ∧ EL fu (C - j) 1 mm τ = EL fu (C - j') 0 m' τ' ∧ GD f s t σ0 τ0 3 exC 4 σ' τ' j j' o L O K) ∨ BD f s t σ0 τ0 (F6_readComparison rc fl (12 + 4 * t) σ) (EL fu (C - j) 1 mm τ) := by
      intro c sg cc hT hsg hrk hcr hbin hmN heq
      subst hT
      have hk := sgc_1 hsg
      have hj := h.lt (show Tn f s j1 ≠ 1 by omega)
      have hj1 : j1 ≤ 160 := d1.2.2.2.2.2.2.1
      obtain ⟨σ2, a1, a2⟩ := stepC h d1 (by omega)
      obtain ⟨τ2, b1, b2⟩ := E_cmp (q := C - (j1 + 1)) (m := m1) (o' := o) h d2 hsg hrk d4 h4 rfl (MS_bnd d2 (by omega)) hfu
      have hCj : C - j1 = C - (j1 + 1) + 1 := by omega
      have hlen : (L ++ w).length < j1 + 1 := by rw [List.length_append]; omega
      have hcn : cn [sg] = 0 := by
        show (if sg = 13 ∨ sg = 19 then 1 else 0) + 0 = 0
        rw [if_neg (by omega)]
      rw [heq]
      unfold F6_readComparison_39
      rw [a1, bnd_s, c2, hCj, b1]
      rcases hin (mN sg) σ2 τ2 (j1 + 1) (nI (Pn f s j1)) (L ++ w) ((O ++ w0) ++ p) (sg :: K) a2 b2 hlen (fun x m e => by injection e with e1 e2; rw [← e1]; omega) (Or.inl hmN) with ⟨σ3, τ3, j2, m2, g1, g2, w2, w02, p2, g'', k1, k2, k3, k4, k5, k6, k7, k8⟩ | ⟨σ3, τ3, k, g1, g2, g3, g4⟩
      · left
        have hj2 : j2 ≤ 160 := k1.2.2.2.2.2.2.1
        obtain ⟨σ4, e1, e2⟩ := addC (x := cc) h.2.1 k1 (by rw [List.length_append, List.length_append]; omega)
        refine ⟨σ4, τ3, j2, m2, by rw [g1, bnd_s, gd_t (isO_t x1), e1, bnd_s], g2, w ++ (w2 ++ [cc]), (w0 ++ p) ++ w02, p2 ++ [sg], g'', ?_, ?_, ?_, fun x hx => ?_, ⟨k5, Or.inr ⟨p2, sg, [], rfl, hrk, k4⟩⟩, ?_, by omega, fun d hd => ?_⟩
        · have e : ((L ++ w) ++ w2) ++ [cc] = L ++ (w ++ (w2 ++ [cc])) := by simp only [List.append_assoc]
          rw [← e]; exact e2
        · have e3 : p2 ++ sg :: K = (p2 ++ [sg]) ++ K := by simp only [List.append_assoc, List.singleton_append]
          have e4 : O ++ w0 ++ p ++ w02 = O ++ ((w0 ++ p) ++ w02) := by simp only [List.append_assoc]
          rw [← e3, ← e4, cn_app, hcn, Nat.add_zero]
          exact k2
        · have e5 : (w0 ++ p) ++ w02 ++ (p2 ++ [sg]) = (w0 ++ p) ++ ((w02 ++ p2) ++ [sg]) := by simp only [List.append_assoc]
          rw [e5]
          exact LR_app d3 (LR_app k3 ⟨hcr, trivial⟩)
        · rcases List.mem_append.mp hx with hx | hx
          · have := k4 x hx
            omega
          · rw [List.mem_singleton.mp hx]; omega
        · rw [List.length_append, List.length_append]
          show w.length + (w2.length + 1) + j ≤ j2
          omega
        · rw [skL_app (d8 d (by omega)), skL_app (k8 (d + 1) (by omega))]
          exact skL_1 (hbin _ (by omega))
      · right
        obtain ⟨σ4, e1, e2⟩ := addF (x := cc) h.2.1 g2
        exact ⟨σ4, τ3, k, by rw [g1, bnd_s, gd_t (isO_t x1), e1, bnd_s], e2, g3, g4⟩
    by_cases q1 : Tn f s j1 = 60
    · refine key 60 14 (-12) q1 rfl rfl cr_12 (bin_ok _ (by decide)) rfl ?_
      unfold F6_readComparison F6_readComparison_23
      rw [c1, bnd_s, d1.2.1, q1, if_pos (show nI 60 = (60 : Int32) from rfl), if_pos (show nI 60 = (60 : Int32) from rfl)]
    · by_cases q2 : Tn f s j1 = 61
      · refine key 61 15 (-13) q2 rfl rfl cr_13 (bin_ok _ (by decide)) rfl ?_
        unfold F6_readComparison F6_readComparison_23
        rw [c1, bnd_s, d1.2.1, q2, if_neg (show ¬ nI 61 = (60 : Int32) by decide), if_pos (show nI 61 = (61 : Int32) from rfl), if_neg (show ¬ nI 61 = (60 : Int32) by decide)]
      · left
        refine ⟨σ1, τ1, j1, m1, ?_, c2, w, w0, p, g', d1, d2, d3, fun x hx => by have := d4 x hx; omega, ⟨d5, Or.inl ⟨q1, q2⟩⟩, d6, d7, fun d hd => d8 d (by omega)⟩
        unfold F6_readComparison
        rw [c1, bnd_s, d1.2.1, if_neg (show ¬ nI (Tn f s j1) = (60 : Int32) from nI_eqI (b := 60) (by have := hTok.1; omega) (by omega) q1), if_neg (show ¬ nI (Tn f s j1) = (61 : Int32) from nI_eqI (b := 61) (by have := hTok.1; omega) (by omega) q2)]
  · right
    refine ⟨σ1, τ1, k, ?_, c2, c3, c4⟩
    unfold F6_readComparison
    rw [c1, bnd_s, c2.2.1, if_neg (by decide), if_neg (by decide)]
theorem notSim {rc : Nat → Nat → M2 → Option (Unit × M2)} (h : Env f s M t σ0 τ0) (hC : 161 < C) (hfu : 170 < fu) {fl : Nat} (ho5 : o ≤ 5) (hrc : o < 5 → SimR f s t fu C σ0 τ0 (rc 1 (12 + 4 * t)) prN 4 3 exC 4 (o + 1)) (hin : SimR f s t fu C σ0 τ0 (F6_readComparison rc fl (12 + 4 * t)) prT 4 3 exC 4 o) : SimR f s t fu C σ0 τ0 (F6_readNot rc fl (12 + 4 * t)) prN 4 3 exC 4 o := by
  obtain ⟨x1, -⟩ := tx_at h.2.1
  intro mm σ τ j g L O K h1 h2 h3 h4 h5
  have hTok := Tn_ok (f := f) (s := s) (j := j)
  obtain rfl : mm = 1 := h5
  by_cases q1 : Tn f s j = 7
  · have hj := h.lt (show Tn f s j ≠ 1 by omega)
    have hCj : C - j = C - (j + 1) + 1 := by omega
    unfold F6_readNot
    rw [h1.2.1, q1, if_pos (show nI 7 = (7 : Int32) from rfl)]
    rcases Nat.lt_or_ge o 5 with ho | ho
    · obtain ⟨σ1, a1, a2⟩ := opensC h.2.1 h1 ho
      obtain ⟨σ2, b1, b2⟩ := stepC h a2 (by omega)
      obtain ⟨τ1, e1, e2⟩ := E_not (q := C - (j + 1)) h h2 q1 ho hfu
      rw [a1, bnd_s, if_neg (by decide), b1, bnd_s, hCj, e1]
      rcases hrc ho 1 σ2 τ1 (j + 1) (nI (Pn f s j)) L O (13 :: K) b2 e2 (by omega) (fun x m e => by injection e with e1 e2; rw [← e1]; decide) rfl with ⟨σ3, τ3, j2, m2, g1, g2, w2, w02, p2, g'', k1, k2, k3, k4, k5, k6, k7, k8⟩ | ⟨σ3, τ3, k, g1, g2, g3, g4⟩
      · left
        have hj2 : j2 ≤ 160 := k1.2.2.2.2.2.2.1
        obtain ⟨σ4, i1, i2⟩ := addC (x := -8) h.2.1 (closeC h.2.1 k1) (by rw [List.length_append]; omega)
        refine ⟨σ4, τ3, j2, m2, by rw [g1, bnd_s, gd_t (isO_t x1), i1, bnd_s], g2, w2 ++ [-8], w02, p2 ++ [13], g'', ?_, ?_, ?_, fun x hx => ?_, exC_mono k5, ?_, by omega, fun d hd => ?_⟩
        · rw [← List.append_assoc]; exact i2
        · have e3 : p2 ++ 13 :: K = (p2 ++ [13]) ++ K := by simp only [List.append_assoc, List.singleton_append]
          have e4 : o + cn (p2 ++ [13]) = o + 1 + cn p2 := by
            rw [cn_app]
            have : cn [13] = 1 := rfl
            omega
          rw [← e3, e4]
          exact k2
        · rw [← List.append_assoc]
          exact LR_app k3 ⟨cr_8, trivial⟩
        · rcases List.mem_append.mp hx with hx | hx
          · exact k4 x hx
          · rw [List.mem_singleton.mp hx]; decide
        · rw [List.length_append]
          show w2.length + 1 + j ≤ j2
          omega
        · rw [skL_app (k8 d (by omega))]
          refine skL_1 ?_
          unfold stk1
          rw [if_neg (by decide), if_pos (Or.inr rfl), if_pos (by omega)]
      · right
        obtain ⟨σ4, i1, i2⟩ := addF (x := -8) h.2.1 (closeF (x := (σ3 40 3) - (1 : Int32)) h.2.1 g2)
        exact ⟨σ4, τ3, k, by rw [g1, bnd_s, gd_t (isO_t x1), i1, bnd_s], i2, g3, g4⟩
    · right
      obtain rfl : o = 5 := by omega
      obtain ⟨σ1, a1, a2⟩ := opensF h h1
      obtain ⟨τ1, e1, e2⟩ := E_notF (q := C - (j + 1)) h h2 q1 hfu
      rw [a1, bnd_s, if_pos rfl, hCj, e1]
      exact ⟨σ1, τ1, j, rfl, a2, rfl, e2⟩
  · unfold F6_readNot
    rw [h1.2.1, if_neg (show ¬ nI (Tn f s j) = (7 : Int32) from nI_eqI (b := 7) (by have := hTok.1; omega) (by omega) q1)]
    rcases hin 1 σ τ j g L O K h1 h2 h3 h4 (Or.inr q1) with ⟨σ1, τ1, j1, m1, c1, c2, c3⟩ | ⟨σ1, τ1, k, c1, c2, c3, c4⟩
    · left
      exact ⟨σ1, τ1, j1, m1, by rw [c1, bnd_s], c2, c3⟩
    · right
      exact ⟨σ1, τ1, k, by rw [c1, bnd_s], c2, c3, c4⟩
/-- one operand, under n minus signs -/
def S1 (f : Nat → Int32) (s t fu C : Nat) (σ0 τ0 : M2) (X : M2 → Option (Unit × M2)) (o : Nat) : Prop := ∀ n mm σ τ j g L O K, CS f s t σ0 σ j o L → MS f s t τ0 τ j j g (List.replicate n 19 ++ K) o O → L.length < j → tp 7 K → prT mm (Tn f s j) → n ≤ o →
  (∃ σ' τ' j' m' w w0 g', X σ = some ((), σ') ∧ EL fu (C - j) 1 mm τ = EL fu (C - j') 0 m' τ' ∧ CS f s t σ0 σ' j' o (L ++ w) ∧ MS f s t τ0 τ' j' j' g' K (o - n) (O ++ (w0 ++ List.replicate n 19)) ∧ LR w w0 ∧ w.length + j ≤ j' ∧ j < j' ∧ ∀ d, d + (5 * (5 - o) + 1) ≤ 32 → skL w d = some (d + 1)) ∨ BD f s t σ0 τ0 (X σ) (EL fu (C - j) 1 mm τ)
theorem S1.sim {X : M2 → Option (Unit × M2)} (h : S1 f s t fu C σ0 τ0 X o) : SimR f s t fu C σ0 τ0 X prT 7 7 ex1 1 o := by
  intro mm σ τ j g L O K h1 h2 h3 h4 h5
  rcases h 0 mm σ τ j g L O K h1 h2 h3 h4 h5 (Nat.zero_le _) with ⟨σ', τ', j', m', w, w0, g', a1, a2, a3, a4, a5, a6, a7, a8⟩ | hb
  · left
    refine ⟨σ', τ', j', m', a1, a2, w, w0, [], g', a3, ?_, ?_, fun x hx => (by cases hx), trivial, a6, a7, a8⟩
    · have a4 : MS f s t τ0 τ' j' j' g' K (o - 0) (O ++ (w0 ++ [])) := a4
      rw [List.append_nil] at a4
      exact a4
    · rw [List.append_nil]; exact a5
  · exact Or.inr hb
theorem sgc_0 {c : Nat} (h1 : c ≠ 5) (h2 : c ≠ 6) (h3 : c ≠ 60) (h4 : c ≠ 61) (h5 : c ≠ 43) (h6 : c ≠ 45) (h7 : c ≠ 42) : sgc c = none := by
  unfold sgc
  rw [if_neg h1, if_neg h2, if_neg h3, if_neg h4, if_neg h5, if_neg h6, if_neg h7]
/-- behind a whole E: what neither closes nor ends it is a fault -/
theorem endF {j o1 q : Nat} {g m : Int32} {p R O : List Nat} {τ : M2} (h : Env f s M t σ0 τ0) (hc : MS f s t τ0 τ j j g (p ++ R) (o1 + cn p) O) (he : exE (Tn f s j) p) (h41 : Tn f s j ≠ 41) (h59 : Tn f s j ≠ 59) (ho : o1 ≤ 10) (hfu : 170 < fu) : ∃ τ', EL fu (q + 1) 0 m τ = some (0, τ') ∧ Flt f s t τ0 τ' j := by
  obtain ⟨⟨⟨⟨e42, e43, e45⟩, hcmp⟩, e6⟩, e5⟩ := he
  have hb := MS_bnd hc ho
  have hcmpF : ∀ k, sgc (Tn f s j) = some k → rkN k = 4 → (∃ p1 x p2, p = p1 ++ x :: p2 ∧ rkN x = 4 ∧ ∀ y, y ∈ p1 → 5 ≤ rkN y) → ∃ τ', EL fu (q + 1) 0 m τ = some (0, τ') ∧ Flt f s t τ0 τ' j := by
    rintro k hk hk4 ⟨p1, x, p2, rfl, hx, hp1⟩
    have e : (p1 ++ x :: p2) ++ R = p1 ++ x :: (p2 ++ R) := by simp only [List.append_assoc, List.cons_append]
    rw [e] at hc
    exact E_cmpF (o' := o1 + cn (x :: p2)) h hc hk hk4 hp1 hx (by rw [cn_app]; omega) hb hfu
  rcases hcmp with ⟨h60, h61⟩ | hp
  · exact E_bad0 h hc (sgc_0 e5 e6 h60 h61 e43 e45 e42) h59 h41 hfu
  · by_cases h60 : Tn f s j = 60
    · exact hcmpF 14 (by rw [h60]; rfl) rfl hp
    · by_cases h61 : Tn f s j = 61
      · exact hcmpF 15 (by rw [h61]; rfl) rfl hp
      · exact E_bad0 h hc (sgc_0 e5 e6 h60 h61 e43 e45 e42) h59 h41 hfu
theorem oneSim {rc : Nat → Nat → M2 → Option (Unit × M2)} (h : Env f s M t σ0 τ0) (hC : 161 < C) (hfu : 170 < fu) (ho5 : o ≤ 5) (hrc2 : o < 5 → S1 f s t fu C σ0 τ0 (rc 2 (12 + 4 * t)) (o + 1)) (hrc0 : o < 5 → SimR f s t fu C σ0 τ0 (rc 0 (12 + 4 * t)) prN 1 1 exE 6 (o + 1)) : S1 f s t fu C σ0 τ0 (F6_readOne rc (12 + 4 * t)) o := by
  obtain ⟨x1, -⟩ := tx_at h.2.1
  intro n mm σ τ j g L O K h1 h2 h3 h4 h5 hn
  obtain ⟨hT1, hT2⟩ := Tn_ok (f := f) (s := s) (j := j)
  have hj160 : j ≤ 160 := h1.2.2.2.2.2.2.1
  have hCj : C - j = C - (j + 1) + 1 := by omega
  -- an operand that is one token
  have opd : ∀ cc : Int32, 256 ≤ Tn f s j → crel cc (nI (opc (Tn f s j))) → (-7 : Int32) < cc → F6_readOne rc (12 + 4 * t) σ = bnd (F9_add (12 + 4 * t) cc σ) (fun _ s16 => bnd (F6_step s16) (fun _ s19 => some ((), s19))) →
      (∃ σ' τ' j' m' w w0 g', F6_readOne rc (12 + 4 * t) σ = some ((), σ') ∧ EL fu (C - j) 1 mm τ = EL fu (C - j') 0 m' τ' ∧ CS f s t σ0 σ' j' o (L ++ w) ∧ MS f s t τ0 τ' j' j' g' K (o - n) (O ++ (w0 ++ List.replicate n 19)) ∧ LR w w0 ∧ w.length + j ≤ j' ∧ j < j' ∧ ∀ d, d + (5 * (5 - o) + 1) ≤ 32 → skL w d = some (d + 1)) ∨ BD f s t σ0 τ0 (F6_readOne rc (12 + 4 * t) σ) (EL fu (C - j) 1 mm τ) := by
    intro cc hT hcr h7 heq
    left
    have hj := h.lt (show Tn f s j ≠ 1 by omega)
    obtain ⟨σ1, a1, a2⟩ := addC (x := cc) h.2.1 h1 (by omega)
    obtain ⟨σ2, b1, b2⟩ := stepC h a2 (by omega)
    obtain ⟨τ1, e1, e2⟩ := E_opd (q := C - (j + 1)) (m := mm) (o' := o - n) h h2 hT h4 (by omega) (by omega) hfu
    refine ⟨σ2, τ1, j + 1, mm, [cc], [opc (Tn f s j)], nI (Pn f s j), by rw [heq, a1, bnd_s, b1, bnd_s], by rw [hCj, e1], b2, e2, ⟨hcr, trivial⟩, by show 1 + j ≤ j + 1; omega, by omega, fun d hd => ?_⟩
    refine skL_1 ?_
    unfold stk1
    rw [if_pos h7, if_pos (by omega)]
  by_cases q1 : Tn f s j < 512
  · by_cases q2 : Tn f s j < 256
    · by_cases q3 : Tn f s j = 45
      · -- a minus
        have hj := h.lt (show Tn f s j ≠ 1 by omega)
        have heq : F6_readOne rc (12 + 4 * t) σ = bnd (F6_readNegated rc (12 + 4 * t) σ) (fun _ s12 => some ((), s12)) := by
          unfold F6_readOne
          rw [h1.2.1, q3, if_pos (by decide), if_pos (by decide), if_pos (by decide)]
        rw [heq]
        unfold F6_readNegated
        rcases Nat.lt_or_ge o 5 with ho | ho
        · obtain ⟨σ1, a1, a2⟩ := opensC h.2.1 h1 ho
          obtain ⟨σ2, b1, b2⟩ := stepC h a2 (by omega)
          obtain ⟨τ1, e1, e2⟩ := E_neg (q := C - (j + 1)) (m := mm) h h2 q3 ho hfu
          rw [a1, bnd_s, if_neg (by decide), b1, bnd_s, hCj, e1]
          rcases hrc2 ho (n + 1) 0 σ2 τ1 (j + 1) (nI (Pn f s j)) L O K b2 e2 (by omega) h4 (Or.inl rfl) (by omega) with ⟨σ3, τ3, j2, m2, w2, w02, g'', g1, g2, k1, k2, k3, k4, k5, k6⟩ | ⟨σ3, τ3, k, g1, g2, g3, g4⟩
          · left
            have hj2 : j2 ≤ 160 := k1.2.2.2.2.2.2.1
            obtain ⟨σ4, i1, i2⟩ := addC (x := -7) h.2.1 (closeC h.2.1 k1) (by rw [List.length_append]; omega)
            refine ⟨σ4, τ3, j2, m2, w2 ++ [-7], w02 ++ [19], g'', by rw [g1, bnd_s, gd_t (isO_t x1), i1, bnd_s, bnd_s], g2, ?_, ?_, LR_app k3 ⟨cr_7, trivial⟩, ?_, by omega, fun d hd => ?_⟩
            · rw [← List.append_assoc]; exact i2
            · have e3 : w02 ++ List.replicate (n + 1) 19 = w02 ++ [19] ++ List.replicate n 19 := by rw [List.replicate_succ, List.append_assoc]; rfl
              have e4 : o + 1 - (n + 1) = o - n := by omega
              rw [← e3, ← e4]
              exact k2
            · rw [List.length_append]
              show w2.length + 1 + j ≤ j2
              omega
            · rw [skL_app (k6 d (by omega))]
              refine skL_1 ?_
              unfold stk1
              rw [if_neg (by decide), if_pos (Or.inl rfl), if_pos (by omega)]
          · right
            obtain ⟨σ4, i1, i2⟩ := addF (x := -7) h.2.1 (closeF (x := (σ3 40 3) - (1 : Int32)) h.2.1 g2)
            exact ⟨σ4, τ3, k, by rw [g1, bnd_s, gd_t (isO_t x1), i1, bnd_s, bnd_s], i2, g3, g4⟩
        · right
          obtain rfl : o = 5 := by omega
          obtain ⟨σ1, a1, a2⟩ := opensF h h1
          obtain ⟨τ1, e1, e2⟩ := E_negF (q := C - (j + 1)) (m := mm) h h2 q3 hfu
          rw [a1, bnd_s, if_pos rfl, bnd_s, hCj, e1]
          exact ⟨σ1, τ1, j, rfl, a2, rfl, e2⟩
      · by_cases q4 : Tn f s j = 40
        · -- brackets
          have hj := h.lt (show Tn f s j ≠ 1 by omega)
          have heq : F6_readOne rc (12 + 4 * t) σ = bnd (F6_readInBrackets rc (12 + 4 * t) σ) (fun _ s9 => some ((), s9)) := by
            unfold F6_readOne
            rw [h1.2.1, q4, if_pos (by decide), if_pos (by decide), if_neg (by decide), if_pos (by decide)]
          rw [heq]
          unfold F6_readInBrackets
          rcases Nat.lt_or_ge o 5 with ho | ho
          · obtain ⟨σ1, a1, a2⟩ := opensC h.2.1 h1 ho
            obtain ⟨σ2, b1, b2⟩ := stepC h a2 (by omega)
            obtain ⟨τ1, e1, e2⟩ := E_par (q := C - (j + 1)) (m := mm) h h2 q4 ho hfu
            rw [a1, bnd_s, if_neg (by decide), b1, bnd_s, hCj, e1]
            rcases hrc0 ho 1 σ2 τ1 (j + 1) (nI (Pn f s j)) L O (0 :: (List.replicate n 19 ++ K)) b2 e2 (by omega) (fun x m e => by injection e with e1 e2; rw [← e1]; decide) rfl with ⟨σ3, τ3, j2, m2, g1, g2, w2, w02, p2, g'', k1, k2, k3, k4, k5, k6, k7, k8⟩ | ⟨σ3, τ3, k, g1, g2, g3, g4⟩
            · have hj2 : j2 ≤ 160 := k1.2.2.2.2.2.2.1
              have hCj2 : C - j2 = C - (j2 + 1) + 1 := by omega
              have hTok2 := Tn_ok (f := f) (s := s) (j := j2)
              by_cases q5 : Tn f s j2 = 41
              · left
                obtain ⟨σ4, i1, i2⟩ := expectC (c := 41) h k1 q5 (by omega)
                have i1 : F6_expect 41 σ3 = some ((), σ4) := i1
                obtain ⟨τ4, l1, l2⟩ := E_close (q := C - (j2 + 1)) (m := m2) (n := n) (K := K) (o' := o - n) h k2 q5 k4 h4 (by omega) (MS_bnd k2 (by omega)) hfu
                refine ⟨_, τ4, j2 + 1, m2, w2, w02 ++ p2, nI (Pn f s j2), by rw [g1, bnd_s, i1, bnd_s, bnd_s], by rw [g2, hCj2, l1], closeC h.2.1 i2, ?_, k3, by omega, by omega, fun d hd => k8 d (by omega)⟩
                have e3 : O ++ w02 ++ (p2 ++ List.replicate n 19) = O ++ (w02 ++ p2 ++ List.replicate n 19) := by simp only [List.append_assoc]
                rw [← e3]
                exact l2
              · right
                obtain ⟨σ4, i1, i2⟩ := expectN (x := 41) h k1 (show ¬ nI (Tn f s j2) = (41 : Int32) from nI_eqI (b := 41) (by have := hTok2.1; omega) (by omega) q5)
                have hF : ∃ τ', EL fu (C - (j2 + 1) + 1) 0 m2 τ3 = some (0, τ') ∧ Flt f s t τ0 τ' j2 := by
                  by_cases q6 : Tn f s j2 = 59
                  · exact E_semiF (o' := o + 1) h k2 q6 k4 rfl (MS_bnd k2 (by omega)) hfu
                  · exact endF h k2 k5 q5 q6 (by omega) hfu
                obtain ⟨τ4, l1, l2⟩ := hF
                exact ⟨_, τ4, j2, by rw [g1, bnd_s, i1, bnd_s, bnd_s], closeF h.2.1 i2, by rw [g2, hCj2, l1], l2⟩
            · right
              obtain ⟨σ4, i1, i2⟩ := expectF (x := 41) h g2 (by decide)
              exact ⟨_, τ3, k, by rw [g1, bnd_s, i1, bnd_s, bnd_s], closeF h.2.1 i2, g3, g4⟩
          · right
            obtain rfl : o = 5 := by omega
            obtain ⟨σ1, a1, a2⟩ := opensF h h1
            obtain ⟨τ1, e1, e2⟩ := E_parF (q := C - (j + 1)) (m := mm) h h2 q4 hfu
            rw [a1, bnd_s, if_pos rfl, bnd_s, hCj, e1]
            exact ⟨σ1, τ1, j, rfl, a2, rfl, e2⟩
        · -- a fault
          right
          obtain ⟨σ1, a1, a2⟩ := failC h h1
          obtain ⟨τ1, e1, e2⟩ := E_badw (q := C - (j + 1)) (m := mm) h h2 q2 (h5.elim (fun z => Or.inr z) (fun z => Or.inl z)) q3 q4 hfu
          refine ⟨σ1, τ1, j, ?_, a2, by rw [hCj, e1], e2⟩
          unfold F6_readOne
          rw [h1.2.1, if_pos (show nI (Tn f s j) < (512 : Int32) from nI_lt (b := 512) q1 (by omega)), if_pos (show nI (Tn f s j) < (256 : Int32) from nI_lt (b := 256) q2 (by omega)), if_neg (show ¬ nI (Tn f s j) = (45 : Int32) from nI_eqI (b := 45) (by omega) (by omega) q3), if_neg (show ¬ nI (Tn f s j) = (40 : Int32) from nI_eqI (b := 40) (by omega) (by omega) q4), a1, bnd_s]
    · -- a name
      have hlt := hT2 (by omega) q1
      refine opd (-1 - nI (Tn f s j - 256)) (by omega) ?_ (name_c _ (by omega)).2.2.2.2.2 ?_
      · unfold opc
        rw [if_neg (by omega)]
        exact Or.inr (Or.inl ⟨Tn f s j - 256, by omega, rfl, rfl⟩)
      · unfold F6_readOne F9_addName
        rw [h1.2.1, if_pos (show nI (Tn f s j) < (512 : Int32) from nI_lt (b := 512) q1 (by omega)), if_neg (show ¬ nI (Tn f s j) < (256 : Int32) from nI_nlt (b := 256) (by omega) (by omega)), gd_t (isO_t x1), gd_t (isO_t x1), show nI (Tn f s j) - (256 : Int32) = nI (Tn f s j - 256) from pk_sub (b := 256) (by omega)]
        cases F9_add (12 + 4 * t) ((-1 : Int32) - nI (Tn f s j - 256)) σ with
        | none => rfl
        | some p => rfl
  · -- a number
    refine opd (nI (Tn f s j - 512)) (by omega) ?_ (num_c (by omega)).2.2.2.2 ?_
    · unfold opc
      rw [if_pos (by omega), Nat.add_comm]
      exact Or.inl ⟨Tn f s j - 512, by omega, rfl, rfl⟩
    · unfold F6_readOne
      rw [h1.2.1, if_neg (show ¬ nI (Tn f s j) < (512 : Int32) from nI_nlt (b := 512) (by omega) (by omega)), gd_t (isO_t x1), show nI (Tn f s j) - (512 : Int32) = nI (Tn f s j - 512) from pk_sub (b := 512) (by omega)]
theorem levels {rc : Nat → Nat → M2 → Option (Unit × M2)} (h : Env f s M t σ0 τ0) (hC : 161 < C) (hfu : 170 < fu) {fl : Nat} (hfl : 161 < fl) (ho5 : o ≤ 5) (hrc2 : o < 5 → S1 f s t fu C σ0 τ0 (rc 2 (12 + 4 * t)) (o + 1)) (hrc1 : o < 5 → SimR f s t fu C σ0 τ0 (rc 1 (12 + 4 * t)) prN 4 3 exC 4 (o + 1)) (hrc0 : o < 5 → SimR f s t fu C σ0 τ0 (rc 0 (12 + 4 * t)) prN 1 1 exE 6 (o + 1)) :
    S1 f s t fu C σ0 τ0 (F6_readOne rc (12 + 4 * t)) o ∧ SimR f s t fu C σ0 τ0 (F6_readNot rc fl (12 + 4 * t)) prN 4 3 exC 4 o ∧ SimR f s t fu C σ0 τ0 (F6_readE rc fl (12 + 4 * t)) prN 1 1 exE 6 o := by
  have l1 := oneSim h hC hfu ho5 hrc2 hrc0
  have l2 := termSim h hC hfu hfl ho5 l1.sim
  have l3 := sumSim h hC hfu hfl ho5 l2
  have l4 := cmpSim h hC hfu ho5 l3
  have l5 := notSim h hC hfu ho5 hrc1 l4
  have l6 := andSim h hC hfu hfl ho5 (l5.ctx (by omega))
  have l7 := eSim h hC hfu hfl ho5 l6
  exact ⟨l1, l5, l7.ctx (by omega)⟩
theorem rcSim (h : Env f s M t σ0 τ0) (hC : 161 < C) (hfu : 170 < fu) {fl : Nat} (hfl : 161 < fl) : ∀ d o, o ≤ 5 → 6 ≤ d + o → S1 f s t fu C σ0 τ0 (F6_grp fl d 2 (12 + 4 * t)) o ∧ SimR f s t fu C σ0 τ0 (F6_grp fl d 1 (12 + 4 * t)) prN 4 3 exC 4 o ∧ SimR f s t fu C σ0 τ0 (F6_grp fl d 0 (12 + 4 * t)) prN 1 1 exE 6 o
  | 0, o, h1, h2 => by omega
  | d + 1, o, h1, h2 => levels (rc := F6_grp fl d) h hC hfu hfl h1 (fun ho => (rcSim h hC hfu hfl d (o + 1) (by omega) (by omega)).1) (fun ho => (rcSim h hC hfu hfl d (o + 1) (by omega) (by omega)).2.1) (fun ho => (rcSim h hC hfu hfl d (o + 1) (by omega) (by omega)).2.2)
/-- a whole E, at no open sign -/
theorem topSim (h : Env f s M t σ0 τ0) (hC : 161 < C) (hfu : 170 < fu) {fl : Nat} (hfl : 161 < fl) : SimR f s t fu C σ0 τ0 (F6_readE (F6_grp fl 7) fl (12 + 4 * t)) prN 1 1 exE 6 0 :=
  (levels (rc := F6_grp fl 7) (o := 0) h hC hfu hfl (by omega) (fun _ => (rcSim h hC hfu hfl 7 1 (by omega) (by omega)).1) (fun _ => (rcSim h hC hfu hfl 7 1 (by omega) (by omega)).2.1) (fun _ => (rcSim h hC hfu hfl 7 1 (by omega) (by omega)).2.2)).2.2
end SIM3
end
