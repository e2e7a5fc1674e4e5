section
/-! both readers side by side: loops -/
def LR : List Int32 → List Nat → Prop
  | [], [] => True
  | a :: l, b :: m => crel a (nI b) ∧ LR l m
  | _, _ => False
theorem LR_app : ∀ {a b : List Int32} {c d : List Nat}, LR a c → LR b d → LR (a ++ b) (c ++ d)
  | [], _, [], _, _, h => h
  | _ :: _, _, _ :: _, _, h1, h2 => ⟨h1.1, LR_app h1.2 h2⟩
  | [], _, _ :: _, _, h1, _ => h1.elim
  | _ :: _, _, [], _, h1, _ => h1.elim
theorem LR_len : ∀ {a : List Int32} {c : List Nat}, LR a c → a.length = c.length
  | [], [], _ => rfl
  | _ :: l, _ :: m, h => by
    show l.length + 1 = m.length + 1
    rw [LR_len h.2]
  | [], _ :: _, h => h.elim
  | _ :: _, [], h => h.elim
theorem LR_get : ∀ {a : List Int32} {c : List Nat}, LR a c → ∀ i, i < a.length → crel (a.getD i 0) (nI (c.getD i 0))
  | [], [], _, i, hi => absurd hi (Nat.not_lt_zero i)
  | _ :: _, _ :: _, h, 0, _ => h.1
  | x :: l, y :: m, h, i + 1, hi => LR_get (a := l) (c := m) h.2 i (Nat.lt_of_succ_lt_succ hi)
  | [], _ :: _, h, _, _ => h.elim
  | _ :: _, [], h, _, _ => h.elim
def skL : List Int32 → Nat → Option Nat
  | [], d => some d
  | c :: l, d => match stk1 c d with
    | none => none
    | some d' => skL l d'
theorem skL_app : ∀ {a b : List Int32} {d e : Nat}, skL a d = some e → skL (a ++ b) d = skL b e
  | [], _, d, e, h => by
    obtain rfl : d = e := Option.some.inj h
    rfl
  | c :: l, b, d, e, h => by
    show (match stk1 c d with | none => none | some d' => skL (l ++ b) d') = _
    have h : (match stk1 c d with | none => none | some d' => skL l d') = some e := h
    cases z : stk1 c d with
    | none => rw [z] at h; cases h
    | some d' =>
      rw [z] at h
      exact skL_app (a := l) h
theorem skL_1 {c : Int32} {d e : Nat} (h : stk1 c d = some e) : skL [c] d = some e := by
  show (match stk1 c d with | none => none | some d' => skL [] d') = _
  rw [h]
  rfl
def TkOk (c : Nat) : Prop := c < 10512 ∧ (256 ≤ c → c < 512 → c < 262)
theorem wcode_ok : ∀ k, k < 13 → wcode k < 262 := by decide
theorem Tn_ok {f : Nat → Int32} {s j : Nat} : TkOk (Tn f s j) := by
  unfold Tn
  by_cases hP : Pn f s j < s
  · rw [if_pos hP]
    unfold tkn
    by_cases c0 : wi (f (Pn f s j)) 97 122 = 0
    · rw [if_neg (fun z => z c0)]
      by_cases c1 : wi (f (Pn f s j)) 48 57 = 0
      · rw [if_neg (fun z => z c1)]
        by_cases c2 : sgv (f (Pn f s j)) = 0
        · rw [if_pos c2]; exact ⟨by omega, fun a b => by omega⟩
        · obtain ⟨z, hz, ez⟩ := sgv_1 c2
          unfold sgN at hz
          rw [if_neg c2, ez, nI_c (by omega)]
          exact ⟨by omega, fun a b => by omega⟩
      · rw [if_pos c1]
        by_cases c2 : eT f s (Pn f s j) - Pn f s j ≤ 4
        · rw [if_pos c2]
          have hn := num_lt (f := f) (i := Pn f s j) (eT f s (Pn f s j) - Pn f s j) (fun k h1 h2 => eT_dig (s := s) c1 k h1 (by omega))
          have h4 : 10 ^ (eT f s (Pn f s j) - Pn f s j) ≤ 10 ^ 4 := Nat.pow_le_pow_right (by omega) c2
          exact ⟨by omega, fun a b => by omega⟩
        · rw [if_neg c2]; exact ⟨by omega, fun a b => by omega⟩
    · rw [if_pos c0]
      have := wcode_ok (wk f (Pn f s j) (eT f s (Pn f s j))) (by have := wk_le (f := f) (i := Pn f s j) (e := eT f s (Pn f s j)); omega)
      exact ⟨by omega, fun a b => this⟩
  · rw [if_neg hP]; exact ⟨by omega, fun a b => by omega⟩
theorem cn_le : ∀ l : List Nat, cn l ≤ l.length
  | [] => Nat.le_refl _
  | x :: l => by
    show (if x = 13 ∨ x = 19 then 1 else 0) + cn l ≤ l.length + 1
    have := cn_le l
    by_cases z : x = 13 ∨ x = 19
    · rw [if_pos z]; omega
    · rw [if_neg z]; omega
theorem MS_bnd {f : Nat → Int32} {s t j b o : Nat} {τ0 τ : M2} {g : Int32} {p K O : List Nat} (h : MS f s t τ0 τ j b g (p ++ K) (o + cn p) O) (ho : o ≤ 10) : o + cn p < 1000 := by
  have h1 : (p ++ K).length + O.length ≤ b := h.2.2.2.2.2.2.2.2.1
  have h2 : b ≤ 161 := h.2.2.2.2.2.2.2.2.2.1
  have h3 := cn_le p
  rw [List.length_append] at h1
  omega
section SIM
variable {f : Nat → Int32} {s M t o fu C : Nat} {σ0 τ0 : M2}
def GD (f : Nat → Int32) (s t : Nat) (σ0 τ0 : M2) (l : Nat) (ex : Nat → List Nat → Prop) (lv : Nat) (σ' τ' : M2) (j0 j' o : Nat) (L0 : List Int32) (O0 K : List Nat) : Prop := ∃ (w : List Int32) (w0 p : List Nat) (g : Int32), CS f s t σ0 σ' j' o (L0 ++ w) ∧ MS f s t τ0 τ' j' j' g (p ++ K) (o + cn p) (O0 ++ w0) ∧ LR w (w0 ++ p) ∧ (∀ h, h ∈ p → l ≤ rkN h) ∧ ex (Tn f s j') p ∧ w.length + j0 ≤ j' ∧ j0 < j' ∧ (∀ d, d + (5 * (5 - o) + lv) ≤ 32 → skL w d = some (d + 1))
def BD (f : Nat → Int32) (s t : Nat) (σ0 τ0 : M2) (r : Option (Unit × M2)) (e : Option (Int32 × M2)) : Prop := ∃ σ' τ' k, r = some ((), σ') ∧ CF f s t σ0 σ' k ∧ e = some (0, τ') ∧ Flt f s t τ0 τ' k
/-- a reader of the class's, and what the reference's loop does over the same tokens -/
def SimR (f : Nat → Int32) (s t fu C : Nat) (σ0 τ0 : M2) (X : M2 → Option (Unit × M2)) (pr : Int32 → Nat → Prop) (ctx l : Nat) (ex : Nat → List Nat → Prop) (lv o : Nat) : Prop := ∀ mm σ τ j g L O K, CS f s t σ0 σ j o L → MS f s t τ0 τ j j g K o O → L.length < j → tp ctx K → pr mm (Tn f s j) →
  (∃ σ' τ' j' m', X σ = some ((), σ') ∧ EL fu (C - j) 1 mm τ = EL fu (C - j') 0 m' τ' ∧ GD f s t σ0 τ0 l ex lv σ' τ' j j' o L O K) ∨ BD f s t σ0 τ0 (X σ) (EL fu (C - j) 1 mm τ)
theorem SimR.ctx {X : M2 → Option (Unit × M2)} {pr : Int32 → Nat → Prop} {c c' l lv : Nat} {ex : Nat → List Nat → Prop} (h : SimR f s t fu C σ0 τ0 X pr c l ex lv o) (hc : c' ≤ c) : SimR f s t fu C σ0 τ0 X pr c' l ex lv o := fun mm σ τ j g L O K h1 h2 h3 h4 h5 => h mm σ τ j g L O K h1 h2 h3 (fun x m e => by have := h4 x m e; omega) h5
theorem loopSim {b : (Int32 → M2 → Option (Unit × M2)) → Int32 → M2 → Option (Unit × M2)} {inner : M2 → Option (Unit × M2)} {op : Nat → Option (Int32 × Nat)} {l lvI : Nat} {ex exI : Nat → List Nat → Prop} {pr : Int32 → Nat → Prop}
    (h : Env f s M t σ0 τ0) (hC : 161 < C) (hfu : 170 < fu) (ho5 : o ≤ 5)
    (hhit : ∀ k x2 σ c cc sg, σ 40 2 = nI c → op c = some (cc, sg) → ¬ (160 : Int32) ≤ x2 → b k x2 σ = bnd (F6_step σ) (fun _ s4 => bnd (inner s4) (fun _ s7 => bnd (F9_add (12 + 4 * t) cc s7) (fun _ s11 => k (x2 + 1) s11))))
    (hexit : ∀ k x2 σ c, σ 40 2 = nI c → c < 20000 → op c = none → b k x2 σ = some ((), σ))
    (hop : ∀ c cc sg, op c = some (cc, sg) → sgc c = some sg ∧ rkN sg = l ∧ l ≠ 4 ∧ crel cc (nI sg) ∧ (∀ d, 2 ≤ d → stk1 cc d = some (d - 1)) ∧ ∀ c', pr (mN sg) c')
    (hop0 : op 0 = none)
    (hex : ∀ c p, op c = none → exI c p → ex c p)
    (hmono : ∀ c p sg, exI c p → exI c (p ++ [sg]))
    (hin : SimR f s t fu C σ0 τ0 inner pr (l + 1) (l + 1) exI lvI o) :
    ∀ N σ τ j m j0 L0 O0 K i fl, N = 161 - j → GD f s t σ0 τ0 l exI (lvI + 1) σ τ j0 j o L0 O0 K → tp l K → L0.length < j0 → i ≤ j → N < fl →
    (∃ σ' τ' j' m', wl1 b fl (nI i) σ = some ((), σ') ∧ EL fu (C - j) 0 m τ = EL fu (C - j') 0 m' τ' ∧ GD f s t σ0 τ0 l ex (lvI + 1) σ' τ' j0 j' o L0 O0 K) ∨ BD f s t σ0 τ0 (wl1 b fl (nI i) σ) (EL fu (C - j) 0 m τ) := by
  intro N
  induction N using Nat.strongRecOn with
  | ind N ih =>
    intro σ τ j m j0 L0 O0 K i fl hN hg hK hL0 hi hfl
    obtain ⟨fl, rfl⟩ : ∃ q, fl = q + 1 := ⟨fl - 1, by omega⟩
    obtain ⟨w, w0, p, g, g1, g2, g3, g4, g5, g6, g7, g8⟩ := hg
    have hj160 : j ≤ 160 := g1.2.2.2.2.2.2.1
    have hT := Tn_ok (f := f) (s := s) (j := j)
    have hex1 : ∀ fl x2 σ c, σ 40 2 = nI c → c < 20000 → op c = none → wl1 b (fl + 1) x2 σ = some ((), σ) := fun fl x2 σ c e1 e2 e3 => hexit (wl1 b fl) x2 σ c e1 e2 e3
    cases hc : op (Tn f s j) with
    | none =>
      left
      exact ⟨σ, τ, j, m, hex1 fl _ σ _ g1.2.1 (by have := hT.1; omega) hc, rfl, w, w0, p, g, g1, g2, g3, g4, hex _ _ hc g5, g6, g7, g8⟩
    | some q =>
      obtain ⟨cc, sg⟩ := q
      obtain ⟨q1, q2, q3, q4, q5, q6⟩ := hop _ _ _ hc
      have hk := sgc_1 q1
      have hj := h.lt (show Tn f s j ≠ 1 by omega)
      obtain ⟨σ1, a1, a2⟩ := stepC h g1 (by omega)
      have hbnd := MS_bnd g2 (by omega)
      obtain ⟨τ1, b1, b2⟩ := E_sign (q := C - (j + 1)) (m := m) (o' := o) h g2 q1 (by omega) (fun x hx => by rw [q2]; exact g4 x hx) (by rw [q2]; exact hK) rfl hbnd hfu
      have hCj : C - j = C - (j + 1) + 1 := by omega
      have hwl : w.length = (w0 ++ p).length := LR_len g3
      have hlen : (L0 ++ w).length < j + 1 := by rw [List.length_append]; omega
      have hsg : cn [sg] = 0 := by
        show (if sg = 13 ∨ sg = 19 then 1 else 0) + 0 = 0
        rw [if_neg (by omega)]
      have hi160 : ¬ (160 : Int32) ≤ nI i := nI_ge (b := 160) (by omega) (by omega)
      have hb : wl1 b (fl + 1) (nI i) σ = bnd (inner σ1) (fun _ s7 => bnd (F9_add (12 + 4 * t) cc s7) (fun _ s11 => wl1 b fl (nI i + 1) s11)) := by
        show b (wl1 b fl) (nI i) σ = _
        rw [hhit (wl1 b fl) (nI i) σ _ cc sg g1.2.1 hc hi160, a1, bnd_s]
      rw [hCj, b1, hb]
      obtain ⟨fl, rfl⟩ : ∃ q, fl = q + 1 := ⟨fl - 1, by omega⟩
      rcases hin (mN sg) σ1 τ1 (j + 1) (nI (Pn f s j)) (L0 ++ w) ((O0 ++ w0) ++ p) (sg :: K) a2 b2 hlen (fun x m e => by injection e with e1 e2; rw [← e1]; omega) (q6 _) with ⟨σ2, τ2, j2, m2, c1, c2, w2, w02, p2, g', d1, d2, d3, d4, d5, d6, d7, d8⟩ | ⟨σ2, τ2, k, c1, c2, c3, c4⟩
      · have hlen2 : ((L0 ++ w) ++ w2).length < 160 := by
          have hj2 : j2 ≤ 160 := d1.2.2.2.2.2.2.1
          rw [List.length_append, List.length_append]
          omega
        obtain ⟨σ3, e1, e2⟩ := addC (x := cc) h.2.1 d1 hlen2
        have hg' : GD f s t σ0 τ0 l exI (lvI + 1) σ3 τ2 j0 j2 o L0 O0 K := by
          refine ⟨w ++ (w2 ++ [cc]), (w0 ++ p) ++ w02, p2 ++ [sg], g', ?_, ?_, ?_, fun x hx => ?_, hmono _ _ _ d5, ?_, by omega, fun d hd => ?_⟩
          · have e : ((L0 ++ w) ++ w2) ++ [cc] = L0 ++ (w ++ (w2 ++ [cc])) := by simp only [List.append_assoc]
            rw [← e]; exact e2
          · have e3 : p2 ++ sg :: K = (p2 ++ [sg]) ++ K := by simp only [List.append_assoc, List.singleton_append]
            have e4 : O0 ++ w0 ++ p ++ w02 = O0 ++ ((w0 ++ p) ++ w02) := by simp only [List.append_assoc]
            rw [← e3, ← e4, cn_app, hsg, Nat.add_zero]
            exact d2
          · have e5 : (w0 ++ p) ++ w02 ++ (p2 ++ [sg]) = (w0 ++ p) ++ ((w02 ++ p2) ++ [sg]) := by simp only [List.append_assoc]
            rw [e5]
            exact LR_app g3 (LR_app d3 ⟨q4, trivial⟩)
          · rcases List.mem_append.mp hx with hx | hx
            · have := d4 x hx
              omega
            · rw [List.mem_singleton.mp hx]; omega
          · rw [List.length_append, List.length_append]
            show w.length + (w2.length + 1) + j0 ≤ j2
            omega
          · rw [skL_app (g8 d hd), skL_app (d8 (d + 1) (by omega))]
            exact skL_1 (q5 _ (by omega))
        rw [c1, bnd_s, e1, bnd_s, nI_1, c2]
        exact ih (161 - j2) (by omega) σ3 τ2 j2 m2 j0 L0 O0 K (i + 1) (fl + 1) rfl hg' hK hL0 (by omega) (by omega)
      · right
        obtain ⟨σ3, e1, e2⟩ := addF (x := cc) h.2.1 c2
        rw [c1, bnd_s, e1, bnd_s]
        exact ⟨σ3, τ2, k, hex1 fl _ σ3 0 (by rw [e2.2.1]; rfl) (by omega) hop0, e2, c3, c4⟩
end SIM
end
