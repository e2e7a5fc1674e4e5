section
/-! reading: the reference's steps -/
def hOk (h : Nat) : Prop := h = 0 ∨ h = 11 ∨ h = 12 ∨ h = 13 ∨ h = 14 ∨ h = 15 ∨ h = 16 ∨ h = 17 ∨ h = 18 ∨ h = 19
def rkN (h : Nat) : Nat := if h = 0 then 0 else if h = 11 then 1 else if h = 12 then 2 else if h = 13 then 3 else if 15 < h then (if 17 < h then (if h = 18 then 6 else 7) else 5) else 4
theorem rankM {h : Nat} {τ : M2} (hh : hOk h) : F12_rank (nI h) τ = some (nI (rkN h), τ) := by
  rcases hh with rfl | rfl | rfl | rfl | rfl | rfl | rfl | rfl | rfl | rfl <;> rfl
theorem rkN_le (h : Nat) : rkN h ≤ 7 := by
  unfold rkN
  by_cases c0 : h = 0
  · rw [if_pos c0]; omega
  rw [if_neg c0]
  by_cases c1 : h = 11
  · rw [if_pos c1]; omega
  rw [if_neg c1]
  by_cases c2 : h = 12
  · rw [if_pos c2]; omega
  rw [if_neg c2]
  by_cases c3 : h = 13
  · rw [if_pos c3]; omega
  rw [if_neg c3]
  by_cases c4 : 15 < h
  · rw [if_pos c4]
    by_cases c5 : 17 < h
    · rw [if_pos c5]
      by_cases c6 : h = 18
      · rw [if_pos c6]; omega
      · rw [if_neg c6]; omega
    · rw [if_neg c5]; omega
  · rw [if_neg c4]; omega
def cn : List Nat → Nat
  | [] => 0
  | h :: l => (if h = 13 ∨ h = 19 then 1 else 0) + cn l
theorem cn_app : ∀ a b, cn (a ++ b) = cn a + cn b
  | [], b => by show cn b = 0 + cn b; omega
  | h :: l, b => by
    show (if h = 13 ∨ h = 19 then 1 else 0) + cn (l ++ b) = ((if h = 13 ∨ h = 19 then 1 else 0) + cn l) + cn b
    rw [cn_app l b]
    omega
theorem cn_rep : ∀ n, cn (List.replicate n 19) = n
  | 0 => rfl
  | n + 1 => by
    show (if 19 = 13 ∨ 19 = 19 then 1 else 0) + cn (List.replicate n 19) = n + 1
    rw [cn_rep n, if_pos (Or.inr rfl)]
    omega
/-- what lies on top is of less rank -/
def tp (r : Nat) (K : List Nat) : Prop := ∀ h l, K = h :: l → rkN h < r
def MS (f : Nat → Int32) (s t : Nat) (τ0 τ : M2) (j b : Nat) (g : Int32) (H : List Nat) (o : Nat) (O : List Nat) : Prop := τ 0 19 = nI (An f s j) ∧ τ 0 20 = g ∧ τ 0 25 = nI H.length ∧ (∀ i, i < H.length → τ 15 (H.length - 1 - i) = nI (H.getD i 0)) ∧ τ 0 26 = nI o ∧ τ 0 27 = nI O.length ∧ (∀ i, i < O.length → τ 6 (200 * t + i) = nI (O.getD i 0)) ∧ (∀ h, h ∈ H → hOk h) ∧ H.length + O.length ≤ b ∧ b ≤ 161 ∧ Fr (wM t) τ0 τ
def bodyE (fu : Nat) : (Int32 → Int32 → M2 → Option (Int32 × M2)) → Int32 → Int32 → M2 → Option (Int32 × M2) := fun (k14 : Int32 → Int32 → M2 → Option (Int32 × M2)) (x1 : Int32) (x2 : Int32) (σ : M2) => bnd (F12_next fu σ) (fun r1 s2 => if x1 = 0 then if (s2 0 21) = (59 : Int32) then bnd (F12_unwinds fu (1 : Int32) s2) (fun r23 s24 => if (s24 0 25) = 0 then some ((1 : Int32), s24) else some ((0 : Int32), s24)) else if (s2 0 21) = (41 : Int32) then bnd (F12_unwinds fu (1 : Int32) s2) (fun r16 s17 => if (s17 0 25) = 0 then some ((0 : Int32), s17) else bnd (F12_unwinds fu (7 : Int32) (up (up s17 0 25 ((s17 0 25) - (1 : Int32))) 0 26 (((up s17 0 25 ((s17 0 25) - (1 : Int32))) 0 26) - (1 : Int32)))) (fun r20 s21 => k14 x1 x2 s21)) else bnd (F12_signOf s2) (fun r7 s8 => if r7 = (-1 : Int32) then some ((0 : Int32), s8) else bnd (F12_between fu r7 s8) (fun r11 s12 => if r11 = 0 then some ((0 : Int32), s12) else if (12 : Int32) < r7 then F12_eRead_262 fu k14 (1 : Int32) (0 : Int32) s12 else F12_eRead_262 fu k14 (1 : Int32) (1 : Int32) s12)) else if (s2 0 21) = (1 : Int32) then F12_eRead_38 fu k14 x2 s2 else if (s2 0 21) = (2 : Int32) then F12_eRead_38 fu k14 x2 s2 else if (s2 0 21) = (6 : Int32) then if x2 = 0 then F12_eRead_99 fu k14 x1 s2 else bnd (F12_opensOne (13 : Int32) s2) (fun r31 s32 => if r31 = 0 then some ((0 : Int32), s32) else k14 x1 x2 s32) else F12_eRead_99 fu k14 x1 s2)
def EL (fu q : Nat) (x1 x2 : Int32) (τ : M2) : Option (Int32 × M2) := wl2 (bodyE fu) q x1 x2 τ
theorem EL_0 {fu : Nat} {x1 x2 : Int32} {τ : M2} : F12_eRead_14 fu x1 x2 τ = EL fu fu x1 x2 τ := rfl
theorem EL_s {fu q : Nat} {x1 x2 : Int32} {τ : M2} : EL fu (q + 1) x1 x2 τ = bodyE fu (EL fu q) x1 x2 τ := rfl
section REF
variable {f : Nat → Int32} {s M t j b o fu q n : Nat} {σ0 τ0 τ : M2} {H K P O : List Nat} {g m : Int32}
theorem nextS (h : Env f s M t σ0 τ0) (hc : MS f s t τ0 τ j b g H o O) (hfu : 161 < fu) : ∃ τ1, F12_next fu τ = some ((), τ1) ∧ MS f s t τ0 τ1 (j + 1) b (nI (Pn f s j)) H o O ∧ τ1 0 21 = rtk (Tn f s j) ∧ rvl (Tn f s j) (τ1 0 22) := by
  obtain ⟨h1, h2, h3, h4, h5, h6, h7, h8, h9, h10, h11⟩ := hc
  obtain ⟨e1, e2, e3, e4, e5, e6, e7, e8⟩ := h
  obtain ⟨τ1, a1, a2, a3, a4, a5, a6⟩ := nextM (j := j) (τ := τ) (fu := fu) e1 (by rw [h11 0 7 (by unfold wM; omega)]; exact e5) (fun q hq => by rw [h11 5 q (by unfold wM; omega)]; exact e6 q hq) (fun q hq => by rw [h11 14 q (by unfold wM; omega)]; exact e7 q hq) h1 hfu
  have n0 : ∀ a k, ¬ nM a k → τ1 a k = τ a k := a6
  refine ⟨τ1, a1, ⟨a2, a3, ?_, fun i hi => ?_, ?_, ?_, fun i hi => ?_, h8, h9, h10, h11.tr (a6.mono fun o k z => Or.inl (by unfold nM at z; omega))⟩, a4, a5⟩
  · rw [n0 0 25 (by unfold nM; omega)]; exact h3
  · rw [n0 15 _ (by unfold nM; omega)]; exact h4 i hi
  · rw [n0 0 26 (by unfold nM; omega)]; exact h5
  · rw [n0 0 27 (by unfold nM; omega)]; exact h6
  · rw [n0 6 _ (by unfold nM; omega)]; exact h7 i hi
theorem putsS {c : Nat} (h : Env f s M t σ0 τ0) (hc : MS f s t τ0 τ j b g H o O) (hb : b ≤ 160) : ∃ τ', F12_puts (nI c) τ = some ((), τ') ∧ MS f s t τ0 τ' j (b + 1) g H o (O ++ [c]) ∧ Fr (fun o k => o = 6 ∨ (o = 0 ∧ k = 27)) τ τ' := by
  obtain ⟨h1, h2, h3, h4, h5, h6, h7, h8, h9, h10, h11⟩ := hc
  have ht := h.2.1
  have e10 : τ 0 10 = nI t := by rw [h11 0 10 (by unfold wM; omega)]; exact h.2.2.2.2.2.2.2
  have hlen : (O ++ [c]).length = O.length + 1 := by rw [List.length_append]; rfl
  unfold F12_puts
  rw [e10, h6, code_ix, gd_t (inb_t (N := 1200) (by omega) (by omega)), nI_c (by omega)]
  refine ⟨_, rfl, ⟨?_, ?_, ?_, fun i hi => ?_, ?_, ?_, fun i hi => ?_, h8, by omega, by omega, (h11.up (by unfold wM; omega)).up (by unfold wM; omega)⟩, (Fr.rf.up (by omega)).up (by omega)⟩
  · rw [up_ne (by omega), up_ne (by omega)]; exact h1
  · rw [up_ne (by omega), up_ne (by omega)]; exact h2
  · rw [up_ne (by omega), up_ne (by omega)]; exact h3
  · rw [up_ne (by omega), up_ne (by omega)]; exact h4 i hi
  · rw [up_ne (by omega), up_ne (by omega)]; exact h5
  · rw [up_eq, up_ne (by omega), h6, nI_1, hlen]
  · rw [up_ne (by omega)]
    rw [hlen] at hi
    by_cases hiO : i = O.length
    · rw [hiO, up_eq, List.getD_eq_getElem?_getD, List.getElem?_append_right (Nat.le_refl _), Nat.sub_self]
      rfl
    · rw [up_ne (by omega), h7 i (by omega), List.getD_eq_getElem?_getD, List.getD_eq_getElem?_getD, List.getElem?_append_left (by omega)]
theorem holdsS {c : Nat} (hh : hOk c) (hc : MS f s t τ0 τ j b g H o O) (hb : b ≤ 160) : ∃ τ', F12_holds (nI c) τ = some ((), τ') ∧ MS f s t τ0 τ' j (b + 1) g (c :: H) o O := by
  obtain ⟨h1, h2, h3, h4, h5, h6, h7, h8, h9, h10, h11⟩ := hc
  unfold F12_holds
  rw [h3, gd_t (inb_t (N := 200) (by omega) (by omega)), nI_c (by omega)]
  refine ⟨_, rfl, ?_, ?_, ?_, fun i hi => ?_, ?_, ?_, fun i hi => ?_, fun x hx => ?_, ?_, by omega, (h11.up (by unfold wM; omega)).up (by unfold wM; omega)⟩
  · rw [up_ne (by omega), up_ne (by omega)]; exact h1
  · rw [up_ne (by omega), up_ne (by omega)]; exact h2
  · rw [up_eq, up_ne (by omega), h3, nI_1]; rfl
  · rw [up_ne (by omega)]
    have hi : i < H.length + 1 := hi
    show up τ 15 H.length (nI c) 15 (H.length + 1 - 1 - i) = _
    cases i with
    | zero => rw [show H.length + 1 - 1 - 0 = H.length by omega, up_eq]; rfl
    | succ i => rw [up_ne (by omega), show H.length + 1 - 1 - (i + 1) = H.length - 1 - i by omega, h4 i (by omega)]; rfl
  · rw [up_ne (by omega), up_ne (by omega)]; exact h5
  · rw [up_ne (by omega), up_ne (by omega)]; exact h6
  · rw [up_ne (by omega), up_ne (by omega)]; exact h7 i hi
  · rcases List.mem_cons.mp hx with rfl | hx
    · exact hh
    · exact h8 x hx
  · show H.length + 1 + O.length ≤ b + 1
    omega
/-- the opens' number, and what is held, changed -/
theorem MS.opens {o' : Nat} (hc : MS f s t τ0 τ j b g H o O) : MS f s t τ0 (up τ 0 26 (nI o')) j b g H o' O := by
  obtain ⟨h1, h2, h3, h4, h5, h6, h7, h8, h9, h10, h11⟩ := hc
  refine ⟨?_, ?_, ?_, fun i hi => ?_, up_eq, ?_, fun i hi => ?_, h8, h9, h10, h11.up (by unfold wM; omega)⟩
  · rw [up_ne (by omega)]; exact h1
  · rw [up_ne (by omega)]; exact h2
  · rw [up_ne (by omega)]; exact h3
  · rw [up_ne (by omega)]; exact h4 i hi
  · rw [up_ne (by omega)]; exact h6
  · rw [up_ne (by omega)]; exact h7 i hi
theorem MS.pop {c : Nat} (hc : MS f s t τ0 τ j b g (c :: H) o O) (hb : 0 < b) : MS f s t τ0 (up τ 0 25 (nI H.length)) j (b - 1) g H o O := by
  obtain ⟨h1, h2, h3, h4, h5, h6, h7, h8, h9, h10, h11⟩ := hc
  have h9 : H.length + 1 + O.length ≤ b := h9
  refine ⟨?_, ?_, up_eq, fun i hi => ?_, ?_, ?_, fun i hi => ?_, fun x hx => h8 x (List.mem_cons_of_mem _ hx), by omega, by omega, h11.up (by unfold wM; omega)⟩
  · rw [up_ne (by omega)]; exact h1
  · rw [up_ne (by omega)]; exact h2
  · rw [up_ne (by omega)]
    have h4 := h4 (i + 1) (by show i + 1 < H.length + 1; omega)
    have h4 : τ 15 (H.length + 1 - 1 - (i + 1)) = nI (H.getD i 0) := h4
    rw [← h4, show H.length + 1 - 1 - (i + 1) = H.length - 1 - i by omega]
  · rw [up_ne (by omega)]; exact h5
  · rw [up_ne (by omega)]; exact h6
  · rw [up_ne (by omega)]; exact h7 i hi
theorem MS.top {c : Nat} (hc : MS f s t τ0 τ j b g (c :: H) o O) : τ 0 25 = nI (H.length + 1) ∧ τ 15 H.length = nI c ∧ hOk c ∧ H.length + 1 + O.length ≤ b ∧ b ≤ 161 := by
  obtain ⟨h1, h2, h3, h4, h5, h6, h7, h8, h9, h10, h11⟩ := hc
  have h4 := h4 0 (by show 0 < H.length + 1; omega)
  exact ⟨h3, by rw [show (c :: H).length - 1 - 0 = H.length by show H.length + 1 - 1 - 0 = _; omega] at h4; exact h4, h8 c List.mem_cons_self, h9, h10⟩
theorem opensOneS {c : Nat} (hh : hOk c) (hc : MS f s t τ0 τ j b g H o O) (ho : o < 5) (hb : b ≤ 160) : ∃ τ', F12_opensOne (nI c) τ = some (1, τ') ∧ MS f s t τ0 τ' j (b + 1) g (c :: H) (o + 1) O := by
  have h26 : τ 0 26 = nI o := hc.2.2.2.2.1
  have e := hc.opens (o' := o + 1)
  obtain ⟨τ', a1, a2⟩ := holdsS hh e hb
  unfold F12_opensOne
  rw [h26, if_neg (show ¬ nI o = (5 : Int32) from nI_eqI (b := 5) (by omega) (by omega) (by omega)), nI_1, a1, bnd_s]
  exact ⟨τ', rfl, a2⟩
theorem opensOneF {c : Int32} (hc : MS f s t τ0 τ j b g H 5 O) : F12_opensOne c τ = some (0, τ) := by
  have h26 : τ 0 26 = nI 5 := hc.2.2.2.2.1
  unfold F12_opensOne
  rw [h26, if_pos (by decide)]
/-- what is held and binds at least so is put out -/
theorem unwindsS {r o' : Nat} (h : Env f s M t σ0 τ0) (hc : MS f s t τ0 τ j b g (P ++ K) o O) (hr : r < 100) (hP : ∀ x, x ∈ P → r ≤ rkN x) (hK : tp r K) (ho : o = o' + cn P) (ho5 : o < 1000) (hfu : 170 < fu) : ∃ τ', F12_unwinds fu (nI r) τ = some ((), τ') ∧ MS f s t τ0 τ' j b g K o' (O ++ P) ∧ Fr (fun o k => o = 6 ∨ (o = 0 ∧ 25 ≤ k ∧ k ≤ 27)) τ τ' := by
  have hPl : P.length ≤ 161 := by
    have h9 : (P ++ K).length + O.length ≤ b := hc.2.2.2.2.2.2.2.2.1
    have h10 : b ≤ 161 := hc.2.2.2.2.2.2.2.2.2.1
    rw [List.length_append] at h9
    omega
  have key : ∃ p, F12_unwinds fu (nI r) τ = some p ∧ (MS f s t τ0 (p : Unit × M2).2 j b g K o' (O ++ P) ∧ Fr (fun o k => o = 6 ∨ (o = 0 ∧ 25 ≤ k ∧ k ≤ 27)) τ p.2) := by
    unfold F12_unwinds F12_unwinds_0 F12_unwinds_62 F12_unwinds_67
    refine sl0 (R := Unit × M2) (fun q u => ∃ P1 P2, P = P1 ++ P2 ∧ q = P2.length ∧ MS f s t τ0 u j b g (P2 ++ K) (o' + cn P2) (O ++ P1) ∧ Fr (fun o k => o = 6 ∨ (o = 0 ∧ 25 ≤ k ∧ k ≤ 27)) τ u) (fun p => MS f s t τ0 p.2 j b g K o' (O ++ P) ∧ Fr (fun o k => o = 6 ∨ (o = 0 ∧ 25 ≤ k ∧ k ≤ 27)) τ p.2) ?_ P.length fu τ (by omega) ⟨[], P, rfl, rfl, by rw [List.append_nil, ← ho]; exact hc, Fr.rf⟩
    intro k0 q u hI
    obtain ⟨P1, P2, rfl, rfl, hm, hf⟩ := hI
    cases P2 with
    | nil =>
      left
      rw [List.append_nil] at hP ⊢
      have hm : MS f s t τ0 u j b g K o' (O ++ P1) := hm
      cases K with
      | nil =>
        have h25 : u 0 25 = nI 0 := hm.2.2.1
        rw [h25, if_pos (by decide)]
        exact ⟨_, rfl, hm, hf⟩
      | cons c K' =>
        obtain ⟨t1, t2, t3, t4, t5⟩ := hm.top
        have e : nI (K'.length + 1) - (1 : Int32) = nI K'.length := nI_pred _
        have hrk := hK c K' rfl
        rw [t1, if_neg (show ¬ nI (K'.length + 1) ≤ 0 from nI_ge (a := 0) (by omega) (by omega)), e, gd_t (inb_t (N := 200) (by omega) (by omega)), nI_c (by omega), t2, rankM t3, bnd_s, if_pos (nI_lt hrk (by omega))]
        exact ⟨_, rfl, hm, hf⟩
    | cons c P3 =>
      right
      have hm : MS f s t τ0 u j b g (c :: (P3 ++ K)) (o' + cn (c :: P3)) (O ++ P1) := hm
      obtain ⟨t1, t2, t3, t4, t5⟩ := hm.top
      have e : nI ((P3 ++ K).length + 1) - (1 : Int32) = nI (P3 ++ K).length := nI_pred _
      have hrk := hP c (List.mem_append.mpr (Or.inr List.mem_cons_self))
      have hrk7 := rkN_le c
      have h26 : u 0 26 = nI (o' + cn (c :: P3)) := hm.2.2.2.2.1
      have hpop := hm.pop (by omega)
      have u15 : up u 0 25 (nI (P3 ++ K).length) 15 (P3 ++ K).length = nI c := by rw [up_ne (by omega)]; exact t2
      have u26 : up u 0 25 (nI (P3 ++ K).length) 0 26 = nI (o' + cn (c :: P3)) := by rw [up_ne (by omega)]; exact h26
      have u25 : up u 0 25 (nI (P3 ++ K).length) 0 25 = nI (P3 ++ K).length := up_eq
      rw [t1, if_neg (show ¬ nI ((P3 ++ K).length + 1) ≤ 0 from nI_ge (a := 0) (by omega) (by omega)), e, gd_t (inb_t (N := 200) (by omega) (by omega)), nI_c (by omega), t2, rankM t3, bnd_s, if_neg (nI_nlt hrk (by omega)), t1, e, u25, gd_t (inb_t (N := 200) (by omega) (by omega)), nI_c (by omega), u15, u26]
      have hgo : ∀ y : Int32, nI (o' + cn (c :: P3)) - y = nI (o' + cn P3) → ∃ m s_1, m < (c :: P3).length ∧ (∃ Q1 Q2, P1 ++ c :: P3 = Q1 ++ Q2 ∧ m = Q2.length ∧ MS f s t τ0 s_1 j b g (Q2 ++ K) (o' + cn Q2) (O ++ Q1) ∧ Fr (fun o k => o = 6 ∨ (o = 0 ∧ 25 ≤ k ∧ k ≤ 27)) τ s_1) ∧ bnd (F12_puts (nI c) (up (up u 0 25 (nI (P3 ++ K).length)) 0 26 (nI (o' + cn (c :: P3)) - y))) (fun r1 s2 => k0 s2) = k0 s_1 := by
        intro y hy
        rw [hy]
        obtain ⟨τ', b1, b2, b3⟩ := putsS (c := c) h (hpop.opens (o' := o' + cn P3)) (by omega)
        rw [b1, bnd_s]
        have b2 := b2
        rw [show b - 1 + 1 = b by omega, List.append_assoc] at b2
        exact ⟨P3.length, τ', by show P3.length < P3.length + 1; omega, ⟨P1 ++ [c], P3, by rw [List.append_assoc]; rfl, rfl, b2, ((hf.up (by omega)).up (by omega)).tr (b3.mono fun o k z => by omega)⟩, rfl⟩
      have ecn : cn (c :: P3) = (if c = 13 ∨ c = 19 then 1 else 0) + cn P3 := rfl
      have hcn : cn (c :: P3) ≤ o' + cn (P1 ++ c :: P3) := by rw [cn_app]; omega
      have hc100 : c < 100 := by unfold hOk at t3; omega
      by_cases d1 : c = 13
      · rw [if_pos (show nI c = (13 : Int32) by rw [d1]; rfl)]
        refine hgo 1 ?_
        rw [ecn, if_pos (Or.inl d1)]
        exact (show nI (o' + (1 + cn P3)) - nI 1 = _ by rw [pk_sub (by omega), show o' + (1 + cn P3) - 1 = o' + cn P3 by omega])
      · rw [if_neg (show ¬ nI c = (13 : Int32) from nI_eqI (b := 13) (by omega) (by omega) d1)]
        by_cases d2 : c = 19
        · rw [if_pos (show nI c = (19 : Int32) by rw [d2]; rfl)]
          refine hgo 1 ?_
          rw [ecn, if_pos (Or.inr d2)]
          exact (show nI (o' + (1 + cn P3)) - nI 1 = _ by rw [pk_sub (by omega), show o' + (1 + cn P3) - 1 = o' + cn P3 by omega])
        · rw [if_neg (show ¬ nI c = (19 : Int32) from nI_eqI (b := 19) (by omega) (by omega) d2)]
          refine hgo 0 ?_
          rw [ecn, if_neg (by omega), Int32.sub_zero, Nat.zero_add]
  obtain ⟨⟨⟨⟩, τ'⟩, k1, k2, k3⟩ := key
  exact ⟨τ', k1, k2, k3⟩
end REF
end
