section
/-! a token at a time: the reference's loop -/
theorem rt_lt : ∀ c, c < 256 → ¬ rtk c = 1 ∧ ¬ rtk c = 2 ∧ (rtk c = 6 ↔ c = 7) ∧ (rtk c = 45 ↔ c = 45) ∧ (rtk c = 40 ↔ c = 40) ∧ (rtk c = 59 ↔ c = 59) ∧ (rtk c = 41 ↔ c = 41) ∧ (rtk c = 4 ↔ c = 5) ∧ (rtk c = 5 ↔ c = 6) ∧ (rtk c = 60 ↔ c = 60) ∧ (rtk c = 61 ↔ c = 61) ∧ (rtk c = 43 ↔ c = 43) ∧ (rtk c = 42 ↔ c = 42) ∧ (rtk c = 3 ↔ 2 ≤ c ∧ c < 5) ∧ (rtk c = 0 ↔ c = 1) := by decide +kernel
theorem rt_ge {c : Nat} (h : 256 ≤ c) : rtk c = if c < 512 then 2 else 1 := by
  unfold rtk
  rw [if_neg (by omega), if_neg (by omega), if_neg (by omega), if_neg (by omega), if_neg (by omega)]
theorem rt_no {c : Nat} {v : Int32} (h : 256 ≤ c) (h1 : ¬ v = 1) (h2 : ¬ v = 2) : ¬ rtk c = v := by
  rw [rt_ge h]
  by_cases z : c < 512
  · rw [if_pos z]; exact fun e => h2 e.symm
  · rw [if_neg z]; exact fun e => h1 e.symm
theorem rt_6 {c : Nat} : rtk c = 6 ↔ c = 7 := by
  rcases Nat.lt_or_ge c 256 with h | h
  · exact (rt_lt c h).2.2.1
  · exact ⟨fun e => absurd e (rt_no h (by decide) (by decide)), fun e => by omega⟩
theorem rt_45 {c : Nat} : rtk c = 45 ↔ c = 45 := by
  rcases Nat.lt_or_ge c 256 with h | h
  · exact (rt_lt c h).2.2.2.1
  · exact ⟨fun e => absurd e (rt_no h (by decide) (by decide)), fun e => by omega⟩
theorem rt_40 {c : Nat} : rtk c = 40 ↔ c = 40 := by
  rcases Nat.lt_or_ge c 256 with h | h
  · exact (rt_lt c h).2.2.2.2.1
  · exact ⟨fun e => absurd e (rt_no h (by decide) (by decide)), fun e => by omega⟩
theorem rt_59 {c : Nat} : rtk c = 59 ↔ c = 59 := by
  rcases Nat.lt_or_ge c 256 with h | h
  · exact (rt_lt c h).2.2.2.2.2.1
  · exact ⟨fun e => absurd e (rt_no h (by decide) (by decide)), fun e => by omega⟩
theorem rt_41 {c : Nat} : rtk c = 41 ↔ c = 41 := by
  rcases Nat.lt_or_ge c 256 with h | h
  · exact (rt_lt c h).2.2.2.2.2.2.1
  · exact ⟨fun e => absurd e (rt_no h (by decide) (by decide)), fun e => by omega⟩
theorem rt_4 {c : Nat} : rtk c = 4 ↔ c = 5 := by
  rcases Nat.lt_or_ge c 256 with h | h
  · exact (rt_lt c h).2.2.2.2.2.2.2.1
  · exact ⟨fun e => absurd e (rt_no h (by decide) (by decide)), fun e => by omega⟩
theorem rt_5 {c : Nat} : rtk c = 5 ↔ c = 6 := by
  rcases Nat.lt_or_ge c 256 with h | h
  · exact (rt_lt c h).2.2.2.2.2.2.2.2.1
  · exact ⟨fun e => absurd e (rt_no h (by decide) (by decide)), fun e => by omega⟩
theorem rt_60 {c : Nat} : rtk c = 60 ↔ c = 60 := by
  rcases Nat.lt_or_ge c 256 with h | h
  · exact (rt_lt c h).2.2.2.2.2.2.2.2.2.1
  · exact ⟨fun e => absurd e (rt_no h (by decide) (by decide)), fun e => by omega⟩
theorem rt_61 {c : Nat} : rtk c = 61 ↔ c = 61 := by
  rcases Nat.lt_or_ge c 256 with h | h
  · exact (rt_lt c h).2.2.2.2.2.2.2.2.2.2.1
  · exact ⟨fun e => absurd e (rt_no h (by decide) (by decide)), fun e => by omega⟩
theorem rt_43 {c : Nat} : rtk c = 43 ↔ c = 43 := by
  rcases Nat.lt_or_ge c 256 with h | h
  · exact (rt_lt c h).2.2.2.2.2.2.2.2.2.2.2.1
  · exact ⟨fun e => absurd e (rt_no h (by decide) (by decide)), fun e => by omega⟩
theorem rt_42 {c : Nat} : rtk c = 42 ↔ c = 42 := by
  rcases Nat.lt_or_ge c 256 with h | h
  · exact (rt_lt c h).2.2.2.2.2.2.2.2.2.2.2.2.1
  · exact ⟨fun e => absurd e (rt_no h (by decide) (by decide)), fun e => by omega⟩
theorem rt_3 {c : Nat} : rtk c = 3 ↔ 2 ≤ c ∧ c < 5 := by
  rcases Nat.lt_or_ge c 256 with h | h
  · exact (rt_lt c h).2.2.2.2.2.2.2.2.2.2.2.2.2.1
  · exact ⟨fun e => absurd e (rt_no h (by decide) (by decide)), fun e => by omega⟩
theorem rt_0 {c : Nat} : rtk c = 0 ↔ c = 1 := by
  rcases Nat.lt_or_ge c 256 with h | h
  · exact (rt_lt c h).2.2.2.2.2.2.2.2.2.2.2.2.2.2
  · exact ⟨fun e => absurd e (rt_no h (by decide) (by decide)), fun e => by omega⟩
def sgc (c : Nat) : Option Nat := if c = 5 then some 11 else if c = 6 then some 12 else if c = 60 then some 14 else if c = 61 then some 15 else if c = 43 then some 16 else if c = 45 then some 17 else if c = 42 then some 18 else none
theorem sgc_1 {c k : Nat} (h : sgc c = some k) : (c = 5 ∧ k = 11) ∨ (c = 6 ∧ k = 12) ∨ (c = 60 ∧ k = 14) ∨ (c = 61 ∧ k = 15) ∨ (c = 43 ∧ k = 16) ∨ (c = 45 ∧ k = 17) ∨ (c = 42 ∧ k = 18) := by
  unfold sgc at h
  by_cases c0 : c = 5
  · rw [if_pos c0] at h
    have := Option.some.inj h
    omega
  rw [if_neg c0] at h
  by_cases c1 : c = 6
  · rw [if_pos c1] at h
    have := Option.some.inj h
    omega
  rw [if_neg c1] at h
  by_cases c2 : c = 60
  · rw [if_pos c2] at h
    have := Option.some.inj h
    omega
  rw [if_neg c2] at h
  by_cases c3 : c = 61
  · rw [if_pos c3] at h
    have := Option.some.inj h
    omega
  rw [if_neg c3] at h
  by_cases c4 : c = 43
  · rw [if_pos c4] at h
    have := Option.some.inj h
    omega
  rw [if_neg c4] at h
  by_cases c5 : c = 45
  · rw [if_pos c5] at h
    have := Option.some.inj h
    omega
  rw [if_neg c5] at h
  by_cases c6 : c = 42
  · rw [if_pos c6] at h
    have := Option.some.inj h
    omega
  rw [if_neg c6] at h
  cases h
theorem signOfM {c : Nat} {τ : M2} (h : τ 0 21 = rtk c) : F12_signOf τ = some ((match sgc c with | some k => nI k | none => -1), τ) := by
  unfold F12_signOf sgc
  rw [h]
  by_cases c0 : c = 5
  · rw [if_pos (rt_4.mpr c0), if_pos c0]
    try rfl
  rw [if_neg (fun z => c0 (rt_4.mp z)), if_neg c0]
  by_cases c1 : c = 6
  · rw [if_pos (rt_5.mpr c1), if_pos c1]
    try rfl
  rw [if_neg (fun z => c1 (rt_5.mp z)), if_neg c1]
  by_cases c2 : c = 60
  · rw [if_pos (rt_60.mpr c2), if_pos c2]
    try rfl
  rw [if_neg (fun z => c2 (rt_60.mp z)), if_neg c2]
  by_cases c3 : c = 61
  · rw [if_pos (rt_61.mpr c3), if_pos c3]
    try rfl
  rw [if_neg (fun z => c3 (rt_61.mp z)), if_neg c3]
  by_cases c4 : c = 43
  · rw [if_pos (rt_43.mpr c4), if_pos c4]
    try rfl
  rw [if_neg (fun z => c4 (rt_43.mp z)), if_neg c4]
  by_cases c5 : c = 45
  · rw [if_pos (rt_45.mpr c5), if_pos c5]
    try rfl
  rw [if_neg (fun z => c5 (rt_45.mp z)), if_neg c5]
  by_cases c6 : c = 42
  · rw [if_pos (rt_42.mpr c6), if_pos c6]
    try rfl
  rw [if_neg (fun z => c6 (rt_42.mp z)), if_neg c6]
def opc (c : Nat) : Nat := if 512 ≤ c then 100000 + (c - 512) else c - 256
section STP
variable {f : Nat → Int32} {s M t j b o o' fu q n : Nat} {σ0 τ0 τ : M2} {H K P O : List Nat} {g m : Int32}
theorem MS.le {b' : Nat} (hc : MS f s t τ0 τ j b g H o O) (h : b ≤ b') (h2 : b' ≤ 161) : MS f s t τ0 τ j b' g H o O := by
  obtain ⟨h1, h2, h3, h4, h5, h6, h7, h8, h9, h10, h11⟩ := hc
  exact ⟨h1, h2, h3, h4, h5, h6, h7, h8, by omega, by omega, h11⟩
/-- what a fault of the reference's shows -/
def Flt (f : Nat → Int32) (s t : Nat) (τ0 τ : M2) (k : Nat) : Prop := τ 0 20 = nI (Pn f s k) ∧ Fr (wM t) τ0 τ
theorem MS.flt {j' k : Nat} (hc : MS f s t τ0 τ j' b (nI (Pn f s k)) H o O) : Flt f s t τ0 τ k := ⟨hc.2.1, hc.2.2.2.2.2.2.2.2.2.2⟩
theorem E_opd (h : Env f s M t σ0 τ0) (hc : MS f s t τ0 τ j j g (List.replicate n 19 ++ K) o O) (hT : 256 ≤ Tn f s j) (hK : tp 7 K) (ho : o = o' + n) (ho5 : o < 1000) (hfu : 170 < fu) :
    ∃ τ', EL fu (q + 1) 1 m τ = EL fu q 0 m τ' ∧ MS f s t τ0 τ' (j + 1) (j + 1) (nI (Pn f s j)) K o' (O ++ (opc (Tn f s j) :: List.replicate n 19)) := by
  have hj := h.lt (show Tn f s j ≠ 1 by omega)
  obtain ⟨τ1, a1, a2, a3, a4⟩ := nextS h hc (show 161 < fu by omega)
  have fin : ∀ y : Int32, y = nI (opc (Tn f s j)) → ∃ τ', bnd (F12_puts y τ1) (fun r1 s2 => bnd (F12_unwinds fu (7 : Int32) s2) (fun r4 s5 => EL fu q (0 : Int32) m s5)) = EL fu q 0 m τ' ∧ MS f s t τ0 τ' (j + 1) (j + 1) (nI (Pn f s j)) K o' (O ++ (opc (Tn f s j) :: List.replicate n 19)) := by
    rintro y rfl
    obtain ⟨τ2, b1, b2, -⟩ := putsS (c := opc (Tn f s j)) h a2 (by omega)
    obtain ⟨τ3, d1, d2, -⟩ := unwindsS (r := 7) (o' := o') (fu := fu) h b2 (by omega) (fun x hx => by rw [List.eq_of_mem_replicate hx]; decide) hK (by rw [cn_rep]; exact ho) ho5 hfu
    rw [b1, bnd_s, show (7 : Int32) = nI 7 from rfl, d1, bnd_s]
    rw [List.append_assoc] at d2
    exact ⟨τ3, rfl, d2⟩
  rw [EL_s]
  show ∃ τ', bnd (F12_next fu τ) _ = _ ∧ _
  rw [a1, bnd_s, if_neg (show ¬ (1 : Int32) = 0 by decide), a3, rt_ge hT]
  unfold F12_eRead_38 F12_eRead_61
  rw [a3, rt_ge hT]
  by_cases c : Tn f s j < 512
  · rw [if_pos c, if_neg (by decide), if_pos rfl, if_neg (by decide)]
    refine fin _ ?_
    rw [a4.2.1 hT c]
    unfold opc
    rw [if_neg (by omega)]
  · rw [if_neg c, if_pos rfl, if_pos rfl]
    refine fin _ ?_
    rw [a4.2.2 (by omega)]
    unfold opc
    rw [if_pos (by omega)]
    exact nI_add 100000 _
theorem E_not (h : Env f s M t σ0 τ0) (hc : MS f s t τ0 τ j j g H o O) (hT : Tn f s j = 7) (ho : o < 5) (hfu : 170 < fu) :
    ∃ τ', EL fu (q + 1) 1 1 τ = EL fu q 1 1 τ' ∧ MS f s t τ0 τ' (j + 1) (j + 1) (nI (Pn f s j)) (13 :: H) (o + 1) O := by
  have hj := h.lt (show Tn f s j ≠ 1 by omega)
  obtain ⟨τ1, a1, a2, a3, a4⟩ := nextS h hc (show 161 < fu by omega)
  obtain ⟨τ2, b1, b2⟩ := opensOneS (c := 13) (by unfold hOk; omega) a2 ho (by omega)
  rw [EL_s]
  show ∃ τ', bnd (F12_next fu τ) _ = _ ∧ _
  rw [a1, bnd_s, if_neg (show ¬ (1 : Int32) = 0 by decide), a3, hT, if_neg (by decide), if_neg (by decide), if_pos (by decide), if_neg (by decide), show (13 : Int32) = nI 13 from rfl, b1, bnd_s, if_neg (by decide)]
  exact ⟨τ2, rfl, b2⟩
theorem E_notF (h : Env f s M t σ0 τ0) (hc : MS f s t τ0 τ j j g H 5 O) (hT : Tn f s j = 7) (hfu : 170 < fu) :
    ∃ τ', EL fu (q + 1) 1 1 τ = some (0, τ') ∧ Flt f s t τ0 τ' j := by
  obtain ⟨τ1, a1, a2, a3, a4⟩ := nextS h hc (show 161 < fu by omega)
  rw [EL_s]
  show ∃ τ', bnd (F12_next fu τ) _ = _ ∧ _
  rw [a1, bnd_s, if_neg (show ¬ (1 : Int32) = 0 by decide), a3, hT, if_neg (by decide), if_neg (by decide), if_pos (by decide), if_neg (by decide), opensOneF a2, bnd_s, if_pos rfl]
  exact ⟨τ1, rfl, a2.flt⟩
/-- what is neither an operand nor a not that may stand -/
theorem E_99 (h : Env f s M t σ0 τ0) (hc : MS f s t τ0 τ j j g H o O) (hT : Tn f s j < 256) (h7 : Tn f s j ≠ 7 ∨ m = 0) (hfu : 170 < fu) :
    ∃ τ1, EL fu (q + 1) 1 m τ = F12_eRead_99 fu (EL fu q) 1 τ1 ∧ MS f s t τ0 τ1 (j + 1) j (nI (Pn f s j)) H o O ∧ τ1 0 21 = rtk (Tn f s j) := by
  obtain ⟨τ1, a1, a2, a3, a4⟩ := nextS h hc (show 161 < fu by omega)
  obtain ⟨r1, r2, -⟩ := rt_lt _ hT
  rw [EL_s]
  show ∃ τ', bnd (F12_next fu τ) _ = _ ∧ _
  rw [a1, bnd_s, if_neg (show ¬ (1 : Int32) = 0 by decide), a3, if_neg r1, if_neg r2]
  by_cases c : rtk (Tn f s j) = 6
  · rw [if_pos c, if_pos (h7.resolve_left (fun z => z (rt_6.mp c)))]
    exact ⟨τ1, rfl, a2, a3⟩
  · rw [if_neg c]
    exact ⟨τ1, rfl, a2, a3⟩
theorem E_neg (h : Env f s M t σ0 τ0) (hc : MS f s t τ0 τ j j g H o O) (hT : Tn f s j = 45) (ho : o < 5) (hfu : 170 < fu) :
    ∃ τ', EL fu (q + 1) 1 m τ = EL fu q 1 0 τ' ∧ MS f s t τ0 τ' (j + 1) (j + 1) (nI (Pn f s j)) (19 :: H) (o + 1) O := by
  have hj := h.lt (show Tn f s j ≠ 1 by omega)
  obtain ⟨τ1, a1, a2, a3⟩ := E_99 (q := q) (m := m) h hc (by omega) (Or.inl (by omega)) hfu
  obtain ⟨τ2, b1, b2⟩ := opensOneS (c := 19) (by unfold hOk; omega) a2 ho (by omega)
  rw [a1]
  unfold F12_eRead_99
  rw [a3, hT, if_pos (by decide), show (19 : Int32) = nI 19 from rfl, b1, bnd_s, if_neg (by decide)]
  exact ⟨τ2, rfl, b2⟩
theorem E_negF (h : Env f s M t σ0 τ0) (hc : MS f s t τ0 τ j j g H 5 O) (hT : Tn f s j = 45) (hfu : 170 < fu) :
    ∃ τ', EL fu (q + 1) 1 m τ = some (0, τ') ∧ Flt f s t τ0 τ' j := by
  obtain ⟨τ1, a1, a2, a3⟩ := E_99 (q := q) (m := m) h hc (by omega) (Or.inl (by omega)) hfu
  rw [a1]
  unfold F12_eRead_99
  rw [a3, hT, if_pos (by decide), opensOneF a2, bnd_s, if_pos rfl]
  exact ⟨τ1, rfl, a2.flt⟩
theorem E_par (h : Env f s M t σ0 τ0) (hc : MS f s t τ0 τ j j g H o O) (hT : Tn f s j = 40) (ho : o < 5) (hfu : 170 < fu) :
    ∃ τ', EL fu (q + 1) 1 m τ = EL fu q 1 1 τ' ∧ MS f s t τ0 τ' (j + 1) (j + 1) (nI (Pn f s j)) (0 :: H) (o + 1) O := by
  have hj := h.lt (show Tn f s j ≠ 1 by omega)
  obtain ⟨τ1, a1, a2, a3⟩ := E_99 (q := q) (m := m) h hc (by omega) (Or.inl (by omega)) hfu
  obtain ⟨τ2, b1, b2⟩ := opensOneS (c := 0) (by unfold hOk; omega) a2 ho (by omega)
  rw [a1]
  unfold F12_eRead_99
  have b1 : F12_opensOne 0 τ1 = some (1, τ2) := b1
  rw [a3, hT, if_neg (by decide), if_pos (by decide), b1, bnd_s, if_neg (by decide)]
  exact ⟨τ2, rfl, b2⟩
theorem E_parF (h : Env f s M t σ0 τ0) (hc : MS f s t τ0 τ j j g H 5 O) (hT : Tn f s j = 40) (hfu : 170 < fu) :
    ∃ τ', EL fu (q + 1) 1 m τ = some (0, τ') ∧ Flt f s t τ0 τ' j := by
  obtain ⟨τ1, a1, a2, a3⟩ := E_99 (q := q) (m := m) h hc (by omega) (Or.inl (by omega)) hfu
  rw [a1]
  unfold F12_eRead_99
  rw [a3, hT, if_neg (by decide), if_pos (by decide), opensOneF a2, bnd_s, if_pos rfl]
  exact ⟨τ1, rfl, a2.flt⟩
theorem E_badw (h : Env f s M t σ0 τ0) (hc : MS f s t τ0 τ j j g H o O) (hT : Tn f s j < 256) (h7 : Tn f s j ≠ 7 ∨ m = 0) (h45 : Tn f s j ≠ 45) (h40 : Tn f s j ≠ 40) (hfu : 170 < fu) :
    ∃ τ', EL fu (q + 1) 1 m τ = some (0, τ') ∧ Flt f s t τ0 τ' j := by
  obtain ⟨τ1, a1, a2, a3⟩ := E_99 (q := q) (m := m) h hc hT h7 hfu
  rw [a1]
  unfold F12_eRead_99
  rw [a3, if_neg (fun z => h45 (rt_45.mp z)), if_neg (fun z => h40 (rt_40.mp z))]
  exact ⟨τ1, rfl, a2.flt⟩
/-! behind an operand -/
theorem E_sg {k : Nat} (h : Env f s M t σ0 τ0) (hc : MS f s t τ0 τ j j g H o O) (hT : sgc (Tn f s j) = some k) (hfu : 170 < fu) :
    ∃ τ1, EL fu (q + 1) 0 m τ = bnd (F12_between fu (nI k) τ1) (fun r11 s12 => if r11 = 0 then some ((0 : Int32), s12) else if (12 : Int32) < nI k then F12_eRead_262 fu (EL fu q) (1 : Int32) (0 : Int32) s12 else F12_eRead_262 fu (EL fu q) (1 : Int32) (1 : Int32) s12) ∧ MS f s t τ0 τ1 (j + 1) j (nI (Pn f s j)) H o O := by
  obtain ⟨τ1, a1, a2, a3, a4⟩ := nextS h hc (show 161 < fu by omega)
  have hk := sgc_1 hT
  rw [EL_s]
  show ∃ τ', bnd (F12_next fu τ) _ = _ ∧ _
  rw [a1, bnd_s, if_pos rfl, a3, if_neg (fun z => by have := rt_59.mp z; omega), if_neg (fun z => by have := rt_41.mp z; omega), signOfM a3, bnd_s, hT]
  show ∃ τ', (if nI k = (-1 : Int32) then _ else _) = _ ∧ _
  rw [if_neg (nI_nm1 (by omega))]
  exact ⟨τ1, rfl, a2⟩
def mN (k : Nat) : Int32 := if k ≤ 12 then 1 else 0
theorem E_fin {k : Nat} {τ1 : M2} (hk : k < 100) : (if (1 : Int32) = 0 then some ((0 : Int32), τ1) else if (12 : Int32) < nI k then F12_eRead_262 fu (EL fu q) (1 : Int32) (0 : Int32) τ1 else F12_eRead_262 fu (EL fu q) (1 : Int32) (1 : Int32) τ1) = EL fu q 1 (mN k) τ1 := by
  unfold F12_eRead_262 mN
  rw [if_neg (by decide)]
  by_cases c : k ≤ 12
  · rw [if_neg (show ¬ (12 : Int32) < nI k from nI_nlt (a := 12) c (by omega)), if_pos c]
  · rw [if_pos (show (12 : Int32) < nI k from nI_lt (a := 12) (by omega) (by omega)), if_neg c]
theorem E_sign {k : Nat} (h : Env f s M t σ0 τ0) (hc : MS f s t τ0 τ j j g (P ++ K) o O) (hT : sgc (Tn f s j) = some k) (h4 : rkN k ≠ 4) (hP : ∀ x, x ∈ P → rkN k ≤ rkN x) (hK : tp (rkN k) K) (ho : o = o' + cn P) (ho5 : o < 1000) (hfu : 170 < fu) :
    ∃ τ', EL fu (q + 1) 0 m τ = EL fu q 1 (mN k) τ' ∧ MS f s t τ0 τ' (j + 1) (j + 1) (nI (Pn f s j)) (k :: K) o' (O ++ P) := by
  have hk := sgc_1 hT
  have hj := h.lt (show Tn f s j ≠ 1 by omega)
  obtain ⟨τ1, a1, a2⟩ := E_sg (q := q) (m := m) h hc hT hfu
  have hr7 := rkN_le k
  have hok : hOk k := by unfold hOk; omega
  obtain ⟨τ2, b1, b2, -⟩ := unwindsS (r := rkN k) (o' := o') (fu := fu) h a2 (by omega) hP hK ho ho5 hfu
  obtain ⟨τ3, d1, d2⟩ := holdsS hok b2 (by omega)
  have n4 : ¬ nI (rkN k) = (4 : Int32) := nI_eqI (b := 4) (by omega) (by omega) h4
  rw [a1]
  unfold F12_between F12_between_17 F12_between_55
  rw [rankM hok, bnd_s, if_neg n4, rankM hok, bnd_s, b1, bnd_s, rankM hok, bnd_s, if_neg n4, d1, bnd_s, bnd_s, E_fin (by omega)]
  exact ⟨τ3, rfl, d2⟩
theorem E_cmp {k : Nat} (h : Env f s M t σ0 τ0) (hc : MS f s t τ0 τ j j g (P ++ K) o O) (hT : sgc (Tn f s j) = some k) (h4 : rkN k = 4) (hP : ∀ x, x ∈ P → 5 ≤ rkN x) (hK : tp 4 K) (ho : o = o' + cn P) (ho5 : o < 1000) (hfu : 170 < fu) :
    ∃ τ', EL fu (q + 1) 0 m τ = EL fu q 1 (mN k) τ' ∧ MS f s t τ0 τ' (j + 1) (j + 1) (nI (Pn f s j)) (k :: K) o' (O ++ P) := by
  have hk := sgc_1 hT
  have hj := h.lt (show Tn f s j ≠ 1 by omega)
  obtain ⟨τ1, a1, a2⟩ := E_sg (q := q) (m := m) h hc hT hfu
  have hok : hOk k := by unfold hOk; omega
  obtain ⟨τ2, b1, b2, -⟩ := unwindsS (r := 5) (o' := o') (fu := fu) h a2 (by omega) hP (fun x l e => by have := hK x l e; omega) ho ho5 hfu
  obtain ⟨τ3, d1, d2⟩ := holdsS hok b2 (by omega)
  have b1 : F12_unwinds fu 5 τ1 = some ((), τ2) := b1
  have e4 : nI (rkN k) = (4 : Int32) := by rw [h4]; rfl
  rw [a1]
  unfold F12_between F12_between_17 F12_between_55
  rw [rankM hok, bnd_s, if_pos e4, b1, bnd_s, rankM hok, bnd_s, if_pos e4]
  cases K with
  | nil =>
    have h25 : τ2 0 25 = nI 0 := b2.2.2.1
    rw [h25, if_pos (by decide), d1, bnd_s, bnd_s, E_fin (by omega)]
    exact ⟨τ3, rfl, d2⟩
  | cons c K' =>
    obtain ⟨t1, t2, t3, t4, t5⟩ := b2.top
    have hrk := hK c K' rfl
    have e : nI (K'.length + 1) - (1 : Int32) = nI K'.length := nI_pred _
    rw [t1, if_neg (show ¬ nI (K'.length + 1) ≤ 0 from nI_ge (a := 0) (by omega) (by omega)), e, gd_t (inb_t (N := 200) (by omega) (by omega)), nI_c (by omega), t2, rankM t3, bnd_s, if_neg (show ¬ nI (rkN c) = (4 : Int32) from nI_eqI (b := 4) (by omega) (by omega) (by omega)), d1, bnd_s, bnd_s, E_fin (by omega)]
    exact ⟨τ3, rfl, d2⟩
theorem E_cmpF {k c : Nat} {K' : List Nat} (h : Env f s M t σ0 τ0) (hc : MS f s t τ0 τ j j g (P ++ c :: K') o O) (hT : sgc (Tn f s j) = some k) (h4 : rkN k = 4) (hP : ∀ x, x ∈ P → 5 ≤ rkN x) (hc4 : rkN c = 4) (ho : o = o' + cn P) (ho5 : o < 1000) (hfu : 170 < fu) :
    ∃ τ', EL fu (q + 1) 0 m τ = some (0, τ') ∧ Flt f s t τ0 τ' j := by
  have hk := sgc_1 hT
  have hj := h.lt (show Tn f s j ≠ 1 by omega)
  obtain ⟨τ1, a1, a2⟩ := E_sg (q := q) (m := m) h hc hT hfu
  have hok : hOk k := by unfold hOk; omega
  obtain ⟨τ2, b1, b2, -⟩ := unwindsS (r := 5) (o' := o') (fu := fu) h a2 (by omega) hP (fun x l e => by injection e with e1 e2; rw [← e1]; omega) ho ho5 hfu
  have b1 : F12_unwinds fu 5 τ1 = some ((), τ2) := b1
  have e4 : nI (rkN k) = (4 : Int32) := by rw [h4]; rfl
  obtain ⟨t1, t2, t3, t4, t5⟩ := b2.top
  have e : nI (K'.length + 1) - (1 : Int32) = nI K'.length := nI_pred _
  rw [a1]
  unfold F12_between F12_between_17
  rw [rankM hok, bnd_s, if_pos e4, b1, bnd_s, rankM hok, bnd_s, if_pos e4, t1, if_neg (show ¬ nI (K'.length + 1) ≤ 0 from nI_ge (a := 0) (by omega) (by omega)), e, gd_t (inb_t (N := 200) (by omega) (by omega)), nI_c (by omega), t2, rankM t3, bnd_s, if_pos (show nI (rkN c) = (4 : Int32) by rw [hc4]; rfl), bnd_s, if_pos rfl]
  exact ⟨τ2, rfl, b2.flt⟩
theorem E_close (h : Env f s M t σ0 τ0) (hc : MS f s t τ0 τ j j g (P ++ 0 :: (List.replicate n 19 ++ K)) o O) (hT : Tn f s j = 41) (hP : ∀ x, x ∈ P → 1 ≤ rkN x) (hK : tp 7 K) (ho : o = o' + n + 1 + cn P) (ho5 : o < 1000) (hfu : 170 < fu) :
    ∃ τ', EL fu (q + 1) 0 m τ = EL fu q 0 m τ' ∧ MS f s t τ0 τ' (j + 1) (j + 1) (nI (Pn f s j)) K o' (O ++ (P ++ List.replicate n 19)) := by
  have hj := h.lt (show Tn f s j ≠ 1 by omega)
  obtain ⟨τ1, a1, a2, a3, a4⟩ := nextS h hc (show 161 < fu by omega)
  obtain ⟨τ2, b1, b2, -⟩ := unwindsS (r := 1) (o' := o' + n + 1) (fu := fu) h a2 (by omega) hP (fun x l e => by injection e with e1 e2; rw [← e1]; decide) ho ho5 hfu
  have b1 : F12_unwinds fu 1 τ1 = some ((), τ2) := b1
  obtain ⟨t1, t2, t3, t4, t5⟩ := b2.top
  have hpop := (b2.pop (by omega)).opens (o' := o' + n)
  obtain ⟨τ3, d1, d2, -⟩ := unwindsS (r := 7) (o' := o') (fu := fu) h hpop (by omega) (fun x hx => by rw [List.eq_of_mem_replicate hx]; decide) hK (by rw [cn_rep]) (by omega) hfu
  have d1 : F12_unwinds fu 7 _ = some ((), τ3) := d1
  have h26 : τ2 0 26 = nI (o' + n + 1) := b2.2.2.2.2.1
  have hz : ¬ nI ((List.replicate n 19 ++ K).length + 1) = 0 := nI_eqI (b := 0) (by omega) (by omega) (by omega)
  rw [EL_s]
  show ∃ τ', bnd (F12_next fu τ) _ = _ ∧ _
  rw [a1, bnd_s, if_pos rfl, a3, hT, if_neg (by decide), if_pos (by decide), b1, bnd_s, t1, if_neg hz, nI_pred, up_ne (by omega), h26, nI_pred, d1, bnd_s]
  rw [List.append_assoc] at d2
  exact ⟨τ3, rfl, d2.le (by omega) (by omega)⟩
theorem E_closeF (h : Env f s M t σ0 τ0) (hc : MS f s t τ0 τ j j g P o O) (hT : Tn f s j = 41) (hP : ∀ x, x ∈ P → 1 ≤ rkN x) (ho : o = o' + cn P) (ho5 : o < 1000) (hfu : 170 < fu) :
    ∃ τ', EL fu (q + 1) 0 m τ = some (0, τ') ∧ Flt f s t τ0 τ' j := by
  obtain ⟨τ1, a1, a2, a3, a4⟩ := nextS h hc (show 161 < fu by omega)
  obtain ⟨τ2, b1, b2, -⟩ := unwindsS (r := 1) (o' := o') (P := P) (K := []) (fu := fu) h (by rw [List.append_nil]; exact a2) (by omega) hP (fun x l e => by cases e) ho ho5 hfu
  have b1 : F12_unwinds fu 1 τ1 = some ((), τ2) := b1
  have h25 : τ2 0 25 = nI 0 := b2.2.2.1
  rw [EL_s]
  show ∃ τ', bnd (F12_next fu τ) _ = _ ∧ _
  rw [a1, bnd_s, if_pos rfl, a3, hT, if_neg (by decide), if_pos (by decide), b1, bnd_s, h25, if_pos (show nI 0 = 0 from rfl)]
  exact ⟨τ2, rfl, b2.flt⟩
theorem E_semi (h : Env f s M t σ0 τ0) (hc : MS f s t τ0 τ j j g P o O) (hT : Tn f s j = 59) (hP : ∀ x, x ∈ P → 1 ≤ rkN x) (ho : o = o' + cn P) (ho5 : o < 1000) (hfu : 170 < fu) :
    ∃ τ', EL fu (q + 1) 0 m τ = some (1, τ') ∧ MS f s t τ0 τ' (j + 1) j (nI (Pn f s j)) [] o' (O ++ P) := by
  obtain ⟨τ1, a1, a2, a3, a4⟩ := nextS h hc (show 161 < fu by omega)
  obtain ⟨τ2, b1, b2, -⟩ := unwindsS (r := 1) (o' := o') (P := P) (K := []) (fu := fu) h (by rw [List.append_nil]; exact a2) (by omega) hP (fun x l e => by cases e) ho ho5 hfu
  have b1 : F12_unwinds fu 1 τ1 = some ((), τ2) := b1
  have h25 : τ2 0 25 = nI 0 := b2.2.2.1
  rw [EL_s]
  show ∃ τ', bnd (F12_next fu τ) _ = _ ∧ _
  rw [a1, bnd_s, if_pos rfl, a3, hT, if_pos (by decide), b1, bnd_s, h25, if_pos (show nI 0 = 0 from rfl)]
  exact ⟨τ2, rfl, b2⟩
theorem E_semiF {K' : List Nat} (h : Env f s M t σ0 τ0) (hc : MS f s t τ0 τ j j g (P ++ 0 :: K') o O) (hT : Tn f s j = 59) (hP : ∀ x, x ∈ P → 1 ≤ rkN x) (ho : o = o' + cn P) (ho5 : o < 1000) (hfu : 170 < fu) :
    ∃ τ', EL fu (q + 1) 0 m τ = some (0, τ') ∧ Flt f s t τ0 τ' j := by
  obtain ⟨τ1, a1, a2, a3, a4⟩ := nextS h hc (show 161 < fu by omega)
  obtain ⟨τ2, b1, b2, -⟩ := unwindsS (r := 1) (o' := o') (fu := fu) h a2 (by omega) hP (fun x l e => by injection e with e1 e2; rw [← e1]; decide) ho ho5 hfu
  have b1 : F12_unwinds fu 1 τ1 = some ((), τ2) := b1
  obtain ⟨t1, t2, t3, t4, t5⟩ := b2.top
  rw [EL_s]
  show ∃ τ', bnd (F12_next fu τ) _ = _ ∧ _
  rw [a1, bnd_s, if_pos rfl, a3, hT, if_pos (by decide), b1, bnd_s, t1, if_neg (show ¬ nI (K'.length + 1) = 0 from nI_eqI (b := 0) (by omega) (by omega) (by omega))]
  exact ⟨τ2, rfl, b2.flt⟩
theorem E_bad0 (h : Env f s M t σ0 τ0) (hc : MS f s t τ0 τ j j g H o O) (hT : sgc (Tn f s j) = none) (h59 : Tn f s j ≠ 59) (h41 : Tn f s j ≠ 41) (hfu : 170 < fu) :
    ∃ τ', EL fu (q + 1) 0 m τ = some (0, τ') ∧ Flt f s t τ0 τ' j := by
  obtain ⟨τ1, a1, a2, a3, a4⟩ := nextS h hc (show 161 < fu by omega)
  rw [EL_s]
  show ∃ τ', bnd (F12_next fu τ) _ = _ ∧ _
  rw [a1, bnd_s, if_pos rfl, a3, if_neg (fun z => h59 (rt_59.mp z)), if_neg (fun z => h41 (rt_41.mp z)), signOfM a3, bnd_s, hT]
  show ∃ τ', (if (-1 : Int32) = (-1 : Int32) then _ else _) = _ ∧ _
  rw [if_pos rfl]
  exact ⟨τ1, rfl, a2.flt⟩
end STP
end
