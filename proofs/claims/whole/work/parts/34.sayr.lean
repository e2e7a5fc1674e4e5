/-! says() and asksOf() -/
def clo (p : Nat) : Int32 := if p = 0 then 0 else -99
theorem cl_b {lo w : Int32} (h : lo.toInt ≤ 99) : lo.toInt ≤ (cl lo w).toInt ∧ (cl lo w).toInt ≤ 99 := by
  have h99 : (99 : Int32).toInt = 99 := rfl
  unfold cl
  by_cases h1 : lo ≤ w
  · rw [if_pos h1]
    by_cases h2 : w ≤ 99
    · rw [if_pos h2]
      rw [Int32.le_iff_toInt_le] at h1 h2
      rw [h99] at h2
      exact ⟨h1, h2⟩
    · rw [if_neg h2, h99]
      exact ⟨h, by omega⟩
  · rw [if_neg h1]
    exact ⟨by omega, h⟩
theorem clo_b (p : Nat) : -99 ≤ (clo p).toInt ∧ (clo p).toInt ≤ 99 := by
  unfold clo
  by_cases h : p = 0
  · rw [if_pos h]; decide
  · rw [if_neg h]; decide
theorem sC1_dC {i o k : Nat} (hi : i < 6) (h : sC1 i o k) : sC o k := by
  rcases h with h | h
  · exact Or.inr ⟨i, hi, Or.inl h⟩
  · exact Or.inr ⟨i, hi, Or.inr h⟩
theorem value_rel {w p : Nat} {σ τ : M2} {fu fu' : Nat} (h : TR σ τ w) (hw : w < 6) (hp : p < 3) (hrule : τ 0 11 = nI w) (hnm : ∀ q, q < 6 → σ 46 q = τ 17 q) (hfu : 161 < fu) (hfu' : 161 < fu') :
    ∃ u σ' τ', F9_value fu (12 + 4 * w) (nI p) 46 σ = some (cl (clo p) u, σ') ∧ F12_says fu' (nI p) τ = some (u, τ') ∧ Fr (sC1 w) σ σ' ∧ Fr sM1 τ τ' := by
  obtain ⟨t1, t2, t3, t4, t5, t6, t7, t8⟩ := tx_sh w hw
  obtain ⟨e0, e1, e2, h1, h2, h3, h4, h5, h6, h7, s1, s2, s3⟩ := h
  have hup : Fr (sC1 w) σ (up σ (12 + 4 * w) 4 0) := Fr.rf.up (Or.inl ⟨rfl, rfl⟩)
  have e13 : (up σ (12 + 4 * w) 4 0) (13 + 4 * w) = σ (13 + 4 * w) := funext fun k => up_ne (by omega)
  have seg : ∀ lo hi, Seg σ τ w lo hi → Seg (up σ (12 + 4 * w) 4 0) τ w lo hi := fun lo hi hs => ⟨hs.1, hs.2.1, fun k a b => by rw [e13]; exact hs.2.2.1 k a b, by rw [e13]; exact hs.2.2.2⟩
  have hnm' : ∀ q, q < 6 → (up σ (12 + 4 * w) 4 0) 46 q = τ 17 q := fun q hq => by rw [up_ne (by omega)]; exact hnm q hq
  have key : ∀ lo hi, σ (14 + 4 * w) p = nI hi → τ 7 (4 * w + p) = nI lo → τ 7 (4 * w + p + 1) = nI hi → Seg σ τ w lo hi → (p = 0 → lo = 0) → (∀ q, p = q + 1 → σ (14 + 4 * w) q = nI lo) → ∃ u σ' τ', F9_value fu (12 + 4 * w) (nI p) 46 σ = some (cl (clo p) u, σ') ∧ F12_says fu' (nI p) τ = some (u, τ') ∧ Fr (sC1 w) σ σ' ∧ Fr sM1 τ τ' := by
    intro lo hi k1 k2 k3 k4 k5 k6
    obtain ⟨r, r', a1, a2, a3, a4, a5⟩ := says_seg hw hp (seg lo hi k4) hrule k3 hnm' up_eq hfu hfu'
    refine ⟨r'.1, r.2, r'.2, ?_, ?_, hup.tr a4, a5⟩
    · unfold F9_value F9_value_32
      rw [gd_t (isO_t t1), t6, fat t3 (by omega) (by omega), bnd_s, k1]
      have hr : r = (cl (clo p) r'.1, r.2) := by rw [← show r.1 = cl (clo p) r'.1 from a3]
      rw [← hr, ← a1]
      by_cases hp0 : p = 0
      · subst hp0
        rw [if_pos (show nI 0 = 0 from rfl), k5 rfl]
        rfl
      · obtain ⟨q, rfl⟩ : ∃ q, p = q + 1 := ⟨p - 1, by omega⟩
        rw [if_neg (fun e => by
          have e2 : nI (q + 1) = nI 0 := e
          have := (nI_eq (by omega) (by omega)).mp e2
          omega), nI_pred, fat (N := 3) t3 (by omega) (by omega), bnd_s, up_ne (by omega), k6 q rfl]
    · unfold F12_says
      rw [hrule, rule_ix, gd_t (inb_t (N := 24) (by omega) (by omega)), nI_c (by omega), k2]
      exact a2
  rcases (show p = 0 ∨ p = 1 ∨ p = 2 by omega) with rfl | rfl | rfl
  · exact key 0 e0 h1 h4 h5 s1 (fun _ => rfl) (fun q hq => by omega)
  · exact key e0 e1 h2 h5 h6 s2 (fun e => by omega) (fun q hq => by
      obtain rfl : q = 0 := by omega
      exact h1)
  · exact key e1 e2 h3 h6 h7 s3 (fun e => by omega) (fun q hq => by
      obtain rfl : q = 1 := by omega
      exact h2)
theorem cl0 : (0 : Int32).toNatClampNeg = 0 := rfl
theorem cl1 : (1 : Int32).toNatClampNeg = 1 := rfl
theorem cl2 : (2 : Int32).toNatClampNeg = 2 := rfl
theorem cl3 : (3 : Int32).toNatClampNeg = 3 := rfl
theorem cl4 : (4 : Int32).toNatClampNeg = 4 := rfl
theorem cl5 : (5 : Int32).toNatClampNeg = 5 := rfl
theorem ix3 {c : Nat} : (3 : Int32) * nI c = nI (3 * c) := by rw [show (3 : Int32) = nI 3 from rfl, pk_mul]
theorem ix2 {c : Nat} : (2 : Int32) * nI c = nI (2 * c) := by rw [show (2 : Int32) = nI 2 from rfl, pk_mul]
theorem ixp2 {c : Nat} : nI c + (2 : Int32) = nI (c + 2) := by rw [show (2 : Int32) = nI 2 from rfl, nI_add]
theorem fsetl {o N : Nat} {j : Nat} {z x : Int32} {σ : M2} (hz : z = nI j) (ho : csh o = (0, N)) (hj : j < N) (hN : N < 2 ^ 31) : F11_set o z x σ = some ((), up σ o j x) := by rw [hz]; exact fset ho hj hN
theorem neg1 : (-1 : Int32) < 0 := by decide
theorem nI_ne1 {k : Nat} (h : k < 2 ^ 31) : ¬ nI k = -1 := fun e => nn_nI h (by rw [e]; decide)
theorem theLaw_eq {w : Nat} {σ : M2} (hw : w < 6) (h : σ 10 2 = nI w) : F10_theLaw σ = some (some (12 + 4 * w), σ) := by
  unfold F10_theLaw F10_textAt
  rw [h, if_neg (nn_nI (by omega))]
  show bnd (if nI 6 ≤ nI w then _ else _) _ = _
  rw [if_neg (nI_ge hw (by omega)), gd_t (inb_t hw (by omega)), nI_c (by omega), (tx_sh w hw).2.2.2.2.2.2.2]
  rfl
/-- the names' row on both sides -/
def nmC (σ : M2) (a b c d e f : Int32) : M2 := up (up (up (up (up (up σ 46 0 a) 46 1 b) 46 2 c) 46 3 d) 46 4 e) 46 5 f
def nmM (τ : M2) (a b c d e f : Int32) : M2 := up (up (up (up (up (up τ 17 0 a) 17 1 b) 17 2 c) 17 3 d) 17 4 e) 17 5 f
theorem nm_eq {σ τ : M2} {a b c d e f : Int32} : ∀ q, q < 6 → nmC σ a b c d e f 46 q = nmM τ a b c d e f 17 q := by
  intro q hq
  rcases (show q = 0 ∨ q = 1 ∨ q = 2 ∨ q = 3 ∨ q = 4 ∨ q = 5 by omega) with rfl | rfl | rfl | rfl | rfl | rfl <;> simp [nmC, nmM, up_at]
theorem nmC_fr {σ : M2} {a b c d e f : Int32} : Fr (fun o _ => o = 46) σ (nmC σ a b c d e f) := fun o k h => by
  have h : ¬ o = 46 := h
  unfold nmC
  rw [up_ne (fun z => h z.1), up_ne (fun z => h z.1), up_ne (fun z => h z.1), up_ne (fun z => h z.1), up_ne (fun z => h z.1), up_ne (fun z => h z.1)]
theorem nmM_fr {σ : M2} {a b c d e f : Int32} : Fr (fun o _ => o = 17) σ (nmM σ a b c d e f) := fun o k h => by
  have h : ¬ o = 17 := h
  unfold nmM
  rw [up_ne (fun z => h z.1), up_ne (fun z => h z.1), up_ne (fun z => h z.1), up_ne (fun z => h z.1), up_ne (fun z => h z.1), up_ne (fun z => h z.1)]
theorem says127 {n r w p : Nat} {σ τ σ0 τ0 : M2} {fu fu' : Nat} {a b c d e f : Int32} (h : RD n r w σ0 τ0) (hp : p < 3) (hfu : 161 < fu) (hfu' : 161 < fu') (hσ : σ = nmC σ0 a b c d e f) (hτ : τ = nmM τ0 a b c d e f) :
    ∃ u σ' τ', (bnd (F10_theLaw σ) (fun r4 s5 => match r4 with | none => some ((0 : Int32), s5) | some q7 => gd (isO csh q7 8 5) (bnd (F9_value fu q7 (nI p) 46 s5) (fun r8 s9 => some (r8, s9))))) = some (cl (clo p) u, σ') ∧ F12_says fu' (nI p) τ = some (u, τ') ∧ Fr sC σ0 σ' ∧ Fr sM τ0 τ' := by
  have hf : Fr (fun o _ => o = 46) σ0 σ := by rw [hσ]; exact nmC_fr
  have hg : Fr (fun o _ => o = 17) τ0 τ := by rw [hτ]; exact nmM_fr
  have hd : RD n r w σ τ := h.fr (hf.mono fun o k q => sC_dC (Or.inl q)) (hg.mono fun o k q => sM_dM (Or.inr q))
  obtain ⟨h1, h2, h3, h4, h5, h6, h7, h8, h9, h10, h11, h12⟩ := hd
  obtain ⟨u, σ', τ', v1, v2, v3, v4⟩ := value_rel (fu := fu) (fu' := fu') h12 h3 hp h11 (by rw [hσ, hτ]; exact nm_eq) hfu hfu'
  refine ⟨u, σ', τ', ?_, v2, ?_, ?_⟩
  · rw [theLaw_eq h3 h10, bnd_s]
    show gd (isO csh (12 + 4 * w) 8 5) _ = _
    rw [gd_t (isO_t (tx_sh w h3).1), v1, bnd_s]
  · exact (hf.mono fun o k q => Or.inl q).tr (v3.mono fun o k q => sC1_dC h3 q)
  · exact (hg.mono fun o k q => Or.inr q).tr (v4.mono fun o k q => Or.inl q)
theorem says_rel {n r w p c : Nat} {rr wins : Int32} {σ τ : M2} {fu fu' : Nat} (h : RD n r w σ τ) (hp : p < 3) (hc : c < n) (hr : rr = -1 ∨ ∃ k, k < r ∧ rr = nI k) (hfu : 161 < fu) (hfu' : 161 < fu') :
    ∃ v σ' τ', F2_says fu (nI p) (nI c) rr wins σ = some (v, σ') ∧ F12_asksOf fu' (nI p) (nI c) rr wins τ = some (v, τ') ∧ Fr sC σ σ' ∧ Fr sM τ τ' ∧ (clo p).toInt ≤ v.toInt ∧ v.toInt ≤ 99 := by
  obtain ⟨h1, h2, h3, h4, h5, h6, h7, h8, h9, h10, h11, h12⟩ := id h
  obtain ⟨k1, k2, k3, k4, k5, k6⟩ := h8 c hc
  have hsaysM : ∀ (u : Int32) (τ' : M2), (if nI p = 0 then F12_asksOf_126 fu' (0 : Int32) u τ' else F12_asksOf_126 fu' (-99 : Int32) u τ') = some (cl (clo p) u, τ') := by
    intro u τ'
    unfold F12_asksOf_126 F12_within cl clo
    by_cases hp0 : p = 0
    · subst hp0
      rw [if_pos (show nI 0 = 0 from rfl), if_pos rfl]
      by_cases q1 : (0 : Int32) ≤ u
      · by_cases q2 : u ≤ (99 : Int32) <;> simp [q1, q2, bnd]
      · simp [q1, bnd]
    · rw [if_neg (fun e => hp0 (by
          have e2 : nI p = nI 0 := e
          exact (nI_eq (by omega) (by omega)).mp e2)), if_neg hp0]
      by_cases q1 : (-99 : Int32) ≤ u
      · by_cases q2 : u ≤ (99 : Int32) <;> simp [q1, q2, bnd]
      · simp [q1, bnd]
  rcases hr with rfl | ⟨k, hk, rfl⟩
  · -- of no race
    obtain ⟨u, σ', τ', v1, v2, v3, v4⟩ := says127 (fu := fu) (fu' := fu') (σ := nmC σ (σ 2 c) (σ 3 c) wins 0 0 0) (τ := nmM τ (σ 2 c) (σ 3 c) wins 0 0 0) h hp hfu hfu' rfl rfl
    refine ⟨cl (clo p) u, σ', τ', ?_, ?_, v3, v4, (cl_b (clo_b p).2).1, (cl_b (clo_b p).2).2⟩
    · unfold F2_says
      rw [if_pos neg1]
      unfold F2_says_9
      rw [fat (N := 8) (by decide) (by omega) (by omega), bnd_s, fsetl (z := 0) (j := 0) (N := 6) rfl (by decide) (by omega) (by omega), bnd_s, fat (N := 8) (by decide) (by omega) (by omega), bnd_s, fsetl (z := 1) (j := 1) (N := 6) rfl (by decide) (by omega) (by omega), bnd_s, fsetl (z := 2) (j := 2) (N := 6) rfl (by decide) (by omega) (by omega), bnd_s, if_pos rfl]
      unfold F2_says_84
      rw [fsetl (z := 3) (j := 3) (N := 6) rfl (by decide) (by omega) (by omega), bnd_s, if_pos rfl]
      unfold F2_says_109
      rw [fsetl (z := 4) (j := 4) (N := 6) rfl (by decide) (by omega) (by omega), bnd_s, if_pos rfl]
      unfold F2_says_127
      rw [fsetl (z := 5) (j := 5) (N := 6) rfl (by decide) (by omega) (by omega), bnd_s]
      rw [up_ne (o := 46) (a := 3) (by omega)]
      exact v1
    · unfold F12_asksOf
      rw [ix3, nI_1, gd_t (inb_t (N := 24) (by omega) (by omega)), gd_t (inb_t (N := 24) (by omega) (by omega)), if_pos rfl, nI_c (by omega), nI_c (by omega), cl0, cl1, cl2, up_ne (o := 17) (a := 1) (by omega), ← k1, ← k2]
      unfold F12_asksOf_63
      rw [gd_t (by decide), if_pos rfl, cl3]
      unfold F12_asksOf_94
      rw [gd_t (by decide), if_pos rfl, cl4]
      unfold F12_asksOf_110
      rw [gd_t (by decide), cl5]
      show bnd (F12_says fu' (nI p) (nmM τ (σ 2 c) (σ 3 c) wins 0 0 0)) _ = _
      rw [v2, bnd_s]
      exact hsaysM u τ'
  · obtain ⟨q1, q2, q3, q4, q5, ⟨z6, hz6, q6⟩, ⟨z7, hz7, q7⟩, q8⟩ := h9 k hk
    obtain ⟨u, σ', τ', v1, v2, v3, v4⟩ := says127 (fu := fu) (fu' := fu') (σ := nmC σ (σ 2 c) (σ 3 c) wins (σ 7 k) (onesV (σ 8 k)) (nI k)) (τ := nmM τ (σ 2 c) (σ 3 c) wins (σ 7 k) (onesV (σ 8 k)) (nI k)) h hp hfu hfu' rfl rfl
    refine ⟨cl (clo p) u, σ', τ', ?_, ?_, v3, v4, (cl_b (clo_b p).2).1, (cl_b (clo_b p).2).2⟩
    · unfold F2_says
      rw [if_neg (nn_nI (by omega))]
      unfold F2_says_9
      rw [fat (N := 8) (by decide) (by omega) (by omega), bnd_s, fsetl (z := 0) (j := 0) (N := 6) rfl (by decide) (by omega) (by omega), bnd_s, fat (N := 8) (by decide) (by omega) (by omega), bnd_s, fsetl (z := 1) (j := 1) (N := 6) rfl (by decide) (by omega) (by omega), bnd_s, fsetl (z := 2) (j := 2) (N := 6) rfl (by decide) (by omega) (by omega), bnd_s, if_neg (by decide), fat (N := 6) (by decide) (by omega) (by omega), bnd_s]
      unfold F2_says_84
      rw [fsetl (z := 3) (j := 3) (N := 6) rfl (by decide) (by omega) (by omega), bnd_s, if_neg (by decide)]
      unfold F5_howManyRun
      rw [gd_t (by decide), fat (N := 6) (by decide) (by omega) (by omega), bnd_s, bc_eq, bnd_s, bnd_s]
      unfold F2_says_109
      rw [fsetl (z := 4) (j := 4) (N := 6) rfl (by decide) (by omega) (by omega), bnd_s, if_neg (by decide)]
      unfold F2_says_127
      rw [fsetl (z := 5) (j := 5) (N := 6) rfl (by decide) (by omega) (by omega), bnd_s]
      rw [up_ne (o := 46) (a := 3) (by omega)]
      have e7 : (up (up (up σ 46 0 (σ 2 c)) 46 1 (σ 3 c)) 46 2 wins) 7 k = σ 7 k := by rw [up_ne (by omega), up_ne (by omega), up_ne (by omega)]
      have e8 : ∀ x, (up (up (up (up σ 46 0 (σ 2 c)) 46 1 (σ 3 c)) 46 2 wins) 46 3 x) (crf 5 2) k = σ 8 k := fun x => by
        rw [show crf 5 2 = 8 from rfl, up_ne (by omega), up_ne (by omega), up_ne (by omega), up_ne (by omega)]
      rw [e7, e8]
      have eb : bcV (σ 8 k) = onesV (σ 8 k) := by
        rw [q7]
        exact bc_ones z7 (lt256 h1 hz7)
      rw [eb]
      exact v1
    · unfold F12_asksOf
      rw [ix3, nI_1, gd_t (inb_t (N := 24) (by omega) (by omega)), gd_t (inb_t (N := 24) (by omega) (by omega)), if_neg (nI_ne1 (by omega)), show (5 : Int32) = nI 5 from rfl, gwithin_in (by omega) (by omega), bnd_s, gd_t (inb_t (N := 6) (by omega) (by omega)), nI_c (by omega), nI_c (by omega), nI_c (by omega), cl0, cl1, cl2, up_ne (o := 17) (a := 1) (by omega), ← k1, ← k2]
      rw [up_ne (o := 17) (a := 3) (by omega), up_ne (o := 17) (a := 3) (by omega), up_ne (o := 17) (a := 3) (by omega), ← q2]
      unfold F12_asksOf_63
      rw [gd_t (by decide), if_neg (nI_ne1 (by omega)), cl3, show (5 : Int32) = nI 5 from rfl, gwithin_in (by omega) (by omega), bnd_s, ix2, gd_t (inb_t (N := 12) (by omega) (by omega)), nI_c (by omega), ones_eq (by omega), bnd_s]
      rw [up_ne (o := 17) (a := 4) (by omega), up_ne (o := 17) (a := 4) (by omega), up_ne (o := 17) (a := 4) (by omega), up_ne (o := 17) (a := 4) (by omega), ← q3]
      unfold F12_asksOf_94
      rw [gd_t (by decide), if_neg (nI_ne1 (by omega)), cl4]
      unfold F12_asksOf_110
      rw [gd_t (by decide), cl5]
      show bnd (F12_says fu' (nI p) (nmM τ (σ 2 c) (σ 3 c) wins (σ 7 k) (onesV (σ 8 k)) (nI k))) _ = _
      rw [v2, bnd_s]
      exact hsaysM u τ'
