set_option maxRecDepth 100000
/-! the law: rows over its script and both worlds -/
/-- what is known in the law's frame -/
def LwH (γ : GT) (A : Nat → Prop) (κ : KG) (k n b Ln : Nat) (xs : Nat → Int32) (adc adm : Nat → Nat) : Prop :=
  Cg γ A κ room_1 cL_law 4 "EveryoneWinsLaw" (some .boolean) ∧ Inj (ωG SC γ adc) ∧ Inj (ωG SM γ adm) ∧ va_X b Ln xs (ks κ) (ks κ).heap ∧ b < (ks κ).heap.size ∧ ¬ A b ∧ Ln ≤ 3584 ∧ k ≤ room_1.cells ∧ n ≤ room_1.slots
abbrev Lc (b : Nat) (adc adm : Nat → Nat) (i : Nat) : List (Nat × Value) := [(3, .int (nI i)), (2, .ref (adm 0)), (1, .ref (adc 0)), (0, .ref b)]
section LW
variable {γ : GT} {A : Nat → Prop} {κ : KG} {Q : State → Prop} {k n b Ln i pc : Nat} {xs : Nat → Int32} {adc adm : Nat → Nat} {σ τ : M2} {st : List Value} {ws : va_W} {L : List (Nat × Value)}
theorem g_slen (H : LwH γ A κ k n b Ln xs adc adm) (d : decode cL_law pc = .ok (.arraylength, 1)) (kk : G γ A κ Q 4 k n (pc + 1) L (.int (nI Ln) :: st) ws) : G γ A κ Q 4 k n pc L (.ref b :: st) ws := fun Hh locs ls hP hD hS hl =>
  va_slen H.1.x H.1.b H.2.2.2.1 H.2.2.2.2.1 H.2.2.2.2.2.1 hS d (kk Hh locs ls hP hD hS hl)
theorem g_sld (H : LwH γ A κ k n b Ln xs adc adm) {j : Nat} (hj : j < Ln) (d : decode cL_law pc = .ok (.iaload, 1)) (kk : G γ A κ Q 4 k n (pc + 1) L (.int (xs j) :: st) ws) : G γ A κ Q 4 k n pc L (.int (nI j) :: .ref b :: st) ws := fun Hh locs ls hP hD hS hl => by
  have hb := H.2.2.2.2.2.2.1
  refine va_sld H.1.x H.1.b H.2.2.2.1 H.2.2.2.2.1 H.2.2.2.2.2.1 hS (nI_vp hj (by omega)) d ?_
  rw [nI_c (by omega)]
  exact kk Hh locs ls hP hD hS hl
theorem g_arg (H : LwH γ A κ k n b Ln xs adc adm) {q : Nat} {z : Int} (hq : i + q < Ln) (hz : Int32.ofInt z = nI q) (d0 : decode cL_law pc = .ok (.aload_n 0, 1)) (d1 : decode cL_law (pc + 1) = .ok (.iload_n 3, 1)) (d2 : decode cL_law (pc + 1 + 1) = .ok (.iconst z, 1)) (d3 : decode cL_law (pc + 1 + 1 + 1) = .ok (.iadd, 1)) (d4 : decode cL_law (pc + 1 + 1 + 1 + 1) = .ok (.iaload, 1)) (kk : G γ A κ Q 4 k n (pc + 5) (Lc b adc adm i) (.int (xs (i + q)) :: st) ws) : G γ A κ Q 4 k n pc (Lc b adc adm i) st ws := by
  refine g_aload_n H.1 3 d0 rfl ?_
  refine g_iload_n H.1 0 d1 rfl ?_
  refine g_iconst H.1 d2 hz ?_
  refine g_iadd H.1 d3 ?_
  rw [nI_add]
  exact g_sld H hq d4 kk
theorem g_argB (H : LwH γ A κ k n b Ln xs adc adm) {q : Nat} {z : Int} (hq : i + q < Ln) (hz : (Int8.ofInt z).toInt32 = nI q) (d0 : decode cL_law pc = .ok (.aload_n 0, 1)) (d1 : decode cL_law (pc + 1) = .ok (.iload_n 3, 1)) (d2 : decode cL_law (pc + 1 + 1) = .ok (.bipush z, 2)) (d3 : decode cL_law (pc + 1 + 1 + 2) = .ok (.iadd, 1)) (d4 : decode cL_law (pc + 1 + 1 + 2 + 1) = .ok (.iaload, 1)) (kk : G γ A κ Q 4 k n (pc + 6) (Lc b adc adm i) (.int (xs (i + q)) :: st) ws) : G γ A κ Q 4 k n pc (Lc b adc adm i) st ws := by
  refine g_aload_n H.1 3 d0 rfl ?_
  refine g_iload_n H.1 0 d1 rfl ?_
  refine g_bipush H.1 d2 hz ?_
  refine g_iadd H.1 d3 ?_
  rw [nI_add]
  exact g_sld H hq d4 kk
/-- the world of both -/
abbrev W2 (γ : GT) (adc adm : Nat → Nat) (σ τ : M2) : va_W := wld (ωG SM γ adm) τ ++ wld (ωG SC γ adc) σ
/-- a call of the class's, of the reference's -/
theorem g_cC (H : LwH γ A κ k n b Ln xs adc adm) {σ1 : M2} {v : Option Value} {c maxL n' : Nat} {y : MethodName} {bytes : ByteArray} {r' : Option FieldType} {As : List Value} {st0 : List Value} (B : VB y bytes maxL r' "EveryoneWins" As.length) (hM : Ct κ.2.1 (ωG SC γ adc) y bytes maxL r' n' (.ref (adc 0) :: As) σ v σ1) (hst : st0 = As.reverse ++ [.ref (adc 0)]) (hR : Rg n' maxL room_1) (hlk : Cond.methodLink "EveryoneWinsLaw" c y ∈ gtbl) (d : decode cL_law pc = .ok (.invokevirtual c, 3))
    (kk : G γ A κ Q 4 k n (pc + 3) L (v.toList ++ []) (W2 γ adc adm σ1 τ)) : G γ A κ Q 4 k n pc L st0 (W2 γ adc adm σ τ) :=
  g_ctV (o := 0) (ci := 10) (N := 17) (wr := wld (ωG SM γ adm) τ) H.1 H.2.1 B rfl (by decide) hM hst hR hlk rfl rfl H.2.2.2.2.2.2.2.1 H.2.2.2.2.2.2.2.2 d kk
theorem g_cM (H : LwH γ A κ k n b Ln xs adc adm) {τ1 : M2} {v : Option Value} {c maxL n' : Nat} {y : MethodName} {bytes : ByteArray} {r' : Option FieldType} {As : List Value} {w : Value} {st0 : List Value} (B : VB y bytes maxL r' "EveryoneWinsModel" As.length) (hM : Ct κ.2.1 (ωG SM γ adm) y bytes maxL r' n' (.ref (adm 0) :: As) τ v τ1) (hst : st0 = As.reverse ++ .ref (adm 0) :: [w]) (hcat : Nat.ble (([w].map fun v => v.category).sum) 8 = true) (hR : Rg n' maxL room_1) (hlk : Cond.methodLink "EveryoneWinsLaw" c y ∈ gtbl) (d : decode cL_law pc = .ok (.invokevirtual c, 3))
    (kk : G γ A κ Q 4 k n (pc + 3) L (v.toList ++ [w]) (W2 γ adc adm σ τ1)) : G γ A κ Q 4 k n pc L st0 (W2 γ adc adm σ τ) := by
  refine g_swap ?_
  refine g_ctV (o := 0) (ci := 11) (N := 45) (wr := wld (ωG SC γ adc) σ) H.1 H.2.2.1 B rfl (by decide) hM hst hR hlk rfl hcat H.2.2.2.2.2.2.2.1 H.2.2.2.2.2.2.2.2 d ?_
  exact g_swap kk
theorem lcmp_self (v : Int64) : lg_cmp v v = 0 := by
  unfold lg_cmp
  simp
end LW
