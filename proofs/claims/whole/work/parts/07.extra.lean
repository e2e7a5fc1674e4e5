/-! rows: the static array, Math, arraycopy, switches; what a callee is -/
abbrev WA : Type := (Nat → Nat) × va_G × ClassId × (Nat → ClassId) × List (ClassId × FieldType) × (Nat → Nat) × (Nat → Nat) × Nat
abbrev ωC (α : WA) : WT := (SC, α)
abbrev ωM (α : WA) : WT := (SM, α)
def cpy (σ : M2) (o0 sp o1 dp k : Nat) : M2 := fun a => if a = o1 then va_cpy (σ o0) (σ o1) sp dp k else σ a
section EXTRA
variable {ω : WT} {κ : KT} {cc : ByteArray} {nL n : Nat} {own : String} {ret : Option FieldType} {pc : Nat} {L : List (Nat × Value)} {st : List Value} {σ : M2}
theorem j_tlen (C : Cx ω κ cc nL own ret) (d : decode cc pc = .ok (.arraylength, 1)) (k : J ω κ n nL (pc + 1) L (.int 6 :: st) σ) : J ω κ n nL pc L (.ref (wT ω) :: st) σ := fun H locs ls hP hS hl =>
  va_tlen C.x C.b C.S.2.2.1 hS rfl d (k H locs ls hP hS hl)
theorem j_tald (C : Cx ω κ cc nL own ret) {i : Int32} (hi : vp_in i 6) (d : decode cc pc = .ok (.iaload, 1)) (k : J ω κ n nL (pc + 1) L (.int (aboveL.getD i.toNatClampNeg 0) :: st) σ) : J ω κ n nL pc L (.int i :: .ref (wT ω) :: st) σ := fun H locs ls hP hS hl =>
  va_ti C.x C.b C.S.2.2.1 hS hi rfl d (k H locs ls hP hS hl)
theorem j_mmin (C : Cx ω κ cc nL own ret) {i : Nat} {x y : Int32} (hn : 1 ≤ n) (hcat : Nat.ble ((st.map fun v => v.category).sum) 8 = true) (hlk : Cond.methodLink own i Lib.Math.min.name ∈ gtbl) (hsta : Cond.static Lib.Math.min.name ∈ gtbl) (hini : Cond.initialized "java/lang/Math" ∈ gtbl) (hcode : Cond.code Lib.Math.min.name Lib.Math.min.code 2 (some .int) ∈ gtbl) (d : decode cc pc = .ok (.invokestatic i, 3)) (k : J ω κ n nL (pc + 3) L (.int (if y < x then y else x) :: st) σ) : J ω κ n nL pc L (.int y :: .int x :: st) σ := fun H locs ls hP hS hl =>
  va_mmin C.x C.b (C.ml.trans hl.1.symm) C.o (C.t _ hlk) (C.t _ hsta) (C.t _ hini) (C.t _ hcode) (show 1 ≤ n from hn) (by have h := Nat.le_of_ble_eq_true hcat; show _ ≤ 60 * n; omega) (Nat.le_refl _) (Nat.le_refl _) d (k H locs ls hP hS hl)
theorem j_mmax (C : Cx ω κ cc nL own ret) {i : Nat} {x y : Int32} (hn : 1 ≤ n) (hcat : Nat.ble ((st.map fun v => v.category).sum) 8 = true) (hlk : Cond.methodLink own i Lib.Math.max.name ∈ gtbl) (hsta : Cond.static Lib.Math.max.name ∈ gtbl) (hini : Cond.initialized "java/lang/Math" ∈ gtbl) (hcode : Cond.code Lib.Math.max.name Lib.Math.max.code 2 (some .int) ∈ gtbl) (d : decode cc pc = .ok (.invokestatic i, 3)) (k : J ω κ n nL (pc + 3) L (.int (if x < y then y else x) :: st) σ) : J ω κ n nL pc L (.int y :: .int x :: st) σ := fun H locs ls hP hS hl =>
  va_mmax C.x C.b (C.ml.trans hl.1.symm) C.o (C.t _ hlk) (C.t _ hsta) (C.t _ hini) (C.t _ hcode) (show 1 ≤ n from hn) (by have h := Nat.le_of_ble_eq_true hcat; show _ ≤ 60 * n; omega) (Nat.le_refl _) (Nat.le_refl _) d (k H locs ls hP hS hl)
theorem fitsi (x : Int32) : fits .int (.int x) = true := by rfl
theorem j_copyi (C : Cx ω κ cc nL own ret) {i o0 o1 n0 n1 : Nat} {sp dp m : Int32} (hn : 1 ≤ n) (hlk : Cond.methodLink own i arraycopyName ∈ gtbl) (hnat : Cond.native arraycopyName ∈ gtbl) (hsta : Cond.static arraycopyName ∈ gtbl) (hini : Cond.initialized "java/lang/System" ∈ gtbl) (hs0 : wsh ω o0 = (0, n0)) (hs1 : wsh ω o1 = (0, n1)) (h1 : ¬ sp < 0) (h2 : ¬ dp < 0) (h3 : ¬ m < 0) (h4 : sp.toNatClampNeg + m.toNatClampNeg ≤ n0) (h5 : dp.toNatClampNeg + m.toNatClampNeg ≤ n1) (d : decode cc pc = .ok (.invokestatic i, 3))
    (hroom : (nativeFrameWords "java/lang/System" "arraycopy" 5 + 11) ≤ 60) (k : J ω κ n nL (pc + 3) L [] (cpy σ o0 sp.toNatClampNeg o1 dp.toNatClampNeg m.toNatClampNeg)) : J ω κ n nL pc L [.int m, .int dp, .ref (wad ω o1), .int sp, .ref (wad ω o0)] σ := by
  intro H locs ls hP hS hl
  obtain ⟨t, ht⟩ := C.I.2.2.1
  have hl0 := C.I.lt hs0 (by decide)
  have hl1 := C.I.lt hs1 (by decide)
  refine va_copyi C.x C.b (C.ml.trans hl.1.symm) C.o (C.t _ hlk) (C.t _ hnat) (C.t _ hsta) (C.t _ hini) C.K hP (C.I.D σ) hS o0 o1 t t (by rw [wld_at ω σ hl0, celle_i hs0]) (by rw [wld_at ω σ hl1, celle_i hs1]) ht ht rfl h1 h2 h3 h4 h5 (fun i _ => fitsi _) (show 1 ≤ n from hn) (by show 0 + _ ≤ 60 * n; omega) d (fun H1 locs1 hP1 _ hS1 => ?_)
  refine k H1 locs1 ls ?_ hS1 hl
  have e : wld ω (cpy σ o0 sp.toNatClampNeg o1 dp.toNatClampNeg m.toNatClampNeg) = (wld ω σ).set o1 (wad ω o1, .inl (wcI ω, n1, .inl (va_cpy (σ o0) (σ o1) sp.toNatClampNeg dp.toNatClampNeg m.toNatClampNeg))) := by
    apply List.ext_getElem?
    intro j
    by_cases hj : j < wN ω
    · rw [wld_at ω _ hj]
      by_cases hjo : j = o1
      · subst hjo
        rw [List.getElem?_set_self (by simpa [wld] using hj), celle_i hs1]
        simp [cpy]
      · rw [List.getElem?_set_ne (Ne.symm hjo), wld_at ω σ hj]
        have e1 : cpy σ o0 sp.toNatClampNeg o1 dp.toNatClampNeg m.toNatClampNeg j = σ j := if_neg hjo
        have e2 : cellf ω (cpy σ o0 sp.toNatClampNeg o1 dp.toNatClampNeg m.toNatClampNeg) j = cellf ω σ j := by funext q; simp only [cellf, e1]
        simp only [celle, e1, e2]
    · rw [List.getElem?_eq_none (by simpa [wld] using hj), List.getElem?_eq_none (by simpa [wld] using hj)]
  rw [e]
  exact hP1
theorem j_tabEq (C : Cx ω κ cc nL own ret) {dflt lo hi : Int} {offs : Array Int} {len : Nat} {x v : Int32} {off : Int} {tgt : Nat} (d : decode cc pc = .ok (.tableswitch dflt lo hi offs, len)) (hx : x = v) (h1 : ¬ v.toInt < lo) (h2 : ¬ hi < v.toInt) (ho : offs[(v.toInt - lo).toNat]? = some off) (ht : (pc : Int) + off = (tgt : Int)) (k : J ω κ n nL tgt L st σ) : J ω κ n nL pc L (.int x :: st) σ := by
  subst hx
  exact j_tableIn C d h1 h2 ho ht k
end EXTRA
theorem ne_ti {x v : Int32} (h : ¬ x = v) {z : Int} (hz : v.toInt = z) : x.toInt ≠ z := fun e => h (Int32.toInt_inj.mp (e.trans hz.symm))
def isA (sh : Nat → Nat × Nat) (o : Nat) : Bool := decide ((sh o).1 = 0)
def isR (sh : Nat → Nat × Nat) (o : Nat) : Bool := decide ((sh o).1 = 1)
def isO (sh : Nat → Nat × Nat) (o c k : Nat) : Bool := decide (sh o = (c + 2, k))
theorem isA_sh {sh : Nat → Nat × Nat} {o : Nat} (h : isA sh o = true) : sh o = (0, (sh o).2) := Prod.ext (of_decide_eq_true h) rfl
theorem isR_sh {sh : Nat → Nat × Nat} {o : Nat} (h : isR sh o = true) : sh o = (1, (sh o).2) := Prod.ext (of_decide_eq_true h) rfl
theorem isO_sh {sh : Nat → Nat × Nat} {o c k : Nat} (h : isO sh o c k = true) : sh o = (c + 2, k) := of_decide_eq_true h
/-- what a callee is -/
def VB (y : MethodName) (bytes : ByteArray) (maxL : Nat) (r : Option FieldType) (Cn : String) (k : Nat) : Prop := Cond.code y bytes maxL r ∈ gtbl ∧ Cond.initialized y.cls ∈ gtbl ∧ Cond.instanceMethod y ∈ gtbl ∧ Cond.selects Cn y y ∈ gtbl ∧ maxL ≤ 41 ∧ (y.cls ≠ "java/lang/invoke/MethodHandle" ∧ y.cls ≠ "java/lang/invoke/VarHandle" ∧ (parseMethodDescriptor y.desc).map (fun d => d.parameters.length) = some k)
def SB (y : MethodName) (bytes : ByteArray) (maxL : Nat) (r : Option FieldType) (k : Nat) : Prop := Cond.code y bytes maxL r ∈ gtbl ∧ Cond.initialized y.cls ∈ gtbl ∧ Cond.static y ∈ gtbl ∧ maxL ≤ 41 ∧ (y.cls ≠ "java/lang/invoke/MethodHandle" ∧ y.cls ≠ "java/lang/invoke/VarHandle" ∧ (parseMethodDescriptor y.desc).map (fun d => d.parameters.length) = some k)
section CALLS2
variable {ω : WT} {κ : KT} {cc : ByteArray} {nL n : Nat} {own : String} {ret : Option FieldType} {pc : Nat} {L : List (Nat × Value)} {σ : M2}
variable {i maxL n' o ci N : Nat} {y : MethodName} {bytes : ByteArray} {r' : Option FieldType} {As rest st0 : List Value} {σ1 : M2} {T : u_T} {Cn host : String}
theorem k_V {v : Option Value} (C : Cx ω κ cc nL own ret) (B : VB y bytes maxL r' Cn As.length) (hc : vwCl[ci]? = some (Cn, T, N)) (hci : ci + 2 ≠ 99) (hM : Ct κ.2.1 ω y bytes maxL r' n' (.ref (wad ω o) :: As) σ v σ1) (hst : st0 = As.reverse ++ .ref (wad ω o) :: rest) (hn : n' + 1 ≤ n) (hlk : Cond.methodLink own i y ∈ gtbl) (hsh : wsh ω o = (ci + 2, N)) (hcat : Nat.ble ((rest.map fun v => v.category).sum) 8 = true) (d : decode cc pc = .ok (.invokevirtual i, 3)) (k : J ω κ n nL (pc + 3) L (v.toList ++ rest) σ1) : J ω κ n nL pc L st0 σ :=
  j_callV C hM hst ⟨hn, B.2.2.2.2.1⟩ B.1 B.2.1 hlk B.2.2.1 B.2.2.2.1 B.2.2.2.2.2 hc hci hsh hcat d k
theorem k_S {v : Option Value} (C : Cx ω κ cc nL own ret) (B : SB y bytes maxL r' As.length) (hM : Ct κ.2.1 ω y bytes maxL r' n' As σ v σ1) (hst : st0 = As.reverse ++ rest) (hn : n' + 1 ≤ n) (hlk : Cond.methodLink own i y ∈ gtbl) (hcat : Nat.ble ((rest.map fun v => v.category).sum) 8 = true) (d : decode cc pc = .ok (.invokestatic i, 3)) (k : J ω κ n nL (pc + 3) L (v.toList ++ rest) σ1) : J ω κ n nL pc L st0 σ :=
  j_callS C hM hst ⟨hn, B.2.2.2.1⟩ B.1 B.2.1 hlk B.2.2.1 B.2.2.2.2 hcat d k
theorem k_N {v : Option Value} (C : Cx ω κ cc nL own ret) (B : SB y bytes maxL r' As.length) (hM : Ct κ.2.1 ω y bytes maxL r' n' As σ v σ1) (hst : st0 = As.reverse ++ rest) (hn : n' + 1 ≤ n) (hlk : (own, i, y, host) ∈ nestL) (hcat : Nat.ble ((rest.map fun v => v.category).sum) 8 = true) (d : decode cc pc = .ok (.invokestatic i, 3)) (k : J ω κ n nL (pc + 3) L (v.toList ++ rest) σ1) : J ω κ n nL pc L st0 σ :=
  j_callSN C hM hst ⟨hn, B.2.2.2.1⟩ B.1 B.2.1 hlk B.2.2.1 B.2.2.2.2 hcat d k
theorem k_none {k : J ω κ n nL pc L ((none : Option Value).toList ++ rest) σ} : J ω κ n nL pc L rest σ := k
end CALLS2
theorem nest_of {a h : String} {i k : Nat} {x : MethodName} (hw : lw_tbl[k]? = some (.methodLinkNest a i x h)) : (a, i, x, h) ∈ nestL := List.mem_filterMap.mpr ⟨_, List.mem_of_getElem? hw, rfl⟩
