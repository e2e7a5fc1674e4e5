/-! a nest mate's static method, called over a deeper stack -/
section WIDE
variable {ω : WT} {κ : KT} {cc : ByteArray} {nL n : Nat} {own : String} {ret : Option FieldType} {pc : Nat} {L : List (Nat × Value)} {σ : M2}
variable {i maxL n' : Nat} {y : MethodName} {bytes : ByteArray} {r' : Option FieldType} {As rest st0 : List Value} {σ1 : M2} {host : String}
theorem k_N16 {v : Option Value} (C : Cx ω κ cc nL own ret) (B : SB y bytes maxL r' As.length) (hmax : Nat.ble maxL 31 = true) (hM : Ct κ.2.1 ω y bytes maxL r' n' As σ v σ1) (hst : st0 = As.reverse ++ rest) (hn : n' + 1 ≤ n) (hlk : (own, i, y, host) ∈ nestL) (hcat : Nat.ble ((rest.map fun v => v.category).sum) 18 = true) (d : decode cc pc = .ok (.invokestatic i, 3)) (k : J ω κ n nL (pc + 3) L (v.toList ++ rest) σ1) : J ω κ n nL pc L st0 σ := by
  refine j_go (a := As.toArray) (rest := rest) (fun H locs ls hP hS hl => ?_) k
  have hgood : GoodIn gtbl (.code y bytes maxL r' :: gtbl) := fun w hw => by
    rcases List.mem_cons.mp hw with rfl | h
    · exact gtbl_good gtbl (fun _ h => h) _ B.1
    · exact gtbl_good gtbl (fun _ h => h) _ h
  have hini : (Cond.initialized y.cls).before κ.2.2.2.2.2.1 κ.2.2.2.1 = true := C.t _ B.2.1
  have hK : Back κ.2.1 (rmL n) κ.1 κ.2.2.1 κ.2.2.2.2.2.2.1 κ.2.2.2.1 κ.2.2.2.2.2.1 y 3 18 (PreOf (rmL n) 0 0 (va_Pc As (Pw ω σ))) (PostOf (Qw ω v σ1) 0 0 (wA ω)) :=
    back_of (bytes := bytes) (maxL := maxL) (ret := r') hM Pw.blind rfl rfl hn (by have h := Nat.le_of_ble_eq_true hmax; show 18 + (maxL + 11) + 60 * n' ≤ 60 * n; omega) (pay_in C.t hgood) List.mem_cons_self (fun a' U hW => word_at hW (Or.inl (by first | rfl | simp [Cond.onTables, Cond.keeps, Cond.steady])) hini)
  have hPc := C.pre (as := As) hP hS
  intro T hT X
  have hlen : ∀ sig, parseMethodDescriptor y.desc = some sig → As.length = sig.parameters.length := fun sig h => by
    have h2 := B.2.2.2.2.2.2
    rw [h] at h2
    exact (Option.some.inj h2).symm
  obtain ⟨v', vm₁, ⟨U', l2, c2, s2⟩, hW₁, X', ⟨g', mk, t, L', e1, e2, hq, h1, hL, h2, h3⟩, st⟩ := va_callSN X C.x (bytes := bytes) (maxL := maxL) (ret := r') C.o (va_Nw.use rfl (C.S.1 _ hlk)) (C.t _ B.2.2.1) hini (C.t _ B.1) ⟨B.2.2.2.2.1, B.2.2.2.2.2.1⟩ hK (g := F0 κ.2.2.2.2.1 pc ls st0) rfl (hl.1.trans C.ml.symm) (argsL := As) (rest := rest) hlen hst (by have h := Nat.le_of_ble_eq_true hcat; show 2 * 0 + _ ≤ 18; omega) (by rw [C.b]; exact d)
    (fun vm₁ hW₁ => ⟨Nat.le_refl _, Nat.le_refl _, hPc (T.setVm vm₁) hT hW₁⟩)
  dsimp only [Pt.U, Pt.locs, Pt.cells, Pt.slots] at X' e1 e2 h1 h2 h3 st
  subst h1; subst h2; subst h3
  exact ⟨v', (T.setVm vm₁).calling g' mk As.toArray, t, U', L', hT, X', hL, e1, e2, hq, st⟩
end WIDE
