def isZ (x : Int32) : Bool := decide (x = 0 ∨ x = 1)
theorem isZ_n {x : Int32} (h : isZ x = true) : narrow .boolean (.int x) = .int x := by
  rcases of_decide_eq_true h with rfl | rfl <;> rfl
def copyOk (sp dp m : Int32) (n0 n1 : Nat) : Bool := decide (¬ sp < 0 ∧ ¬ dp < 0 ∧ ¬ m < 0 ∧ sp.toNatClampNeg + m.toNatClampNeg ≤ n0 ∧ dp.toNatClampNeg + m.toNatClampNeg ≤ n1)
theorem copyOk_1 {sp dp m : Int32} {n0 n1 : Nat} (h : copyOk sp dp m n0 n1 = true) : ¬ sp < 0 ∧ ¬ dp < 0 ∧ ¬ m < 0 ∧ sp.toNatClampNeg + m.toNatClampNeg ≤ n0 ∧ dp.toNatClampNeg + m.toNatClampNeg ≤ n1 := of_decide_eq_true h
theorem lk_eq {ps : List (Int × Int)} {d off : Int} {x v : Int32} (h : x = v) (e : Op.lookupswitch.offset ps d v.toInt = off) : Op.lookupswitch.offset ps d x.toInt = off := h ▸ e
