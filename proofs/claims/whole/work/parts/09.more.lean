def isZ (x : Int32) : Bool := decide (x = 0 ∨ x = 1)
theorem isZ_n {x : Int32} (h : isZ x = true) : narrow .boolean (.int x) = .int x := by
  rcases of_decide_eq_true h with rfl | rfl <;> rfl
def copyOk (sp dp m : Int32) (n0 n1 : Nat) : Bool := decide (¬ sp < 0 ∧ ¬ dp < 0 ∧ ¬ m < 0 ∧ sp.toNatClampNeg + m.toNatClampNeg ≤ n0 ∧ dp.toNatClampNeg + m.toNatClampNeg ≤ n1)
theorem copyOk_1 {sp dp m : Int32} {n0 n1 : Nat} (h : copyOk sp dp m n0 n1 = true) : ¬ sp < 0 ∧ ¬ dp < 0 ∧ ¬ m < 0 ∧ sp.toNatClampNeg + m.toNatClampNeg ≤ n0 ∧ dp.toNatClampNeg + m.toNatClampNeg ≤ n1 := of_decide_eq_true h
theorem lk_eq {ps : List (Int × Int)} {d off : Int} {x v : Int32} (h : x = v) (e : Op.lookupswitch.offset ps d v.toInt = off) : Op.lookupswitch.offset ps d x.toInt = off := h ▸ e
theorem s2_inj {α β : Type} {a c : α} {b d : β} (h : some (a, b) = some (c, d)) : a = c ∧ b = d := Prod.mk.inj (Option.some.inj h)
def okd (b : ByteArray) (l : List (Nat × Instr × Nat)) : Bool := l.all (fun q => decide (decode b q.1 = .ok (q.2.1, q.2.2)))
theorem okd_at {b : ByteArray} {l : List (Nat × Instr × Nat)} (h : okd b l = true) (k : Nat) {pc : Nat} {i : Instr} {n : Nat} (e : l[k]? = some (pc, i, n)) : decode b pc = .ok (i, n) := by
  have h2 := List.all_eq_true.mp h _ (List.mem_of_getElem? e)
  dsimp only at h2
  exact of_decide_eq_true h2
def okw (l : List (Nat × Cond)) : Bool := l.all (fun q => decide (lw_tbl[q.1]? = some q.2) && goodWord q.2)
theorem okw_at {l : List (Nat × Cond)} (h : okw l = true) (k : Nat) {i : Nat} {w : Cond} (e : l[k]? = some (i, w)) : w ∈ gtbl := by
  have h2 := List.all_eq_true.mp h _ (List.mem_of_getElem? e)
  dsimp only at h2
  rw [Bool.and_eq_true] at h2
  exact gtbl_of (of_decide_eq_true h2.1) h2.2
