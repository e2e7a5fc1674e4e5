section
/-! orders of races as numbers -/
def lo (r N i : Nat) : Nat := N / r ^ i % r
def dg (r N k : Nat) : Nat := lo r N (r - 1 - k)
def sn (r N : Nat) : Nat → Nat
  | 0 => 0
  | k + 1 => sn r N k ||| (1 <<< lo r N k)
def isP (r N : Nat) : Bool := Nat.beq (sn r N r) (2 ^ r - 1)
/-- the next number that is an order, from N on, in m steps at most -/
def np (r : Nat) : Nat → Nat → Nat
  | 0, N => N
  | m + 1, N => match isP r N with
    | true => N
    | false => np r m (N + 1)
def nx (r N : Nat) : Nat := np r (r ^ r - (N + 1)) (N + 1)
def fac : Nat → Nat
  | 0 => 1
  | n + 1 => (n + 1) * fac n
/-- the how manieth order it is -/
def rk (r N : Nat) : Nat := ((List.range r).map (fun k => ((List.range (r - 1 - k)).filter (fun j => Nat.blt (dg r N (k + 1 + j)) (dg r N k))).length * fac (r - 1 - k))).foldl (fun a b => a + b) 0
/-- the class's row of the order, put into a memory -/
def cmem (r N : Nat) : M2 := fun o k => if o = 49 then (if k < r then nI (dg r N k) else nI k) else if o = 5 then nI r else 0
def eqI (a b : Int32) : Bool := decide (a = b)
/-- the class's next order is the next number that is one -/
def chk (r N : Nat) : Bool := Nat.blt (rk r N) 720 && (match F4_goOn 20 (cmem r N) with
  | none => false
  | some (v, s) => match Nat.ble (r ^ r) (nx r N) with
    | true => eqI v (-1)
    | false => eqI v (nI v.toNatClampNeg) && (Nat.blt v.toNatClampNeg r && (Nat.beq (rk r (nx r N)) (rk r N + 1) && ((List.range 6).all (fun k => eqI (s 49 k) (cmem r (nx r N) 49 k)) && (List.range 6).all (fun k => Nat.ble v.toNatClampNeg k || Nat.beq (dg r (nx r N) k) (dg r N k))))))
def chkB (r a0 A B : Nat) : Bool := (List.range A).all (fun a => (List.range B).all (fun b => match isP r ((a0 + a) * B + b) with
  | true => chk r ((a0 + a) * B + b)
  | false => true))
theorem chkB_at {r a0 A B N : Nat} (h : chkB r a0 A B = true) (hB : 0 < B) (h1 : a0 ≤ N / B) (h2 : N / B < a0 + A) (hp : isP r N = true) : chk r N = true := by
  have h3 := List.all_eq_true.mp (List.all_eq_true.mp h (N / B - a0) (List.mem_range.mpr (by omega))) (N % B) (List.mem_range.mpr (Nat.mod_lt _ hB))
  have e : (a0 + (N / B - a0)) * B + N % B = N := by
    rw [show a0 + (N / B - a0) = N / B by omega, Nat.mul_comm]
    exact Nat.div_add_mod N B
  rw [e, hp] at h3
  exact h3
/-- the first order -/
def n0 (r : Nat) : Nat := np r (r ^ r) 0
def first (r : Nat) : Bool := isP r (n0 r) && (Nat.blt (n0 r) (r ^ r) && (Nat.beq (rk r (n0 r)) 0 && (List.range r).all (fun k => Nat.beq (dg r (n0 r) k) k)))
set_option maxRecDepth 100000 in
theorem firsts : ∀ r, r < 7 → 0 < r → first r = true := by decide +kernel
set_option maxRecDepth 100000 in
theorem chk1 : chkB 1 0 1 1 = true := by decide +kernel
set_option maxRecDepth 100000 in
theorem chk2 : chkB 2 0 2 2 = true := by decide +kernel
set_option maxRecDepth 100000 in
theorem chk3 : chkB 3 0 3 9 = true := by decide +kernel
set_option maxRecDepth 100000 in
theorem chk4 : chkB 4 0 16 16 = true := by decide +kernel
set_option maxRecDepth 100000 in
theorem chk5 : chkB 5 0 25 125 = true := by decide +kernel
end
