/-! rows: calls by contract -/
section CALLS
variable {ω : WT} {κ : KT} {cc : ByteArray} {nL n : Nat} {own : String} {ret : Option FieldType} {pc : Nat} {L : List (Nat × Value)} {st : List Value} {σ : M2}
theorem j_go {v : Option Value} {a : Array Value} {st0 rest : List Value} {σ1 : M2}
    (hr : ∀ (H : Heap) (locs : List Loc) (ls : Array Slot), va_P (wD ω) vwCl (wld ω σ) H → va_S (wA ω) κ.2.2.2.1.heap H locs → lv_has ls nL L → va_Run κ.1 κ.2.1 κ.2.2.1 (rmL n) κ.2.2.2.1 κ.2.2.2.2.1 κ.2.2.2.2.2.1 κ.2.2.2.2.2.2.1 κ.2.2.2.2.2.2.2.1 κ.2.2.2.2.2.2.2.2.1 H locs 0 0 0 0 (F0 κ.2.2.2.2.1 pc ls st0) rest (Qw ω v σ1 a) (wA ω))
    (k : J ω κ n nL (pc + 3) L (v.toList ++ rest) σ1) : J ω κ n nL pc L st0 σ := by
  intro H locs ls hP hS hl T hT X
  obtain ⟨v', st₀, t, T', L', h0, X', hL, e1, e2, ⟨hv, hp, hF⟩, hst⟩ := hr H locs ls hP hS hl T hT X
  cases hv
  obtain ⟨hz, hk⟩ := hF
  rw [h0] at hz hk
  obtain ⟨t2, a1, b1⟩ := k T'.heap (locs ++ L') ls (by rw [e1]; exact hp)
    ⟨Nat.le_trans hS.1 (by rw [e1]; exact hz), fun q h1 h2 => by rw [e1, hk q (Nat.lt_of_lt_of_le h1 hS.1) h2]; exact hS.2.1 q h1 h2, fun q hq => by
      rcases List.mem_append.mp hq with h | h
      · exact hS.2.2 q h
      · exact hL q h⟩ hl T' rfl X'
  exact ⟨t2, hst t2 a1, b1⟩
theorem Cx.pre (C : Cx ω κ cc nL own ret) {as : List Value} {H : Heap} {locs : List Loc} (hP : va_P (wD ω) vwCl (wld ω σ) H) (hS : va_S (wA ω) κ.2.2.2.1.heap H locs) (U : State) (hU : U.heap = H) (hW : κ.2.2.2.1.WarmedH U.vm) : va_Pc as (Pw ω σ) as.toArray U :=
  ⟨rfl, by rw [hU]; exact hP, va_K.moved hW.alike C.K, C.I, C.S.call hS hU hW⟩
def Rm (n' maxL n : Nat) : Prop := n' + 1 ≤ n ∧ maxL ≤ 41
theorem Rm.l {n' maxL n : Nat} (h : Rm n' maxL n) : 8 + (maxL + 11) + (rmL n').locals ≤ (rmL n).locals := by
  obtain ⟨h1, h2⟩ := h
  show 8 + (maxL + 11) + 60 * n' ≤ 60 * n
  omega
theorem Cx.callB (C : Cx ω κ cc nL own ret) {i maxL n' k : Nat} {y : MethodName} {bytes : ByteArray} {r' : Option FieldType} (hR : Rm n' maxL n) (hcode : Cond.code y bytes maxL r' ∈ gtbl) (hini : Cond.initialized y.cls ∈ gtbl) (hlk : Cond.methodLink own i y ∈ gtbl) (hm1 : y.cls ≠ "java/lang/invoke/MethodHandle" ∧ y.cls ≠ "java/lang/invoke/VarHandle" ∧ (parseMethodDescriptor y.desc).map (fun d => d.parameters.length) = some k) : CallB (rmL n) κ.2.2.2.1 κ.2.2.2.2.2.1 own i y bytes maxL r' (.code y bytes maxL r' :: gtbl) (rmL n') 0 0 k :=
  ⟨rfl, rfl, hR.1, hR.l, pay_in C.t (fun w hw => by
    rcases List.mem_cons.mp hw with rfl | h
    · exact gtbl_good gtbl (fun _ h => h) _ hcode
    · exact gtbl_good gtbl (fun _ h => h) _ h), List.mem_cons_self, C.t _ hcode, C.t _ hini, ⟨hm1.1, hm1.2.1⟩, fun sig h => by
      have h2 := hm1.2.2
      rw [h] at h2
      exact (Option.some.inj h2).symm, C.t _ hlk⟩
theorem j_callV (C : Cx ω κ cc nL own ret) {i maxL n' o ci N : Nat} {y : MethodName} {bytes : ByteArray} {r' : Option FieldType} {As rest st0 : List Value} {v : Option Value} {σ1 : M2} {T : u_T} {Cn : String}
    (hM : Ct κ.2.1 ω y bytes maxL r' n' (.ref (wad ω o) :: As) σ v σ1) (hst : st0 = As.reverse ++ .ref (wad ω o) :: rest) (hR : Rm n' maxL n) (hcode : Cond.code y bytes maxL r' ∈ gtbl) (hini : Cond.initialized y.cls ∈ gtbl) (hlk : Cond.methodLink own i y ∈ gtbl) (hin : Cond.instanceMethod y ∈ gtbl) (hsel : Cond.selects Cn y y ∈ gtbl)
    (hm1 : y.cls ≠ "java/lang/invoke/MethodHandle" ∧ y.cls ≠ "java/lang/invoke/VarHandle" ∧ (parseMethodDescriptor y.desc).map (fun d => d.parameters.length) = some As.length) (hc : vwCl[ci]? = some (Cn, T, N)) (hci : ci + 2 ≠ 99) (hsh : wsh ω o = (ci + 2, N)) (hcat : Nat.ble ((rest.map fun v => v.category).sum) 8 = true) (d : decode cc pc = .ok (.invokevirtual i, 3))
    (k : J ω κ n nL (pc + 3) L (v.toList ++ rest) σ1) : J ω κ n nL pc L st0 σ := by
  refine j_go (a := (Value.ref (wad ω o) :: As).toArray) (rest := rest) (fun H locs ls hP hS hl => ?_) k
  exact va_runV (As := As) (n := As.length) (C := Cn) (own := own) (Ts := gtbl) ⟨C.x, C.b, C.ml, C.o, C.t⟩ hM ⟨C.callB hR hcode hini hlk hm1, C.t _ hin, C.t _ hsel⟩ ⟨Pw.blind, va_recv C.K hP hc (by rw [wld_at ω σ (C.I.lt hsh hci), celle_o hsh]), C.pre hP hS⟩ rfl rfl hl.1 hst (lv_room (Nat.le_of_ble_eq_true hcat)) d ⟨Nat.le_refl _, Nat.le_refl _⟩
theorem j_callS (C : Cx ω κ cc nL own ret) {i maxL n' : Nat} {y : MethodName} {bytes : ByteArray} {r' : Option FieldType} {As rest st0 : List Value} {v : Option Value} {σ1 : M2}
    (hM : Ct κ.2.1 ω y bytes maxL r' n' As σ v σ1) (hst : st0 = As.reverse ++ rest) (hR : Rm n' maxL n) (hcode : Cond.code y bytes maxL r' ∈ gtbl) (hini : Cond.initialized y.cls ∈ gtbl) (hlk : Cond.methodLink own i y ∈ gtbl) (hsta : Cond.static y ∈ gtbl)
    (hm1 : y.cls ≠ "java/lang/invoke/MethodHandle" ∧ y.cls ≠ "java/lang/invoke/VarHandle" ∧ (parseMethodDescriptor y.desc).map (fun d => d.parameters.length) = some As.length) (hcat : Nat.ble ((rest.map fun v => v.category).sum) 8 = true) (d : decode cc pc = .ok (.invokestatic i, 3))
    (k : J ω κ n nL (pc + 3) L (v.toList ++ rest) σ1) : J ω κ n nL pc L st0 σ := by
  refine j_go (a := As.toArray) (rest := rest) (fun H locs ls hP hS hl => ?_) k
  exact va_runS (As := As) (n := As.length) (own := own) (Ts := gtbl) ⟨C.x, C.b, C.ml, C.o, C.t⟩ hM ⟨C.callB hR hcode hini hlk hm1, C.t _ hsta⟩ ⟨Pw.blind, C.pre hP hS⟩ rfl rfl hl.1 hst (lv_room (Nat.le_of_ble_eq_true hcat)) d ⟨Nat.le_refl _, Nat.le_refl _⟩
theorem j_callSN (C : Cx ω κ cc nL own ret) {i maxL n' : Nat} {y : MethodName} {host : String} {bytes : ByteArray} {r' : Option FieldType} {As rest st0 : List Value} {v : Option Value} {σ1 : M2}
    (hM : Ct κ.2.1 ω y bytes maxL r' n' As σ v σ1) (hst : st0 = As.reverse ++ rest) (hR : Rm n' maxL n) (hcode : Cond.code y bytes maxL r' ∈ gtbl) (hini : Cond.initialized y.cls ∈ gtbl) (hlk : (own, i, y, host) ∈ nestL) (hsta : Cond.static y ∈ gtbl)
    (hm1 : y.cls ≠ "java/lang/invoke/MethodHandle" ∧ y.cls ≠ "java/lang/invoke/VarHandle" ∧ (parseMethodDescriptor y.desc).map (fun d => d.parameters.length) = some As.length) (hcat : Nat.ble ((rest.map fun v => v.category).sum) 8 = true) (d : decode cc pc = .ok (.invokestatic i, 3))
    (k : J ω κ n nL (pc + 3) L (v.toList ++ rest) σ1) : J ω κ n nL pc L st0 σ := by
  refine j_go (a := As.toArray) (rest := rest) (fun H locs ls hP hS hl => ?_) k
  refine va_runSN (As := As) (n := As.length) (own := own) (host := host) (Ts := gtbl) ⟨C.x, C.b, C.ml, C.o, C.t⟩ hM ⟨va_cnB As.length C.t (fun w hw => ?_) rfl rfl rfl (C.S.1 _ hlk) (C.t _ hini) hm1 ⟨hR.1, hR.l⟩, C.t _ hsta, trivial⟩ ⟨Pw.blind, C.pre hP hS⟩ rfl rfl hl.1 hst (lv_room (Nat.le_of_ble_eq_true hcat)) d ⟨Nat.le_refl _, Nat.le_refl _⟩
  rcases List.mem_cons.mp hw with rfl | h
  · exact gtbl_good gtbl (fun _ h => h) _ hcode
  · exact gtbl_good gtbl (fun _ h => h) _ h
end CALLS
/-! programs over the memory: guards, calls, loops -/
def gd {α : Type} (b : Bool) (x : Option α) : Option α := if b = true then x else none
theorem gd_some {α : Type} {b : Bool} {x : Option α} {r : α} (h : gd b x = some r) : b = true ∧ x = some r := by
  unfold gd at h
  by_cases hb : b = true
  · rw [if_pos hb] at h; exact ⟨hb, h⟩
  · rw [if_neg hb] at h; cases h
def bnd {α β : Type} (x : Option (α × M2)) (f : α → M2 → Option β) : Option β := match x with
  | none => none
  | some (a, s) => f a s
theorem bnd_some {α β : Type} {x : Option (α × M2)} {f : α → M2 → Option β} {r : β} (h : bnd x f = some r) : ∃ a s, x = some (a, s) ∧ f a s = some r := by
  cases x with
  | none => cases h
  | some q => exact ⟨q.1, q.2, rfl, h⟩
def inb (i : Int32) (n : Nat) : Bool := decide (0 ≤ i.toInt ∧ i.toInt < n)
theorem inb_in {i : Int32} {n : Nat} (h : inb i n = true) : vp_in i n := vp_in_iff.mpr (of_decide_eq_true h)
theorem it {α : Type} {c : Prop} [Decidable c] {x y r : α} (hc : c) (h : (if c then x else y) = r) : x = r := by rw [if_pos hc] at h; exact h
theorem ie {α : Type} {c : Prop} [Decidable c] {x y r : α} (hc : ¬ c) (h : (if c then x else y) = r) : y = r := by rw [if_neg hc] at h; exact h
def wl0 { R : Type} (b : (M2 → Option R) → M2 → Option R) : Nat → M2 → Option R
  | 0, _ => none
  | n + 1, σ => b (wl0 b n)  σ
theorem wl0_ind { R : Type} {b : (M2 → Option R) → M2 → Option R} (P : M2 → Prop) {r : R} (hs : ∀ k : M2 → Option R, (∀  σ, k  σ = some r → P  σ) → ∀  σ, b k  σ = some r → P  σ) : ∀ (n : Nat), ∀  σ, wl0 b n  σ = some r → P  σ := by
  intro n
  induction n with
  | zero => intro  σ h; cases h
  | succ n ih => intro  σ h; exact hs (wl0 b n) ih  σ h
def wl1 {A0 R : Type} (b : (A0 → M2 → Option R) → A0 → M2 → Option R) : Nat → A0 → M2 → Option R
  | 0, _, _ => none
  | n + 1, a0, σ => b (wl1 b n) a0 σ
theorem wl1_ind {A0 R : Type} {b : (A0 → M2 → Option R) → A0 → M2 → Option R} (P : A0 → M2 → Prop) {r : R} (hs : ∀ k : A0 → M2 → Option R, (∀ a0 σ, k a0 σ = some r → P a0 σ) → ∀ a0 σ, b k a0 σ = some r → P a0 σ) : ∀ (n : Nat), ∀ a0 σ, wl1 b n a0 σ = some r → P a0 σ := by
  intro n
  induction n with
  | zero => intro a0 σ h; cases h
  | succ n ih => intro a0 σ h; exact hs (wl1 b n) ih a0 σ h
def wl2 {A0 A1 R : Type} (b : (A0 → A1 → M2 → Option R) → A0 → A1 → M2 → Option R) : Nat → A0 → A1 → M2 → Option R
  | 0, _, _, _ => none
  | n + 1, a0, a1, σ => b (wl2 b n) a0 a1 σ
theorem wl2_ind {A0 A1 R : Type} {b : (A0 → A1 → M2 → Option R) → A0 → A1 → M2 → Option R} (P : A0 → A1 → M2 → Prop) {r : R} (hs : ∀ k : A0 → A1 → M2 → Option R, (∀ a0 a1 σ, k a0 a1 σ = some r → P a0 a1 σ) → ∀ a0 a1 σ, b k a0 a1 σ = some r → P a0 a1 σ) : ∀ (n : Nat), ∀ a0 a1 σ, wl2 b n a0 a1 σ = some r → P a0 a1 σ := by
  intro n
  induction n with
  | zero => intro a0 a1 σ h; cases h
  | succ n ih => intro a0 a1 σ h; exact hs (wl2 b n) ih a0 a1 σ h
def wl3 {A0 A1 A2 R : Type} (b : (A0 → A1 → A2 → M2 → Option R) → A0 → A1 → A2 → M2 → Option R) : Nat → A0 → A1 → A2 → M2 → Option R
  | 0, _, _, _, _ => none
  | n + 1, a0, a1, a2, σ => b (wl3 b n) a0 a1 a2 σ
theorem wl3_ind {A0 A1 A2 R : Type} {b : (A0 → A1 → A2 → M2 → Option R) → A0 → A1 → A2 → M2 → Option R} (P : A0 → A1 → A2 → M2 → Prop) {r : R} (hs : ∀ k : A0 → A1 → A2 → M2 → Option R, (∀ a0 a1 a2 σ, k a0 a1 a2 σ = some r → P a0 a1 a2 σ) → ∀ a0 a1 a2 σ, b k a0 a1 a2 σ = some r → P a0 a1 a2 σ) : ∀ (n : Nat), ∀ a0 a1 a2 σ, wl3 b n a0 a1 a2 σ = some r → P a0 a1 a2 σ := by
  intro n
  induction n with
  | zero => intro a0 a1 a2 σ h; cases h
  | succ n ih => intro a0 a1 a2 σ h; exact hs (wl3 b n) ih a0 a1 a2 σ h
def wl4 {A0 A1 A2 A3 R : Type} (b : (A0 → A1 → A2 → A3 → M2 → Option R) → A0 → A1 → A2 → A3 → M2 → Option R) : Nat → A0 → A1 → A2 → A3 → M2 → Option R
  | 0, _, _, _, _, _ => none
  | n + 1, a0, a1, a2, a3, σ => b (wl4 b n) a0 a1 a2 a3 σ
theorem wl4_ind {A0 A1 A2 A3 R : Type} {b : (A0 → A1 → A2 → A3 → M2 → Option R) → A0 → A1 → A2 → A3 → M2 → Option R} (P : A0 → A1 → A2 → A3 → M2 → Prop) {r : R} (hs : ∀ k : A0 → A1 → A2 → A3 → M2 → Option R, (∀ a0 a1 a2 a3 σ, k a0 a1 a2 a3 σ = some r → P a0 a1 a2 a3 σ) → ∀ a0 a1 a2 a3 σ, b k a0 a1 a2 a3 σ = some r → P a0 a1 a2 a3 σ) : ∀ (n : Nat), ∀ a0 a1 a2 a3 σ, wl4 b n a0 a1 a2 a3 σ = some r → P a0 a1 a2 a3 σ := by
  intro n
  induction n with
  | zero => intro a0 a1 a2 a3 σ h; cases h
  | succ n ih => intro a0 a1 a2 a3 σ h; exact hs (wl4 b n) ih a0 a1 a2 a3 σ h
def wl5 {A0 A1 A2 A3 A4 R : Type} (b : (A0 → A1 → A2 → A3 → A4 → M2 → Option R) → A0 → A1 → A2 → A3 → A4 → M2 → Option R) : Nat → A0 → A1 → A2 → A3 → A4 → M2 → Option R
  | 0, _, _, _, _, _, _ => none
  | n + 1, a0, a1, a2, a3, a4, σ => b (wl5 b n) a0 a1 a2 a3 a4 σ
theorem wl5_ind {A0 A1 A2 A3 A4 R : Type} {b : (A0 → A1 → A2 → A3 → A4 → M2 → Option R) → A0 → A1 → A2 → A3 → A4 → M2 → Option R} (P : A0 → A1 → A2 → A3 → A4 → M2 → Prop) {r : R} (hs : ∀ k : A0 → A1 → A2 → A3 → A4 → M2 → Option R, (∀ a0 a1 a2 a3 a4 σ, k a0 a1 a2 a3 a4 σ = some r → P a0 a1 a2 a3 a4 σ) → ∀ a0 a1 a2 a3 a4 σ, b k a0 a1 a2 a3 a4 σ = some r → P a0 a1 a2 a3 a4 σ) : ∀ (n : Nat), ∀ a0 a1 a2 a3 a4 σ, wl5 b n a0 a1 a2 a3 a4 σ = some r → P a0 a1 a2 a3 a4 σ := by
  intro n
  induction n with
  | zero => intro a0 a1 a2 a3 a4 σ h; cases h
  | succ n ih => intro a0 a1 a2 a3 a4 σ h; exact hs (wl5 b n) ih a0 a1 a2 a3 a4 σ h
def wl6 {A0 A1 A2 A3 A4 A5 R : Type} (b : (A0 → A1 → A2 → A3 → A4 → A5 → M2 → Option R) → A0 → A1 → A2 → A3 → A4 → A5 → M2 → Option R) : Nat → A0 → A1 → A2 → A3 → A4 → A5 → M2 → Option R
  | 0, _, _, _, _, _, _, _ => none
  | n + 1, a0, a1, a2, a3, a4, a5, σ => b (wl6 b n) a0 a1 a2 a3 a4 a5 σ
theorem wl6_ind {A0 A1 A2 A3 A4 A5 R : Type} {b : (A0 → A1 → A2 → A3 → A4 → A5 → M2 → Option R) → A0 → A1 → A2 → A3 → A4 → A5 → M2 → Option R} (P : A0 → A1 → A2 → A3 → A4 → A5 → M2 → Prop) {r : R} (hs : ∀ k : A0 → A1 → A2 → A3 → A4 → A5 → M2 → Option R, (∀ a0 a1 a2 a3 a4 a5 σ, k a0 a1 a2 a3 a4 a5 σ = some r → P a0 a1 a2 a3 a4 a5 σ) → ∀ a0 a1 a2 a3 a4 a5 σ, b k a0 a1 a2 a3 a4 a5 σ = some r → P a0 a1 a2 a3 a4 a5 σ) : ∀ (n : Nat), ∀ a0 a1 a2 a3 a4 a5 σ, wl6 b n a0 a1 a2 a3 a4 a5 σ = some r → P a0 a1 a2 a3 a4 a5 σ := by
  intro n
  induction n with
  | zero => intro a0 a1 a2 a3 a4 a5 σ h; cases h
  | succ n ih => intro a0 a1 a2 a3 a4 a5 σ h; exact hs (wl6 b n) ih a0 a1 a2 a3 a4 a5 σ h
def wl7 {A0 A1 A2 A3 A4 A5 A6 R : Type} (b : (A0 → A1 → A2 → A3 → A4 → A5 → A6 → M2 → Option R) → A0 → A1 → A2 → A3 → A4 → A5 → A6 → M2 → Option R) : Nat → A0 → A1 → A2 → A3 → A4 → A5 → A6 → M2 → Option R
  | 0, _, _, _, _, _, _, _, _ => none
  | n + 1, a0, a1, a2, a3, a4, a5, a6, σ => b (wl7 b n) a0 a1 a2 a3 a4 a5 a6 σ
theorem wl7_ind {A0 A1 A2 A3 A4 A5 A6 R : Type} {b : (A0 → A1 → A2 → A3 → A4 → A5 → A6 → M2 → Option R) → A0 → A1 → A2 → A3 → A4 → A5 → A6 → M2 → Option R} (P : A0 → A1 → A2 → A3 → A4 → A5 → A6 → M2 → Prop) {r : R} (hs : ∀ k : A0 → A1 → A2 → A3 → A4 → A5 → A6 → M2 → Option R, (∀ a0 a1 a2 a3 a4 a5 a6 σ, k a0 a1 a2 a3 a4 a5 a6 σ = some r → P a0 a1 a2 a3 a4 a5 a6 σ) → ∀ a0 a1 a2 a3 a4 a5 a6 σ, b k a0 a1 a2 a3 a4 a5 a6 σ = some r → P a0 a1 a2 a3 a4 a5 a6 σ) : ∀ (n : Nat), ∀ a0 a1 a2 a3 a4 a5 a6 σ, wl7 b n a0 a1 a2 a3 a4 a5 a6 σ = some r → P a0 a1 a2 a3 a4 a5 a6 σ := by
  intro n
  induction n with
  | zero => intro a0 a1 a2 a3 a4 a5 a6 σ h; cases h
  | succ n ih => intro a0 a1 a2 a3 a4 a5 a6 σ h; exact hs (wl7 b n) ih a0 a1 a2 a3 a4 a5 a6 σ h
