/-! contracts of constructors; calls from such frames -/
theorem SttA.narrow {γ : GT} {A B : Nat → Prop} {U : State} (h : SttA γ A U) (hAB : ∀ q, B q → A q) : SttA γ B U :=
  ⟨h.1, h.2.1.narrow hAB, h.2.2.1.narrow hAB, h.2.2.2.1.narrow hAB, h.2.2.2.2.1, h.2.2.2.2.2.1.narrow hAB, h.2.2.2.2.2.2.narrow hAB⟩
theorem AOk.blind {U : State} {g : JFrame} {mk : MethodId} {a : Array Value} (h : AOk U) : AOk (U.calling g mk a) := h.moved (Vm.Alike.refl U.vm)
def gPre (γ : GT) (w0 : va_W) (sz : Nat) (U : State) : Prop := U.heap.size = sz ∧ va_P γ.1 vwCl w0 U.heap ∧ va_D (fun _ => True) w0 ∧ va_K γ.1 vwCl (gtys γ) U ∧ SttA γ (va_A w0 sz) U ∧ AOk U
def gPost (γ : GT) (w0 : va_W) (w1 : (Nat → Nat) → va_W) (sz : Nat) : Array Value → State → Outcome → State → Prop := fun _ st oc t => oc = .returned none ∧ (∃ qs, va_P γ.1 vwCl (w1 qs) t.heap ∧ va_D (va_A w0 sz) (w1 qs)) ∧ va_F (va_A w0 sz) st t
def rmG (n mc ms : Nat) : Room := { frames := n, cells := mc, slots := ms, locals := 60 * n }
theorem gPre.blind {γ : GT} {w0 : va_W} {sz : Nat} {as : List Value} : FrameBlind (va_Pc as (gPre γ w0 sz)) := by
  intro a U g mk h
  obtain ⟨e, h1, h2, h3, h4, h5, h6⟩ := h
  exact ⟨e, h1, h2, h3, va_K.moved (u := U) (U := U.calling g mk a) (Vm.Alike.refl U.vm) h4, h5.blind, h6.blind⟩
/-- the contract of a constructor: the world ahead (its object, nothing in it), the world behind; it makes `mc` cells of `ms` slots -/
def Kt (l : Launch) (γ : GT) (y : MethodName) (cc : ByteArray) (maxL n mc ms : Nat) (as : List Value) (w0 : va_W) (w1 : (Nat → Nat) → va_W) : Prop :=
  ∀ sz, Met l y (.code y cc maxL none :: gtbl) (rmG n mc ms) (va_Pc as (gPre γ w0 sz)) (gPost γ w0 w1 sz) mc ms (va_A w0 sz)
theorem Kt.of {l : Launch} {γ : GT} {y : MethodName} {cc : ByteArray} {maxL n mc ms : Nat} {as : List Value} {w0 : va_W} {w1 : (Nat → Nat) → va_W} {L : List (Nat × Value)} {own : String}
    (hy : plainName y.cls = true) (ho : y.cls = own) (hnm : y.name = "<init>") (hlen : Nat.ble (lg_sl as).length maxL = true) (hL : lv_args 0 as = L)
    (body : ∀ (κ : KG) (sz : Nat), κ.2.1 = l → κ.2.2.2.2.2.2.2.2.1.name = "<init>" → Cg γ (va_A w0 sz) κ (rmG n mc ms) cc maxL own none → G γ (va_A w0 sz) κ (MQ (kbelow κ) (gPost γ w0 w1 sz) (kargs κ) (ks κ) mc ms (va_A w0 sz)) maxL 0 0 0 L [] w0) : Kt l γ y cc maxL n mc ms as w0 w1 := by
  intro sz
  refine Met.ofW (cc := cc) (maxL := maxL) (ret := none) hy rfl ?_
  intro p e s m args below meth c s₁ B hml hv
  obtain ⟨rfl, hsz, hP, hD, hK, hSt, hAO⟩ := hv
  subst hsz
  have hts := atoms_spec (ws := .code y cc maxL none :: gtbl) B.pre
  have hown : s.vm.findClass own = some m.cls := by rw [← ho]; exact findClass_of_methodNamed B.named
  have hin : meth.name = "<init>" := ((name_of_methodNamed B.named B.method).1).trans hnm
  have hl := lv_entry as (n := maxL) (Nat.le_of_ble_eq_true hlen)
  rw [lg_entry_eq]
  generalize (lg_sl as ++ List.replicate (maxL - (lg_sl as).length) Slot.unset).toArray = ls at hl ⊢
  rw [hL] at hl
  exact body (p, l, e, rmG n mc ms, s, m, as.toArray, below, meth, c) s.heap.size rfl hin ⟨B.exec, B.bytes, hml, hown, fun w hw => hts w (List.mem_cons_of_mem _ hw), B.returns, B.notSynchronized, hK, hSt, hAO, fun q h => Or.inr h, rfl⟩ s.heap [] ls hP hD.self va_S.rf hl
abbrev ap (a b : va_W) : va_W := a ++ b
section APP
variable {D : va_G} {cl : List vw_C} {A : Nat → Prop} {w1 w2 wc wr : va_W} {H H1 : Heap}
theorem at_l {k : Nat} {q : Nat × va_E} (h : w1[k]? = some q) : (w1 ++ w2)[k]? = some q := by
  rw [List.getElem?_append_left (List.getElem?_eq_some_iff.mp h).1]; exact h
theorem at_r {k : Nat} {q : Nat × va_E} (h : w2[k]? = some q) : (w1 ++ w2)[w1.length + k]? = some q := by
  rw [List.getElem?_append_right (by omega), Nat.add_sub_cancel_left]; exact h
theorem va_P.l (h : va_P D cl (w1 ++ w2) H) : va_P D cl w1 H := fun k q hk => h k q (at_l hk)
theorem va_P.r (h : va_P D cl (w1 ++ w2) H) : va_P D cl w2 H := fun k q hk => h _ q (at_r hk)
theorem va_D.l (h : va_D A (w1 ++ w2)) : va_D A w1 := ⟨fun i j p q hi hj e => h.1 i j p q (at_l hi) (at_l hj) e, fun k q hk => h.2 k q (at_l hk)⟩
theorem va_D.r (h : va_D A (w1 ++ w2)) : va_D A w2 := ⟨fun i j p q hi hj e => by have := h.1 _ _ p q (at_r hi) (at_r hj) e; omega, fun k q hk => h.2 _ q (at_r hk)⟩
theorem va_D.apart (h : va_D A (w1 ++ w2)) {i j : Nat} {p q : Nat × va_E} (hi : w1[i]? = some p) (hj : w2[j]? = some q) : p.1 ≠ q.1 := fun e => by
  have h1 := h.1 _ _ p q (at_l hi) (at_r hj) e
  have h2 := (List.getElem?_eq_some_iff.mp hi).1
  omega
theorem va_P.sw (h : va_P D cl (w1 ++ w2) H) : va_P D cl (w2 ++ w1) H := h.r.app h.l
theorem va_D.sw (h : va_D A (w1 ++ w2)) : va_D A (w2 ++ w1) := h.r.app h.l (fun i j p q hi hj => (h.apart hj hi).symm)
theorem vj (hP : va_P D cl (wr ++ wc) H) (hD : va_D A (wr ++ wc)) (hk : ∀ q : Nat, q < H.size → ¬ va_A wc H.size q → H1[q]? = H[q]?) (hF : ∀ q, va_A wc H.size q → A q) (hP1 : va_P D cl w1 H1) (hD1 : va_D (va_A wc H.size) w1) : va_P D cl (wr ++ w1) H1 ∧ va_D A (wr ++ w1) := by
  have apart : ∀ (k : Nat) (q : Nat × va_E), wr[k]? = some q → q.1 < H.size ∧ ¬ va_A wc H.size q.1 := by
    intro k q hq
    have hl := (hP k q (at_l hq)).lt
    refine ⟨hl, fun h => ?_⟩
    rcases h with ⟨k2, e, h⟩ | h
    · exact hD.apart hq h rfl
    · omega
  refine ⟨va_P.app (fun k q hq => (hP k q (at_l hq)).kept (hk q.1 (apart k q hq).1 (apart k q hq).2)) hP1, hD.l.app (hD1.weaken (fun k q _ h => hF q.1 h)) (fun i j x y hx hy hxy => (apart i x hx).2 (by rw [hxy]; exact hD1.2 j y hy))⟩
end APP
section GCALL
variable {γ : GT} {A : Nat → Prop} {κ : KG} {Q : State → Prop} {rm : Room} {cc : ByteArray} {nL k n pc : Nat} {own : String} {ret : Option FieldType} {L : List (Nat × Value)} {st : List Value} {ws ws' wr wc : va_W}
theorem g_swap {w1 w2 : va_W} (kk : G γ A κ Q nL k n pc L st (w2 ++ w1)) : G γ A κ Q nL k n pc L st (w1 ++ w2) := fun H locs ls hP hD hS hl => kk H locs ls hP.sw hD.sw hS hl
theorem g_vret {w0 : va_W} {sz : Nat} {w1 : (Nat → Nat) → va_W} (C : Cg γ (va_A w0 sz) κ rm cc nL own none) (qs : Nat → Nat) (hw : ws = w1 qs) (d : decode cc pc = .ok (.return_, 1)) : G γ (va_A w0 sz) κ (MQ (kbelow κ) (gPost γ w0 w1 sz) (kargs κ) (ks κ) k n (va_A w0 sz)) nL k n pc L [] ws := fun H locs ls hP hD hS hl =>
  W.vret C.x C.b C.r (fun t ht _ => ⟨rfl, ⟨qs, by rw [ht, ← hw]; exact hP, by rw [← hw]; exact hD⟩, hS.F ht⟩) hS.2.2 d C.lk
/-- behind a constructor's call -/
theorem g_goK {b : Nat} {As rest st0 : List Value} {mc ms : Nat} {w1 : (Nat → Nat) → va_W} (C : Cg γ A κ rm cc nL own ret)
    (hr : ∀ (H : Heap) (locs : List Loc) (ls : Array Slot), va_P γ.1 vwCl wc H → va_D A wc → va_S A (ks κ).heap H locs → (∀ q, va_A wc H.size q → A q) → lv_has ls nL L → va_Run κ.1 κ.2.1 κ.2.2.1 κ.2.2.2.1 (ks κ) κ.2.2.2.2.2.1 (kargs κ) (kbelow κ) κ.2.2.2.2.2.2.2.2.1 κ.2.2.2.2.2.2.2.2.2 H locs k n mc ms (F0 κ.2.2.2.2.2.1 pc ls st0) rest (gPost γ wc w1 H.size (Value.ref b :: As).toArray) (va_A wc H.size))
    (kk : ∀ qs, G γ A κ Q nL (k + mc) (n + ms) (pc + 3) L rest (wr ++ w1 qs)) : G γ A κ Q nL k n pc L st0 (wr ++ wc) := by
  intro H locs ls hP hD hS hl T hT X
  have hF : ∀ q, va_A wc H.size q → A q := by
    intro q h
    rcases h with ⟨k2, e, h⟩ | h
    · exact hD.r.2 k2 (q, e) h
    · exact C.fA q (Nat.le_trans hS.1 h)
  obtain ⟨v, st₀, t, T', L', h0, X', hL, e1, e2, ⟨hv, ⟨qs, hP1, hD1⟩, hz, hk⟩, hst⟩ := hr H locs ls hP.r hD.r hS hF hl T hT X
  cases hv
  rw [h0] at hz hk
  rw [← e1] at hz hP1
  have hk' : ∀ q : Nat, q < H.size → ¬ va_A wc H.size q → T'.heap[q]? = H[q]? := fun q h1 h2 => by rw [e1]; exact hk q h1 h2
  obtain ⟨hP2, hD2⟩ := vj hP hD hk' hF hP1 hD1
  obtain ⟨t2, a1, b1⟩ := kk qs T'.heap (locs ++ L') ls hP2 hD2
    ⟨Nat.le_trans hS.1 hz, fun q h1 h2 => by rw [hk' q (Nat.lt_of_lt_of_le h1 hS.1) (fun z => h2 (hF q z))]; exact hS.2.1 q h1 h2, fun q hq => by
      rcases List.mem_append.mp hq with h | h
      · exact hS.2.2 q h
      · exact hF _ (hL q h)⟩ hl T' rfl X'
  exact ⟨t2, hst t2 a1, b1⟩
theorem Cg.preK (C : Cg γ A κ rm cc nL own ret) {as : List Value} {H : Heap} {locs : List Loc} (hP : va_P γ.1 vwCl wc H) (hD : va_D A wc) (hS : va_S A (ks κ).heap H locs) (hF : ∀ q, va_A wc H.size q → A q) (U : State) (hU : U.heap = H) (hW : (ks κ).WarmedH U.vm) : va_Pc as (gPre γ wc H.size) as.toArray U :=
  ⟨rfl, by rw [hU], by rw [hU]; exact hP, hD.weaken (fun _ _ _ _ => trivial), va_K.moved hW.alike C.K, (C.S.call hS hU hW).narrow hF, C.AO.moved hW.alike⟩
/-- what a constructor is -/
def IB (y : MethodName) (bytes : ByteArray) (maxL : Nat) (k : Nat) : Prop := Cond.code y bytes maxL none ∈ gtbl ∧ Cond.initialized y.cls ∈ gtbl ∧ Cond.instanceMethod y ∈ gtbl ∧ maxL ≤ 41 ∧ y.name = "<init>" ∧ (y.cls ≠ "java/lang/invoke/MethodHandle" ∧ y.cls ≠ "java/lang/invoke/VarHandle" ∧ (parseMethodDescriptor y.desc).map (fun d => d.parameters.length) = some k)
theorem Cg.pay {y : MethodName} {bytes : ByteArray} {maxL : Nat} {r' : Option FieldType} (C : Cg γ A κ rm cc nL own ret) (hcode : Cond.code y bytes maxL r' ∈ gtbl) : ∀ w ∈ (Cond.code y bytes maxL r' :: gtbl), ∀ (a' : Array Value) (U : State), (ks κ).WarmedH U.vm → w.before a' U = true :=
  pay_in C.t (fun w hw => by
    rcases List.mem_cons.mp hw with rfl | h
    · exact gtbl_good gtbl (fun _ h => h) _ hcode
    · exact gtbl_good gtbl (fun _ h => h) _ h)
abbrev Rg (n' maxL : Nat) (rm : Room) : Prop := n' + 1 ≤ rm.frames ∧ maxL + 19 + 60 * n' ≤ rm.locals
theorem g_callI {b i maxL n' mc ms : Nat} {y : MethodName} {bytes : ByteArray} {As rest st0 : List Value} {w1 : (Nat → Nat) → va_W} (C : Cg γ A κ rm cc nL own ret) (B : IB y bytes maxL As.length) (hM : Kt κ.2.1 γ y bytes maxL n' mc ms (.ref b :: As) wc w1) (hst : st0 = As.reverse ++ .ref b :: rest) (hR : Rg n' maxL rm) (hlk : Cond.methodLink own i y ∈ gtbl) (hcat : Nat.ble ((rest.map fun v => v.category).sum) 8 = true) (hk : k + mc ≤ rm.cells) (hn : n + ms ≤ rm.slots) (d : decode cc pc = .ok (.invokespecial i, 3))
    (kk : ∀ qs, G γ A κ Q nL (k + mc) (n + ms) (pc + 3) L rest (wr ++ w1 qs)) : G γ A κ Q nL k n pc L st0 (wr ++ wc) := by
  refine g_goK (b := b) (As := As) C (fun H locs ls hP hD hS hF hl => ?_) kk
  exact va_runI (As := As) (n := As.length) (own := own) (Ts := gtbl) ⟨C.x, C.b, C.ml, C.o, C.t⟩ (hM H.size) ⟨⟨rfl, rfl, by rw [C.fR]; exact hR.1, by rw [C.fR]; have := hR.2; show 8 + (maxL + 11) + 60 * n' ≤ rm.locals; omega, C.pay B.1, List.mem_cons_self, C.t _ B.1, C.t _ B.2.1, ⟨B.2.2.2.2.2.1, B.2.2.2.2.2.2.1⟩, fun sig h => by
      have h2 := B.2.2.2.2.2.2.2
      rw [h] at h2
      exact (Option.some.inj h2).symm, C.t _ hlk⟩, B.2.2.2.2.1, C.t _ B.2.2.1⟩ ⟨gPre.blind, C.preK hP hD hS hF⟩ rfl rfl hl.1 hst (lv_room (Nat.le_of_ble_eq_true hcat)) d ⟨by rw [C.fR]; exact hk, by rw [C.fR]; exact hn⟩
theorem g_callIN {b i maxL n' mc ms : Nat} {y : MethodName} {host : String} {bytes : ByteArray} {As rest st0 : List Value} {w1 : (Nat → Nat) → va_W} (C : Cg γ A κ rm cc nL own ret) (B : IB y bytes maxL As.length) (hM : Kt κ.2.1 γ y bytes maxL n' mc ms (.ref b :: As) wc w1) (hst : st0 = As.reverse ++ .ref b :: rest) (hR : Rg n' maxL rm) (hlk : (own, i, y, host) ∈ nestL) (hcat : Nat.ble ((rest.map fun v => v.category).sum) 8 = true) (hk : k + mc ≤ rm.cells) (hn : n + ms ≤ rm.slots) (d : decode cc pc = .ok (.invokespecial i, 3))
    (kk : ∀ qs, G γ A κ Q nL (k + mc) (n + ms) (pc + 3) L rest (wr ++ w1 qs)) : G γ A κ Q nL k n pc L st0 (wr ++ wc) := by
  refine g_goK (b := b) (As := As) C (fun H locs ls hP hD hS hF hl => ?_) kk
  exact va_runIN (As := As) (n := As.length) (own := own) (host := host) (Ts := gtbl) ⟨C.x, C.b, C.ml, C.o, C.t⟩ (hM H.size) ⟨⟨⟨rfl, rfl, by rw [C.fR]; exact hR.1, by rw [C.fR]; have := hR.2; show 8 + (maxL + 11) + 60 * n' ≤ rm.locals; omega, C.pay B.1, List.mem_cons_self⟩, C.t _ B.1, C.t _ B.2.1, ⟨B.2.2.2.2.2.1, B.2.2.2.2.2.2.1⟩, fun sig h => by
      have h2 := B.2.2.2.2.2.2.2
      rw [h] at h2
      exact (Option.some.inj h2).symm, va_Nw.use rfl (C.S.1 _ hlk)⟩, B.2.2.2.2.1, C.t _ B.2.2.1⟩ ⟨gPre.blind, C.preK hP hD hS hF⟩ rfl rfl hl.1 hst (lv_room (Nat.le_of_ble_eq_true hcat)) d ⟨by rw [C.fR]; exact hk, by rw [C.fR]; exact hn⟩
/-- a call of a finished object's method -/
theorem wld_fst (ω : WT) (σ : M2) : (wld ω σ).map Prod.fst = (List.range (wN ω)).map (wad ω) := by simp [wld, List.map_map, Function.comp_def]
theorem va_D.same {w1 w2 : va_W} (h : va_D A w1) (e : w2.map Prod.fst = w1.map Prod.fst) : va_D A w2 := by
  have key : ∀ (k : Nat) (q : Nat × va_E), w2[k]? = some q → ∃ q1, w1[k]? = some q1 ∧ q1.1 = q.1 := by
    intro k q hq
    have h1 : (w2.map Prod.fst)[k]? = some q.1 := by rw [List.getElem?_map, hq]; rfl
    rw [e, List.getElem?_map] at h1
    cases hw : w1[k]? with
    | none => rw [hw] at h1; cases h1
    | some q1 => rw [hw] at h1; exact ⟨q1, rfl, Option.some.inj h1⟩
  refine ⟨fun i j p q hi hj hpq => ?_, fun k q hk => ?_⟩
  · obtain ⟨p1, h1, h2⟩ := key i p hi
    obtain ⟨q1, h3, h4⟩ := key j q hj
    exact h.1 i j p1 q1 h1 h3 (h2.trans (hpq.trans h4.symm))
  · obtain ⟨q1, h1, h2⟩ := key k q hk
    rw [← h2]; exact h.2 k q1 h1
theorem va_D.wA {S : SH} {ad : Nat → Nat} {σ : M2} (h : va_D A (wld (ωG S γ ad) σ)) : ∀ q, wA (ωG S γ ad) q → A q := by
  rintro q ⟨i, hi, rfl⟩
  exact h.2 i _ (wld_at (ωG S γ ad) σ hi)
theorem g_goC {S : SH} {ad : Nat → Nat} {σ σ1 : M2} {v : Option Value} {a : Array Value} {rest st0 : List Value} (C : Cg γ A κ rm cc nL own ret)
    (hr : ∀ (H : Heap) (locs : List Loc) (ls : Array Slot), va_P γ.1 vwCl (wld (ωG S γ ad) σ) H → va_S A (ks κ).heap H locs → (∀ q, wA (ωG S γ ad) q → A q) → lv_has ls nL L → va_Run κ.1 κ.2.1 κ.2.2.1 κ.2.2.2.1 (ks κ) κ.2.2.2.2.2.1 (kargs κ) (kbelow κ) κ.2.2.2.2.2.2.2.2.1 κ.2.2.2.2.2.2.2.2.2 H locs k n 0 0 (F0 κ.2.2.2.2.2.1 pc ls st0) rest (Qw (ωG S γ ad) v σ1 a) (wA (ωG S γ ad)))
    (kk : G γ A κ Q nL k n (pc + 3) L (v.toList ++ rest) (wr ++ wld (ωG S γ ad) σ1)) : G γ A κ Q nL k n pc L st0 (wr ++ wld (ωG S γ ad) σ) := by
  intro H locs ls hP hD hS hl T hT X
  have hA := hD.r.wA
  obtain ⟨v', st₀, t, T', L', h0, X', hL, e1, e2, ⟨hv, hp, hF⟩, hst⟩ := hr H locs ls hP.r hS hA hl T hT X
  cases hv
  obtain ⟨hz, hk⟩ := hF
  rw [h0] at hz hk
  have hk' : ∀ q : Nat, q < H.size → ¬ wA (ωG S γ ad) q → T'.heap[q]? = H[q]? := fun q h1 h2 => by rw [e1]; exact hk q h1 h2
  have hP2 : va_P γ.1 vwCl (wr ++ wld (ωG S γ ad) σ1) T'.heap := by
    refine va_P.app (fun j q hq => (hP j q (at_l hq)).kept (hk' q.1 (hP j q (at_l hq)).lt ?_)) (by rw [e1]; exact hp)
    rintro ⟨i, hi, e⟩
    exact hD.apart hq (wld_at (ωG S γ ad) σ hi) e
  obtain ⟨t2, a1, b1⟩ := kk T'.heap (locs ++ L') ls hP2 (hD.same (by rw [List.map_append, List.map_append, wld_fst, wld_fst]))
    ⟨Nat.le_trans hS.1 (by rw [e1]; exact hz), fun q h1 h2 => by rw [hk' q (Nat.lt_of_lt_of_le h1 hS.1) (fun z => h2 (hA q z))]; exact hS.2.1 q h1 h2, fun q hq => by
      rcases List.mem_append.mp hq with h | h
      · exact hS.2.2 q h
      · exact hA _ (hL q h)⟩ hl T' rfl X'
  exact ⟨t2, hst t2 a1, b1⟩
theorem Cg.preC (C : Cg γ A κ rm cc nL own ret) {S : SH} {ad : Nat → Nat} {σ : M2} {as : List Value} {H : Heap} {locs : List Loc} (hI : Inj (ωG S γ ad)) (hP : va_P γ.1 vwCl (wld (ωG S γ ad) σ) H) (hS : va_S A (ks κ).heap H locs) (hA : ∀ q, wA (ωG S γ ad) q → A q) (U : State) (hU : U.heap = H) (hW : (ks κ).WarmedH U.vm) : va_Pc as (Pw (ωG S γ ad) σ) as.toArray U :=
  ⟨rfl, by rw [hU]; exact hP, va_K.moved hW.alike C.K, hI, ((C.S.call hS hU hW).narrow hA).Stt⟩
theorem Cg.callB (C : Cg γ A κ rm cc nL own ret) {i maxL n' k : Nat} {y : MethodName} {bytes : ByteArray} {r' : Option FieldType} (hR : Rg n' maxL rm) (hcode : Cond.code y bytes maxL r' ∈ gtbl) (hini : Cond.initialized y.cls ∈ gtbl) (hlk : Cond.methodLink own i y ∈ gtbl) (hm1 : y.cls ≠ "java/lang/invoke/MethodHandle" ∧ y.cls ≠ "java/lang/invoke/VarHandle" ∧ (parseMethodDescriptor y.desc).map (fun d => d.parameters.length) = some k) : CallB κ.2.2.2.1 (ks κ) (kargs κ) own i y bytes maxL r' (.code y bytes maxL r' :: gtbl) (rmL n') 0 0 k :=
  ⟨rfl, rfl, by rw [C.fR]; exact hR.1, by rw [C.fR]; have := hR.2; show 8 + (maxL + 11) + 60 * n' ≤ rm.locals; omega, C.pay hcode, List.mem_cons_self, C.t _ hcode, C.t _ hini, ⟨hm1.1, hm1.2.1⟩, fun sig h => by
      have h2 := hm1.2.2
      rw [h] at h2
      exact (Option.some.inj h2).symm, C.t _ hlk⟩
theorem g_ctV {S : SH} {ad : Nat → Nat} {σ σ1 : M2} {v : Option Value} {i maxL n' o ci N : Nat} {y : MethodName} {bytes : ByteArray} {r' : Option FieldType} {As rest st0 : List Value} {T : u_T} {Cn : String} (C : Cg γ A κ rm cc nL own ret) (hI : Inj (ωG S γ ad)) (B : VB y bytes maxL r' Cn As.length) (hc : vwCl[ci]? = some (Cn, T, N)) (hci : ci + 2 ≠ 99)
    (hM : Ct κ.2.1 (ωG S γ ad) y bytes maxL r' n' (.ref (ad o) :: As) σ v σ1) (hst : st0 = As.reverse ++ .ref (ad o) :: rest) (hR : Rg n' maxL rm) (hlk : Cond.methodLink own i y ∈ gtbl) (hsh : S.2.1 o = (ci + 2, N)) (hcat : Nat.ble ((rest.map fun v => v.category).sum) 8 = true) (hkr : k ≤ rm.cells) (hnr : n ≤ rm.slots) (d : decode cc pc = .ok (.invokevirtual i, 3))
    (kk : G γ A κ Q nL k n (pc + 3) L (v.toList ++ rest) (wr ++ wld (ωG S γ ad) σ1)) : G γ A κ Q nL k n pc L st0 (wr ++ wld (ωG S γ ad) σ) := by
  refine g_goC (a := (Value.ref (ad o) :: As).toArray) C (fun H locs ls hP hS hA hl => ?_) kk
  exact va_runV (As := As) (n := As.length) (C := Cn) (own := own) (Ts := gtbl) ⟨C.x, C.b, C.ml, C.o, C.t⟩ hM ⟨C.callB hR B.1 B.2.1 hlk B.2.2.2.2.2, C.t _ B.2.2.1, C.t _ B.2.2.2.1⟩ ⟨Pw.blind, va_recv C.K hP hc (by rw [wld_at (ωG S γ ad) σ (hI.lt hsh hci), celle_o hsh]), C.preC hI hP hS hA⟩ rfl rfl hl.1 hst (lv_room (Nat.le_of_ble_eq_true hcat)) d ⟨by rw [C.fR]; exact hkr, by rw [C.fR]; exact hnr⟩
theorem g_ctStr {S : SH} {ad : Nat → Nat} {σ σ1 : M2} {v : Option Value} {i q maxL n' : Nat} {y : MethodName} {bytes : ByteArray} {r' : Option FieldType} {As rest st0 : List Value} (C : Cg γ A κ rm cc nL own ret) (hI : Inj (ωG S γ ad)) (hq : q < 13) (B : VB y bytes maxL r' "java/lang/String" As.length)
    (hM : Ct κ.2.1 (ωG S γ ad) y bytes maxL r' n' (.ref (γ.2.2.1 q) :: As) σ v σ1) (hst : st0 = As.reverse ++ .ref (γ.2.2.1 q) :: rest) (hR : Rg n' maxL rm) (hlk : Cond.methodLink own i y ∈ gtbl) (hcat : Nat.ble ((rest.map fun v => v.category).sum) 8 = true) (hkr : k ≤ rm.cells) (hnr : n ≤ rm.slots) (d : decode cc pc = .ok (.invokevirtual i, 3))
    (kk : G γ A κ Q nL k n (pc + 3) L (v.toList ++ rest) (wr ++ wld (ωG S γ ad) σ1)) : G γ A κ Q nL k n pc L st0 (wr ++ wld (ωG S γ ad) σ) := by
  refine g_goC (a := (Value.ref (γ.2.2.1 q) :: As).toArray) C (fun H locs ls hP hS hA hl => ?_) kk
  exact va_runV (As := As) (n := As.length) (C := "java/lang/String") (own := own) (Ts := gtbl) ⟨C.x, C.b, C.ml, C.o, C.t⟩ hM ⟨C.callB hR B.1 B.2.1 hlk B.2.2.2.2.2, C.t _ B.2.2.1, C.t _ B.2.2.2.1⟩ ⟨Pw.blind, vk_recv C.S.2.2.2.2.2.1 hq hS, C.preC hI hP hS hA⟩ rfl rfl hl.1 hst (lv_room (Nat.le_of_ble_eq_true hcat)) d ⟨by rw [C.fR]; exact hkr, by rw [C.fR]; exact hnr⟩
theorem arrV_congr {cA N : Nat} {f g : Nat → Value} (h : ∀ j, j < N → f j = g j) : arrV cA N f = arrV cA N g := by
  have e : (fun j : Fin N => f j.val) = fun j => g j.val := funext fun j => h j.1 j.2
  unfold arrV
  rw [e]
def mw (γ : GT) (q N M : Nat) : va_W := (q, .inl (gcW γ, N, .inr (.inr (.inr (.inr (fun j => some (q + 1 + j))))))) :: (List.range N).map (fun j => (q + 1 + j, .inl (gcI γ, M, .inl (fun _ => 0))))
theorem g_multi (C : Cg γ A κ rm cc nL own ret) {i N M : Nat} {x y : Int32} (hcl : Cond.classLink own i "[[I" ∈ gtbl) (har : Cond.arrayClass .int ∈ gtbl) (hx : ¬ x < 0) (hy : ¬ y < 0) (hN : x.toNatClampNeg = N) (hM : y.toNatClampNeg = M) (h1 : N * 4 ≤ 536870912) (h2 : M * 4 ≤ 536870912) (hk : k + (1 + N) ≤ rm.cells) (hn : n + (N + N * M) ≤ rm.slots) (d : decode cc pc = .ok (.multianewarray i 2, 4))
    (kk : ∀ q, G γ A κ Q nL (k + 1 + N) (n + N + N * M) (pc + 4) L (.ref q :: st) (ws ++ mw γ q N M)) : G γ A κ Q nL k n pc L (.int y :: .int x :: st) ws := by
  intro H locs ls hP hD hS hl
  subst hN
  subst hM
  refine W.multi C.x C.b C.o (C.t _ hcl) C.AO.2.2 (C.t _ har) rfl d rfl hx hy h1 h2 (by rw [C.fR]; exact hk) (by rw [C.fR]; exact hn) (fun cW cI kW H' L' e1 e2 e3 e4 e5 e6 e7 e8 e9 => ?_)
  obtain rfl : cW = gcW γ := Option.some.inj (e1.symm.trans (C.K.2 3 _ rfl).2)
  obtain rfl : cI = gcI γ := Option.some.inj (e2.symm.trans (C.K.2 0 _ rfl).2)
  have hkp : ∀ (k : Nat) (x : Nat × va_E), ws[k]? = some x → H'[x.1]? = H[x.1]? := fun k x hx => e8 x.1 (hP k x hx).lt
  have hnew : ∀ (j : Nat) (q : Nat × va_E), (mw γ H.size x.toNatClampNeg y.toNatClampNeg)[j]? = some q → va_at γ.1 vwCl q H' ∧ q.1 = H.size + j := by
    intro j q hq
    cases j with
    | zero =>
      cases hq
      refine ⟨?_, rfl⟩
      show H'[H.size]? = some (vp_cell _ _)
      rw [e6, vp_cell_q]
      unfold muC
      exact congrArg some (arrV_congr (fun j hj => if_pos hj))
    | succ j =>
      have hj : j < x.toNatClampNeg := by
        have := (List.getElem?_eq_some_iff.mp hq).1
        simpa [mw] using this
      have hq' : ((List.range x.toNatClampNeg).map (fun j => ((H.size + 1 + j, .inl (gcI γ, y.toNatClampNeg, .inl (fun _ => 0))) : Nat × va_E)))[j]? = some q := hq
      rw [List.getElem?_map, List.getElem?_range hj] at hq'
      cases hq'
      refine ⟨?_, by show H.size + 1 + j = H.size + (j + 1); omega⟩
      show H'[H.size + 1 + j]? = some (vp_cell _ _)
      rw [e7 j hj, vp_cell_i]
  refine kk H.size H' (locs ++ L') ls ((hP.kept hkp).app (fun k q h => (hnew k q h).1)) (hD.app ⟨fun i j p q hi hj e => ?_, fun k q hk => ?_⟩ (fun i j p q hi hj => ?_)) ⟨Nat.le_trans hS.1 (by omega), fun z h1 h2 => (e8 z (Nat.lt_of_lt_of_le h1 hS.1)).trans (hS.2.1 z h1 h2), fun q hq => ?_⟩ hl
  · have g1 := (hnew i p hi).2
    have g2 := (hnew j q hj).2
    omega
  · exact C.fA _ (by rw [(hnew k q hk).2]; exact Nat.le_trans hS.1 (Nat.le_add_right _ _))
  · have g1 := (hP i p hi).lt
    have g2 := (hnew j q hj).2
    omega
  · rcases List.mem_append.mp hq with h | h
    · exact hS.2.2 q h
    · exact C.fA _ (by rw [e9 q h]; exact hS.1)
end GCALL
