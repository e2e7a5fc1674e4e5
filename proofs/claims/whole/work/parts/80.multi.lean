/-! a new array of arrays, two lengths (multianewarray): the kit has no row for it -/
section MULTI
section MU1
variable {E : CtlPost} {e : Jvm.Env} {d : Bool} {acts : List Action} {s : State}
theorem mu_new {cA comp : ClassId} {kA : Class} {ty : FieldType} {n : Nat} {v : Value} {Q : Addr → Pre} (hk : s.vm.classes[cA]? = some kA) (hkind : kA.kind = .array comp ty) (hf : fits ty v = true) (hd : v.isDefault = true)
    (h1 : n ≤ e.platform.arrayLengthLimit) (h2 : n * componentBytes ty ≤ e.platform.maxHeapBytes) (h3 : s.heap.size + 1 ≤ e.platform.maxCells) (h4 : s.slotsUsed + n ≤ e.platform.maxSlots)
    (hQ : Q s.heap.size d acts (s.pushCell (arrV cA n (fun _ => v)))) : wp (Jvm.newArray cA n v) Q E e d acts s := by
  have hfit : ∀ i x, (Array.replicate n v)[i]? = some x → s.fitsSlot cA .none i x = true := by
    intro i x hx
    rw [Array.getElem?_replicate] at hx
    split at hx
    · cases hx; simp [State.fitsSlot, State.slotType?, hk, hkind, hf]
    · cases hx
  have hacts : allocActs (Array.replicate n v) s.heap.size acts = acts := by
    unfold allocActs
    rw [if_pos]
    rw [Array.all_replicate]
    split <;> simp [hd]
  have e1 : ¬ n > e.platform.arrayLengthLimit := Nat.not_lt.mpr h1
  have e2 : ¬ n * componentBytes ty > e.platform.maxHeapBytes := Nat.not_lt.mpr h2
  have e3 : ¬ n > e.platform.maxSlots := by omega
  rw [← arrV_new] at hQ
  simp only [Jvm.newArray, Jvm.arrayFits, wp_bind', W.ask, W.ite, e1, e2, e3, if_false, wp_pure', W.theClass, hk, hkind, W.alloc, W.stop, Option.some.injEq, exists_eq_left', Array.size_replicate, hacts]
  exact ⟨by omega, h4, hfit, hQ⟩
theorem mu_one {cA comp : ClassId} {kA : Class} {k : Int32} {Q : Addr → Pre} (hk : s.vm.classes[cA]? = some kA) (hkind : kA.kind = .array comp .int) (h0 : ¬ k < 0)
    (h1 : k.toNatClampNeg ≤ e.platform.arrayLengthLimit) (h2 : k.toNatClampNeg * componentBytes .int ≤ e.platform.maxHeapBytes) (h3 : s.heap.size + 1 ≤ e.platform.maxCells) (h4 : s.slotsUsed + k.toNatClampNeg ≤ e.platform.maxSlots)
    (hQ : Q s.heap.size d acts (s.pushCell (arrV cA k.toNatClampNeg (fun _ => .int 0)))) : wp (multianewarray.make cA [k]) Q E e d acts s := by
  rw [multianewarray.make]
  simp only [wp_bind', W.ite, h0, if_false, wp_pure', W.theClass, hk, hkind, Option.some.injEq, exists_eq_left']
  exact mu_new hk hkind rfl rfl h1 h2 h3 h4 hQ
/-- the outer array, `j` of its places laid -/
def muC (cW n h0 j : Nat) : Cell := arrV cW n (fun i => if i < j then .ref (h0 + 1 + i) else .null)
theorem muC_next (cW n h0 j : Nat) : (muC cW n h0 j).setSlot j (.ref (h0 + 1 + j)) = muC cW n h0 (j + 1) := by
  unfold muC
  rw [arrV_store]
  congr 1
  funext i
  simp only [updV]
  by_cases hi : i = j
  · subst hi; simp
  · simp only [hi, if_false]
    by_cases h : i < j
    · rw [if_pos h, if_pos (by omega)]
    · rw [if_neg h, if_neg (by omega)]
/-- a loop of places laid, by what holds at each -/
theorem mu_two {cW cI comp : ClassId} {kW kI : Class} {n k : Int32} {Q : Addr → Pre} (I : Nat → State → Prop) (hk : s.vm.classes[cW]? = some kW) (hkind : kW.kind = .array cI (.array .int)) (h0 : ¬ n < 0) (hk0 : ¬ k < 0)
    (h1 : n.toNatClampNeg ≤ e.platform.arrayLengthLimit) (h2 : n.toNatClampNeg * componentBytes (.array .int) ≤ e.platform.maxHeapBytes) (h3 : s.heap.size + 1 ≤ e.platform.maxCells) (h4 : s.slotsUsed + n.toNatClampNeg ≤ e.platform.maxSlots)
    (h5 : k.toNatClampNeg ≤ e.platform.arrayLengthLimit) (h6 : k.toNatClampNeg * componentBytes .int ≤ e.platform.maxHeapBytes)
    (hI0 : I 0 (s.pushCell (muC cW n.toNatClampNeg s.heap.size 0)))
    (hI : ∀ j t, j < n.toNatClampNeg → I j t → t.vm.classes[cW]? = some kW ∧ t.vm.classes[cI]? = some kI ∧ kI.kind = .array comp .int ∧ t.heap.size = s.heap.size + 1 + j ∧ t.heap[s.heap.size]? = some (muC cW n.toNatClampNeg s.heap.size j) ∧ t.heap.size + 1 ≤ e.platform.maxCells ∧ t.slotsUsed + k.toNatClampNeg ≤ e.platform.maxSlots ∧
      I (j + 1) ((t.pushCell (arrV cI k.toNatClampNeg (fun _ => .int 0))).setCell s.heap.size (muC cW n.toNatClampNeg s.heap.size (j + 1))))
    (hQ : ∀ t d' acts', I n.toNatClampNeg t → Q s.heap.size d' acts' t) : wp (multianewarray.make cW [n, k]) Q E e d acts s := by
  have hfind : ([k].find? (· < 0)) = none := by simp [hk0]
  rw [multianewarray.make]
  simp only [wp_bind', W.ite, h0, if_false, wp_pure', W.theClass, hk, hkind, Option.some.injEq, exists_eq_left']
  refine mu_new hk hkind rfl rfl h1 h2 h3 h4 ?_
  have hI0' : I 0 (s.pushCell (arrV cW n.toNatClampNeg (fun _ => .null))) := hI0
  simp only [hfind]
  rw [ite_self, wp_bind', Std.Legacy.Range.forIn_eq_forIn_range']
  have hsz : ([:n.toNatClampNeg] : Std.Legacy.Range).size = n.toNatClampNeg := by simp [Std.Legacy.Range.size]
  rw [hsz]
  show wp (forIn (List.range' 0 n.toNatClampNeg 1) PUnit.unit _) _ E e d acts _
  refine wp_forIn_inv (fun rest t => ∃ j, j ≤ n.toNatClampNeg ∧ rest = List.range' j (n.toNatClampNeg - j) 1 ∧ I j t) _ _ ⟨0, Nat.zero_le _, rfl, hI0'⟩ ?_ ?_
  · rintro x rest t d' acts' Q' ⟨j, hj, hl, hIj⟩ hnext
    have hlt : j < n.toNatClampNeg := by
      rcases Nat.lt_or_ge j n.toNatClampNeg with h | h
      · exact h
      · rw [show n.toNatClampNeg - j = 0 by omega] at hl; cases hl
    rw [show n.toNatClampNeg - j = (n.toNatClampNeg - (j + 1)) + 1 by omega, List.range'_succ] at hl
    obtain ⟨rfl, rfl⟩ := List.cons.inj hl
    obtain ⟨g1, g2, g3, g4, g5, g6, g7, g8⟩ := hI x t hlt hIj
    simp only [wp_bind']
    refine mu_one g2 g3 hk0 h5 h6 g6 g7 ?_
    simp only [wp_bind', W.writeLoc, wp_pure']
    have hlt0 : s.heap.size < t.heap.size := by rw [g4]; omega
    refine ⟨muC cW n.toNatClampNeg s.heap.size x, by rw [State.heap_pushCell_of_lt (h := hlt0)]; exact g5, (fun h => by cases h), ?_, ?_, ?_⟩
    · show x < (arrV _ _ _).slots.size
      rw [arrV_size]; exact hlt
    · simp [State.fitsSlot, State.slotType?, muC, arrV, g1, hkind, fits]
    · rw [g4, muC_next]
      exact hnext _ _ _ ⟨x + 1, hlt, rfl, g8⟩
  · rintro t d' acts' ⟨j, hj, hl, hIj⟩
    have hjn : j = n.toNatClampNeg := by
      rcases Nat.lt_or_ge j n.toNatClampNeg with h | h
      · rw [show n.toNatClampNeg - j = (n.toNatClampNeg - (j + 1)) + 1 by omega, List.range'_succ] at hl; cases hl
      · omega
    subst hjn
    simp only [wp_pure']
    exact hQ _ _ _ hIj
theorem mu_cold {index dims c : Nat} {vm' : Vm} {f : JFrame} {Q : Unit → Pre} (hs : s.topJava?.isSome) (hg : (Jvm.resolveClass f.method.cls index).Gives e.toSetting s.vm (.ok c) vm') (hr : vm'.classReady f.method.cls index c) (hsz : vm'.classes.size ≤ s.vm.classes.size := by no_record) :
    wp (multianewarray.sem index dims) Q E e d acts (s.setTop f) ↔ wp (multianewarray.sem index dims) Q E e d acts ((s.setVm vm').setTop f) := by
  simp only [multianewarray.sem, wp_bind']
  exact W.resolveClassAt_transfer (s := s.setTop f) (State.method?_setTop f hs) hg hr
theorem mu_sem {index cW : Nat} {n k : Int32} {rest : List Value} {f : JFrame} {Q : Unit → Pre} (hs : s.topJava?.isSome) (hr : s.vm.classReady f.method.cls index cW) (hstack : f.stack = .int k :: .int n :: rest)
    (h : ∀ d, wp (multianewarray.make cW [n, k]) (fun a d' acts' t => wp (Jvm.pushRef a) Q E e d' acts' t) E e d acts (s.setTop { f with stack := rest })) : wp (multianewarray.sem index 2) Q E e d acts (s.setTop f) := by
  have hp := fun (Q' : List Value → Pre) => popN_top (Q := Q') (E := E) (e := e) (d := d) (acts := acts) (s := s) (f := f) hs (args := [.int n, .int k]) (rest := rest) hstack
  simp only [List.length_cons, List.length_nil] at hp
  simp only [multianewarray.sem, wp_bind', W.resolveClassAt_ready (State.method?_setTop f hs) hr]
  rw [hp]
  simp only [List.mapM_cons, List.mapM_nil, wp_bind', wp_pure', W.mark]
  exact h _
end MU1
theorem mu_sz (T : State) (c : Cell) : (T.pushCell c).heap.size = T.heap.size + 1 := by simp [State.pushCell]
/-- the state with `j` inner arrays laid -/
def muT (T : State) (cW cI n k : Nat) : Nat → State
  | 0 => T.pushCell (muC cW n T.heap.size 0)
  | j + 1 => ((muT T cW cI n k j).pushCell (arrV cI k (fun _ => .int 0))).setCell T.heap.size (muC cW n T.heap.size (j + 1))
section MU2
variable {p : Program} {l : Launch} {e : Jvm.Env} {R : Room} {s : State} {m : MethodId} {args : Array Value} {below : List Frame} {meth : Method} {c : Code} {H : Heap} {T : State} {locs : List Loc} {cells slots : Nat} {Q : State → Prop}
theorem muT_at (X : Stand p l e R s m args below meth c T locs cells slots) (cW cI n k : Nat) : ∀ j, (∃ L, (∀ q ∈ L, q.base = T.heap.size) ∧ Stand p l e R s m args below meth c (muT T cW cI n k j) (locs ++ L) (cells + 1 + j) (slots + n + j * k)) ∧ (muT T cW cI n k j).heap.size = T.heap.size + 1 + j ∧ (muT T cW cI n k j).heap[T.heap.size]? = some (muC cW n T.heap.size j) ∧ (∀ i, i < j → (muT T cW cI n k j).heap[T.heap.size + 1 + i]? = some (arrV cI k (fun _ => .int 0))) ∧ (∀ q, q < T.heap.size → (muT T cW cI n k j).heap[q]? = T.heap[q]?) ∧ (muT T cW cI n k j).vm = T.vm := by
  intro j
  induction j with
  | zero =>
    refine ⟨⟨[], (fun _ h => by cases h), ?_⟩, mu_sz .., State.heap_pushCell_size .., (fun i h => absurd h (Nat.not_lt_zero _)), fun q hq => State.heap_pushCell_of_lt _ _ hq, rfl⟩
    have h := X.pushed (muC cW n T.heap.size 0)
    rw [show (muC cW n T.heap.size 0).slots.size = n from arrV_size ..] at h
    rw [List.append_nil, Nat.add_zero, Nat.zero_mul, Nat.add_zero]
    exact h
  | succ j ih =>
    obtain ⟨⟨L, hL, XL⟩, h1, h2, h3, h4, h5⟩ := ih
    have hlt : T.heap.size < (muT T cW cI n k j).heap.size := by rw [h1]; omega
    have hp0 : ((muT T cW cI n k j).pushCell (arrV cI k (fun _ => .int 0))).heap[T.heap.size]? = some (muC cW n T.heap.size j) := by rw [State.heap_pushCell_of_lt (h := hlt)]; exact h2
    have X1 := XL.pushed (arrV cI k (fun _ => .int 0))
    rw [arrV_size] at X1
    have X2 := X1.stored hp0 j (.ref (T.heap.size + 1 + j))
    rw [muC_next] at X2
    have hl3 : T.heap.size < ((muT T cW cI n k j).pushCell (arrV cI k (fun _ => .int 0))).heap.size := by rw [mu_sz]; omega
    refine ⟨⟨L ++ [⟨T.heap.size, j⟩], ?_, ?_⟩, ?_, heapAt_setCell_self _ hl3, ?_, ?_, h5⟩
    · intro q hq
      rcases List.mem_append.mp hq with h | h
      · exact hL q h
      · rw [List.mem_singleton.mp h]
    · rw [← List.append_assoc, show cells + 1 + (j + 1) = cells + 1 + j + 1 by omega, show slots + n + (j + 1) * k = slots + n + j * k + k by rw [Nat.succ_mul]; omega]
      exact X2
    · show ((((muT T cW cI n k j).pushCell (arrV cI k (fun _ => .int 0))).setCell T.heap.size (muC cW n T.heap.size (j + 1)))).heap.size = _
      rw [size_setCell, mu_sz, h1]; omega
    · intro i hi
      show ((((muT T cW cI n k j).pushCell (arrV cI k (fun _ => .int 0))).setCell T.heap.size (muC cW n T.heap.size (j + 1)))).heap[T.heap.size + 1 + i]? = _
      rw [heapAt_setCell_ne _ (show T.heap.size ≠ T.heap.size + 1 + i by omega)]
      by_cases hij : i = j
      · subst hij
        rw [← h1]
        exact State.heap_pushCell_size ..
      · have hl2 : T.heap.size + 1 + i < (muT T cW cI n k j).heap.size := by rw [h1]; omega
        rw [State.heap_pushCell_of_lt (h := hl2)]
        exact h3 i (by omega)
    · intro q hq
      show ((((muT T cW cI n k j).pushCell (arrV cI k (fun _ => .int 0))).setCell T.heap.size (muC cW n T.heap.size (j + 1)))).heap[q]? = _
      have hl2 : q < (muT T cW cI n k j).heap.size := by rw [h1]; omega
      rw [heapAt_setCell_ne _ (show T.heap.size ≠ q by omega), State.heap_pushCell_of_lt (h := hl2)]
      exact h4 q hq
theorem W.multi {cc : ByteArray} (hexec : p.tables.exec = Jvm.exec) (hb : c.code = cc) {own : String} {index : Nat} (hown : s.vm.findClass own = some m.cls) (hclink : (Cond.classLink own index "[[I").before args s = true) (hover : (Cond.arrayOver (.array .int)).before args s = true) (harr : (Cond.arrayClass .int).before args s = true)
    {g : JFrame} (hg : g.method = m) (hdg : decode cc g.pc = .ok (.multianewarray index 2, 4)) {n k : Int32} {rest : List Value} (hstack : g.stack = .int k :: .int n :: rest) (hn : ¬ n < 0) (hk : ¬ k < 0) (hb1 : n.toNatClampNeg * 4 ≤ 536870912) (hb2 : k.toNatClampNeg * 4 ≤ 536870912)
    (hcells : cells + (1 + n.toNatClampNeg) ≤ R.cells) (hslots : slots + (n.toNatClampNeg + n.toNatClampNeg * k.toNatClampNeg) ≤ R.slots)
    (kk : ∀ (cW cI : ClassId) (kW : Class) (H' : Heap) (L : List Loc), s.vm.findClass "[[I" = some cW → s.vm.findClass "[I" = some cI → s.vm.classes[cW]? = some kW → kW.kind = .array cI (.array .int) → H'.size = H.size + 1 + n.toNatClampNeg → H'[H.size]? = some (muC cW n.toNatClampNeg H.size n.toNatClampNeg) → (∀ j, j < n.toNatClampNeg → H'[H.size + 1 + j]? = some (arrV cI k.toNatClampNeg (fun _ => .int 0))) → (∀ q, q < H.size → H'[q]? = H[q]?) → (∀ q ∈ L, q.base = H.size) →
      W p l e R s m args below meth c H' (locs ++ L) (cells + 1 + n.toNatClampNeg) (slots + n.toNatClampNeg + n.toNatClampNeg * k.toNatClampNeg) Q { g with pc := g.pc + 4, stack := .ref H.size :: rest }) : W p l e R s m args below meth c H locs cells slots Q g := by
  intro T hT X
  subst hT; subst hb; subst hg
  have hpl : e.platform.magicAccessors = ({} : Platform).magicAccessors := by rw [X.admits.platform]
  obtain ⟨cI, cW, kW, hcI, hidx, hkW, hkindW, hnameW⟩ := arrayOverA_spec hover
  obtain ⟨cI', kI, comp, hcI', hkI, hkindI⟩ := Cond.arrayClass_spec harr
  have hcc : cI' = cI := Option.some.inj (hcI'.symm.trans hcI)
  subst hcc
  obtain ⟨cc', hfcc, hcl⟩ := Cond.classLink_spec hown hclink e.platform hpl
  have hcc2 : cc' = cW := Option.some.inj (hfcc.symm.trans hnameW)
  subst hcc2
  obtain ⟨hg₁, hwarm₁, hready₁⟩ := State.classEntry (e := e) X.warmed hcl
  generalize T.vm.noted g.method.cls index (.cls cc') = vm₁ at hg₁ hwarm₁ hready₁
  have hal : s.vm.Alike vm₁ := hwarm₁.alike
  obtain ⟨kW₁, hkW₁, heW⟩ := hal.2.2 _ _ hkW
  obtain ⟨kI₁, hkI₁, heI⟩ := hal.2.2 _ _ hkI
  have hkindW₁ : kW₁.kind = .array cI' (.array .int) := by rw [heW]; exact hkindW
  have hkindI₁ : kI₁.kind = .array comp .int := by rw [heI]; exact hkindI
  have X₁ := X.noted hwarm₁
  have hl1 : e.platform.arrayLengthLimit = 2147483645 := Launch.admits_arrayLengthLimit X.admits
  have hl2 : e.platform.maxHeapBytes = 536870912 := Launch.admits_maxHeapBytes X.admits
  have hM := muT_at X₁ cc' cI' n.toNatClampNeg k.toNatClampNeg
  obtain ⟨⟨L, hL, XL⟩, h1, h2, h3, h4, h5⟩ := hM n.toNatClampNeg
  obtain ⟨t', a1, b1⟩ := kk cc' cI' kW (muT (T.setVm vm₁) cc' cI' n.toNatClampNeg k.toNatClampNeg n.toNatClampNeg).heap L hfcc hcI hkW hkindW h1 h2 h3 h4 hL _ rfl XL
  refine ⟨t', ?_, b1⟩
  have hr0 := X₁.roomAbove (a := 1) (b := n.toNatClampNeg) (by omega) (by have := Nat.zero_le (n.toNatClampNeg * k.toNatClampNeg); omega)
  jvm_step X.here [hexec, hdg]
  rw [mu_cold X.here.top hg₁ hready₁]
  refine mu_sem X₁.here.top hready₁ hstack (fun d => ?_)
  refine mu_two (kI := kI₁) (comp := comp) (I := fun j t => t = (muT (T.setVm vm₁) cc' cI' n.toNatClampNeg k.toNatClampNeg j).setTop { g with stack := rest }) hkW₁ hkindW₁ hn hk (by rw [hl1]; omega) (by rw [hl2]; exact hb1) hr0.1 hr0.2 (by rw [hl1]; omega) (by rw [hl2]; exact hb2) rfl (fun j t hj ht => ?_) (fun t d' acts' ht => ?_)
  · subst ht
    obtain ⟨⟨Lj, -, Xj⟩, g1, g2, -, -, g5⟩ := hM j
    have hmul : j * k.toNatClampNeg + k.toNatClampNeg ≤ n.toNatClampNeg * k.toNatClampNeg := by
      have := Nat.mul_le_mul_right k.toNatClampNeg (show j + 1 ≤ n.toNatClampNeg from hj)
      rw [Nat.succ_mul] at this; exact this
    have hrj := Xj.roomAbove (a := 1) (b := k.toNatClampNeg) (by omega) (by omega)
    exact ⟨by rw [State.vm_setTop, g5]; exact hkW₁, by rw [State.vm_setTop, g5]; exact hkI₁, hkindI₁, g1, g2, hrj.1, hrj.2, rfl⟩
  · subst ht
    rw [W.pushRef]
    exact ⟨_, State.topJava?_setTop' _ XL.here.top, fun acts => by rw [State.setTop_setTop, afterInstr_ok]; exact a1⟩
end MU2
end MULTI
