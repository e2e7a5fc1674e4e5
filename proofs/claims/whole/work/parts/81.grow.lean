/-! frames that make new cells: the world is a list, any room -/
/-- class ids and slots; the int array's class, Text[], Sheet[], int[][]; the strings; the static array -/
abbrev GT : Type := va_G × (ClassId × ClassId × ClassId × ClassId) × (Nat → Nat) × (Nat → Nat) × Nat
abbrev gcI (γ : GT) : ClassId := γ.2.1.1
abbrev gcT (γ : GT) : ClassId := γ.2.1.2.1
abbrev gcS (γ : GT) : ClassId := γ.2.1.2.2.1
abbrev gcW (γ : GT) : ClassId := γ.2.1.2.2.2
abbrev gtys (γ : GT) : List (ClassId × FieldType) := [(gcI γ, .int), (gcT γ, .object "EveryoneWins$Text"), (gcS γ, .object "EveryoneWins$Sheet"), (gcW γ, .array .int)]
def gcR (γ : GT) : Nat → ClassId := fun o => if o = 11 then gcT γ else if o = 58 then gcS γ else gcW γ
abbrev ωG (S : SH) (γ : GT) (ad : Nat → Nat) : WT := (S, ad, γ.1, gcI γ, gcR γ, gtys γ, γ.2.2.1, γ.2.2.2.1, γ.2.2.2.2)
/-- Stt, of any set of cells that may change -/
def SttA (γ : GT) (A : Nat → Prop) (U : State) : Prop :=
  (∀ q ∈ nestL, va_Nw (.methodLinkNest q.1 q.2.1 q.2.2.1 q.2.2.2) U) ∧
  va_Z "EveryoneWins$Kinds" "ABOVE" "[I" (.ref γ.2.2.2.2) A U U.heap ∧
  va_T .int γ.2.2.2.2 6 (fun j => .int (aboveL.getD j 0)) A U U.heap ∧
  va_Z "java/lang/String" "COMPACT_STRINGS" "Z" (.int 1) A U U.heap ∧
  (∀ i, i < 13 → vk_R (strOwn.getD i default).1 (strOwn.getD i default).2.1 (strOwn.getD i default).2.2 (γ.2.2.1 i) U) ∧
  vk_S 13 strLen strByt γ.2.2.1 γ.2.2.2.1 A U U.heap ∧
  va_Zq "jdk/internal/util/Preconditions" "SIOOBE_FORMATTER" "Ljava/util/function/BiFunction;" A U U.heap
theorem SttA.Stt {S : SH} {γ : GT} {ad : Nat → Nat} {U : State} (h : SttA γ (wA (ωG S γ ad)) U) : Stt (ωG S γ ad) U := h
theorem SttA.call {γ : GT} {A : Nat → Prop} {s U : State} {H : Heap} {locs : List Loc} (h : SttA γ A s) (hS : va_S A s.heap H locs) (hU : U.heap = H) (hW : s.WarmedH U.vm) : SttA γ A U := by
  obtain ⟨h1, h2, h3, h4, h5, h6, h7⟩ := h
  have hk : ∀ a : Nat, a < s.heap.size → ¬ A a → U.heap[a]? = s.heap[a]? := fun a h1 h2 => by rw [hU]; exact hS.2.1 a h1 h2
  exact ⟨fun q hq => (h1 q hq).warmM hW, (h2.moved hW.alike).kept hk, (h3.moved hW.alike).kept hk, (h4.moved hW.alike).kept hk, fun i hi => (h5 i hi).warm hW, (h6.moved hW.alike).kept hk, (h7.moved hW.alike).kept hk⟩
theorem SttA.blind {γ : GT} {A : Nat → Prop} {U : State} {g : JFrame} {mk : MethodId} {a : Array Value} (h : SttA γ A U) : SttA γ A (U.calling g mk a) := by
  obtain ⟨h1, h2, h3, h4, h5, h6, h7⟩ := h
  have hA := Vm.Alike.refl U.vm
  exact ⟨fun q hq => (h1 q hq).same rfl rfl, h2.moved hA, h3.moved hA, h4.moved hA, fun i hi => (h5 i hi).same rfl, h6.moved hA, h7.moved hA⟩
def AOk (U : State) : Prop := va_AO "EveryoneWins$Text" U ∧ va_AO "EveryoneWins$Sheet" U ∧ (Cond.arrayOver (.array .int)).before #[] U = true
theorem AOk.moved {u U : State} (hvm : u.vm.Alike U.vm) (h : AOk u) : AOk U :=
  ⟨h.1.moved hvm, h.2.1.moved hvm, by
    have e := Cond.arrayOver_setVmC (args := #[]) (s := u) hvm (.array .int)
    have h3 := h.2.2
    rw [← e] at h3
    exact h3⟩
abbrev KG : Type := Program × Launch × Jvm.Env × Room × State × MethodId × Array Value × List Frame × Method × Code
abbrev ks (κ : KG) : State := κ.2.2.2.2.1
abbrev kargs (κ : KG) : Array Value := κ.2.2.2.2.2.2.1
abbrev kbelow (κ : KG) : List Frame := κ.2.2.2.2.2.2.2.1
def Gw (κ : KG) (Q : State → Prop) (k n pc : Nat) (st : List Value) (H : Heap) (locs : List Loc) (ls : Array Slot) : Prop :=
  W κ.1 κ.2.1 κ.2.2.1 κ.2.2.2.1 κ.2.2.2.2.1 κ.2.2.2.2.2.1 κ.2.2.2.2.2.2.1 κ.2.2.2.2.2.2.2.1 κ.2.2.2.2.2.2.2.2.1 κ.2.2.2.2.2.2.2.2.2 H locs k n Q (F0 κ.2.2.2.2.2.1 pc ls st)
def G (γ : GT) (A : Nat → Prop) (κ : KG) (Q : State → Prop) (nL k n pc : Nat) (L : List (Nat × Value)) (st : List Value) (ws : va_W) : Prop :=
  ∀ (H : Heap) (locs : List Loc) (ls : Array Slot), va_P γ.1 vwCl ws H → va_D A ws → va_S A (ks κ).heap H locs → lv_has ls nL L → Gw κ Q k n pc st H locs ls
/-- what is known all through such a frame -/
def Cg (γ : GT) (A : Nat → Prop) (κ : KG) (rm : Room) (cc : ByteArray) (nL : Nat) (own : String) (ret : Option FieldType) : Prop :=
  κ.1.tables.exec = Jvm.exec ∧ κ.2.2.2.2.2.2.2.2.2.code = cc ∧ κ.2.2.2.2.2.2.2.2.2.maxLocals = nL ∧ (ks κ).vm.findClass own = some κ.2.2.2.2.2.1.cls ∧
  (∀ w ∈ gtbl, w.before (kargs κ) (ks κ) = true) ∧ κ.2.2.2.2.2.2.2.2.1.sig.returnType = ret ∧ κ.2.2.2.2.2.2.2.2.1.locks = false ∧
  va_K γ.1 vwCl (gtys γ) (ks κ) ∧ SttA γ A (ks κ) ∧ AOk (ks κ) ∧ (∀ q, (ks κ).heap.size ≤ q → A q) ∧ κ.2.2.2.1 = rm
section CG
variable {γ : GT} {A : Nat → Prop} {κ : KG} {rm : Room} {cc : ByteArray} {nL : Nat} {own : String} {ret : Option FieldType}
theorem Cg.x (C : Cg γ A κ rm cc nL own ret) : κ.1.tables.exec = Jvm.exec := C.1
theorem Cg.b (C : Cg γ A κ rm cc nL own ret) : κ.2.2.2.2.2.2.2.2.2.code = cc := C.2.1
theorem Cg.ml (C : Cg γ A κ rm cc nL own ret) : κ.2.2.2.2.2.2.2.2.2.maxLocals = nL := C.2.2.1
theorem Cg.o (C : Cg γ A κ rm cc nL own ret) : (ks κ).vm.findClass own = some κ.2.2.2.2.2.1.cls := C.2.2.2.1
theorem Cg.t (C : Cg γ A κ rm cc nL own ret) : ∀ w ∈ gtbl, w.before (kargs κ) (ks κ) = true := C.2.2.2.2.1
theorem Cg.r (C : Cg γ A κ rm cc nL own ret) : κ.2.2.2.2.2.2.2.2.1.sig.returnType = ret := C.2.2.2.2.2.1
theorem Cg.lk (C : Cg γ A κ rm cc nL own ret) : κ.2.2.2.2.2.2.2.2.1.locks = false := C.2.2.2.2.2.2.1
theorem Cg.K (C : Cg γ A κ rm cc nL own ret) : va_K γ.1 vwCl (gtys γ) (ks κ) := C.2.2.2.2.2.2.2.1
theorem Cg.S (C : Cg γ A κ rm cc nL own ret) : SttA γ A (ks κ) := C.2.2.2.2.2.2.2.2.1
theorem Cg.AO (C : Cg γ A κ rm cc nL own ret) : AOk (ks κ) := C.2.2.2.2.2.2.2.2.2.1
theorem Cg.fA (C : Cg γ A κ rm cc nL own ret) : ∀ q, (ks κ).heap.size ≤ q → A q := C.2.2.2.2.2.2.2.2.2.2.1
theorem Cg.fR (C : Cg γ A κ rm cc nL own ret) : κ.2.2.2.1 = rm := C.2.2.2.2.2.2.2.2.2.2.2
end CG
section GROWS
variable {γ : GT} {A : Nat → Prop} {κ : KG} {Q : State → Prop} {rm : Room} {cc : ByteArray} {nL k n pc : Nat} {own : String} {ret : Option FieldType} {L : List (Nat × Value)} {st : List Value} {ws ws' : va_W}
theorem g_w (h : ws = ws') (kk : G γ A κ Q nL k n pc L st ws') : G γ A κ Q nL k n pc L st ws := h ▸ kk
theorem g_sub {L' : List (Nat × Value)} (ks : List Nat) (h : lv_pick L ks = L') (kk : G γ A κ Q nL k n pc L' st ws) : G γ A κ Q nL k n pc L st ws := fun H locs ls hP hD hS hl => kk H locs ls hP hD hS (lv_sub hl ks h)
theorem g_widen {k' n' : Nat} (h1 : k ≤ k') (h2 : n ≤ n') (kk : G γ A κ Q nL k' n' pc L st ws) : G γ A κ Q nL k n pc L st ws := fun H locs ls hP hD hS hl => W.widen h1 h2 (kk H locs ls hP hD hS hl)
theorem g_iconst (C : Cg γ A κ rm cc nL own ret) {x : Int} {v : Int32} (d : decode cc pc = .ok (.iconst x, 1)) (hv : Int32.ofInt x = v) (kk : G γ A κ Q nL k n (pc + 1) L (.int v :: st) ws) : G γ A κ Q nL k n (pc) L (st) ws := fun H locs ls hP hD hS hl => lv_iconst C.x C.b d hv (kk H locs ls hP hD hS hl)
theorem g_bipush (C : Cg γ A κ rm cc nL own ret) {x : Int} {v : Int32} (d : decode cc pc = .ok (.bipush x, 2)) (hv : (Int8.ofInt x).toInt32 = v) (kk : G γ A κ Q nL k n (pc + 2) L (.int v :: st) ws) : G γ A κ Q nL k n (pc) L (st) ws := fun H locs ls hP hD hS hl => lv_bipush C.x C.b d hv (kk H locs ls hP hD hS hl)
theorem g_sipush (C : Cg γ A κ rm cc nL own ret) {x : Int} {v : Int32} (d : decode cc pc = .ok (.sipush x, 3)) (hv : (Int16.ofInt x).toInt32 = v) (kk : G γ A κ Q nL k n (pc + 3) L (.int v :: st) ws) : G γ A κ Q nL k n (pc) L (st) ws := fun H locs ls hP hD hS hl => lv_sipush C.x C.b d hv (kk H locs ls hP hD hS hl)
theorem g_iload_n (C : Cg γ A κ rm cc nL own ret) {f : Fin 4} {x : Int32} (j : Nat) (d : decode cc pc = .ok (.iload_n f, 1)) (e : L[j]? = some ((f : Nat), .int x)) (kk : G γ A κ Q nL k n (pc + 1) L (.int x :: st) ws) : G γ A κ Q nL k n (pc) L (st) ws := fun H locs ls hP hD hS hl => lv_iload_n C.x C.b d rfl (lv_at hl j e) (kk H locs ls hP hD hS hl)
theorem g_aload_n (C : Cg γ A κ rm cc nL own ret) {f : Fin 4} {x : Nat} (j : Nat) (d : decode cc pc = .ok (.aload_n f, 1)) (e : L[j]? = some ((f : Nat), .ref x)) (kk : G γ A κ Q nL k n (pc + 1) L (.ref x :: st) ws) : G γ A κ Q nL k n (pc) L (st) ws := fun H locs ls hP hD hS hl => lv_aload_n C.x C.b d rfl (lv_at hl j e) (kk H locs ls hP hD hS hl)
theorem g_dup (C : Cg γ A κ rm cc nL own ret) {a : Value} (d : decode cc pc = .ok (.dup, 1)) (ha : a.category = 1) (kk : G γ A κ Q nL k n (pc + 1) L (a :: a :: st) ws) : G γ A κ Q nL k n (pc) L (a :: st) ws := fun H locs ls hP hD hS hl => lv_dup C.x C.b d ha (kk H locs ls hP hD hS hl)
theorem g_pop (C : Cg γ A κ rm cc nL own ret) {a : Value} (d : decode cc pc = .ok (.pop, 1)) (ha : a.category = 1) (kk : G γ A κ Q nL k n (pc + 1) L (st) ws) : G γ A κ Q nL k n (pc) L (a :: st) ws := fun H locs ls hP hD hS hl => lv_pop C.x C.b d ha (kk H locs ls hP hD hS hl)
theorem g_iadd (C : Cg γ A κ rm cc nL own ret) {x y : Int32} (d : decode cc pc = .ok (.iadd, 1)) (kk : G γ A κ Q nL k n (pc + 1) L (.int (x + y) :: st) ws) : G γ A κ Q nL k n (pc) L (.int y :: .int x :: st) ws := fun H locs ls hP hD hS hl => lv_iadd C.x C.b d (kk H locs ls hP hD hS hl)
theorem g_isub (C : Cg γ A κ rm cc nL own ret) {x y : Int32} (d : decode cc pc = .ok (.isub, 1)) (kk : G γ A κ Q nL k n (pc + 1) L (.int (x - y) :: st) ws) : G γ A κ Q nL k n (pc) L (.int y :: .int x :: st) ws := fun H locs ls hP hD hS hl => lv_isub C.x C.b d (kk H locs ls hP hD hS hl)
theorem g_iand (C : Cg γ A κ rm cc nL own ret) {x y : Int32} (d : decode cc pc = .ok (.iand, 1)) (kk : G γ A κ Q nL k n (pc + 1) L (.int (x &&& y) :: st) ws) : G γ A κ Q nL k n (pc) L (.int y :: .int x :: st) ws := fun H locs ls hP hD hS hl => lv_iand C.x C.b d (kk H locs ls hP hD hS hl)
theorem g_lcmp (C : Cg γ A κ rm cc nL own ret) {x y : Int64} (d : decode cc pc = .ok (.lcmp, 1)) (kk : G γ A κ Q nL k n (pc + 1) L (.int (lg_cmp x y) :: st) ws) : G γ A κ Q nL k n (pc) L (.long y :: .long x :: st) ws := fun H locs ls hP hD hS hl => W.lcmp C.x C.b d (kk H locs ls hP hD hS hl)
theorem g_istore_n (C : Cg γ A κ rm cc nL own ret) {f : Fin 4} {i : Nat} {x : Int32} {L' : List (Nat × Value)} (d : decode cc pc = .ok (.istore_n f, 1)) (hi : (f : Nat) = i) (hn : Nat.blt i nL = true) (e : (i, Value.int x) :: L.filter (fun q => !(q.1 == i) && !(q.1 + 1 == i && q.2.category == 2)) = L') (kk : G γ A κ Q nL k n (pc + 1) L' (st) ws) : G γ A κ Q nL k n (pc) L (Value.int x :: st) ws := fun H locs ls hP hD hS hl => lv_istore_n C.x C.b d hi hl (Nat.le_of_ble_eq_true hn) e (fun ls' hl' => kk H locs ls' hP hD hS hl')
theorem g_astore_n (C : Cg γ A κ rm cc nL own ret) {f : Fin 4} {i : Nat} {x : Nat} {L' : List (Nat × Value)} (d : decode cc pc = .ok (.astore_n f, 1)) (hi : (f : Nat) = i) (hn : Nat.blt i nL = true) (e : (i, Value.ref x) :: L.filter (fun q => !(q.1 == i) && !(q.1 + 1 == i && q.2.category == 2)) = L') (kk : G γ A κ Q nL k n (pc + 1) L' (st) ws) : G γ A κ Q nL k n (pc) L (Value.ref x :: st) ws := fun H locs ls hP hD hS hl => lv_astore_n C.x C.b d hi hl (Nat.le_of_ble_eq_true hn) e (fun ls' hl' => kk H locs ls' hP hD hS hl')
theorem g_iinc (C : Cg γ A κ rm cc nL own ret) {i : Nat} {z : Int} {x v : Int32} {L' : List (Nat × Value)} (j : Nat) (d : decode cc pc = .ok (.iinc i z, 3)) (ej : L[j]? = some (i, .int x)) (hv : x + Int32.ofInt z = v) (hn : Nat.blt i nL = true) (e : (i, Value.int v) :: L.filter (fun q => !(q.1 == i) && !(q.1 + 1 == i && q.2.category == 2)) = L') (kk : G γ A κ Q nL k n (pc + 3) L' (st) ws) : G γ A κ Q nL k n (pc) L (st) ws := fun H locs ls hP hD hS hl => lv_iinc C.x C.b d hl ej hv (Nat.le_of_ble_eq_true hn) e (fun ls' hl' => kk H locs ls' hP hD hS hl')
theorem g_goto (C : Cg γ A κ rm cc nL own ret) {off : Int} {tgt : Nat} (d : decode cc pc = .ok (.goto off, 3)) (ht : (pc : Int) + off = (tgt : Int)) (kk : G γ A κ Q nL k n (tgt) L (st) ws) : G γ A κ Q nL k n (pc) L (st) ws := fun H locs ls hP hD hS hl => lv_goto C.x C.b d ht (kk H locs ls hP hD hS hl)
theorem g_icmp_eq (C : Cg γ A κ rm cc nL own ret) {x y : Int32} {off : Int} {tgt : Nat} (d : decode cc pc = .ok (.if_icmp .eq off, 3)) (ht : (pc : Int) + off = (tgt : Int)) (kt : x = y → G γ A κ Q nL k n (tgt) L (st) ws) (kf : ¬ x = y → G γ A κ Q nL k n (pc + 3) L (st) ws) : G γ A κ Q nL k n (pc) L (.int y :: .int x :: st) ws := fun H locs ls hP hD hS hl => lv_icmp_eq C.x C.b d ht (fun z => kt z H locs ls hP hD hS hl) (fun z => kf z H locs ls hP hD hS hl)
theorem g_icmp_ne (C : Cg γ A κ rm cc nL own ret) {x y : Int32} {off : Int} {tgt : Nat} (d : decode cc pc = .ok (.if_icmp .ne off, 3)) (ht : (pc : Int) + off = (tgt : Int)) (kt : ¬ x = y → G γ A κ Q nL k n (tgt) L (st) ws) (kf : x = y → G γ A κ Q nL k n (pc + 3) L (st) ws) : G γ A κ Q nL k n (pc) L (.int y :: .int x :: st) ws := fun H locs ls hP hD hS hl => lv_icmp_ne C.x C.b d ht (fun z => kt z H locs ls hP hD hS hl) (fun z => kf z H locs ls hP hD hS hl)
theorem g_icmp_ge (C : Cg γ A κ rm cc nL own ret) {x y : Int32} {off : Int} {tgt : Nat} (d : decode cc pc = .ok (.if_icmp .ge off, 3)) (ht : (pc : Int) + off = (tgt : Int)) (kt : y ≤ x → G γ A κ Q nL k n (tgt) L (st) ws) (kf : ¬ y ≤ x → G γ A κ Q nL k n (pc + 3) L (st) ws) : G γ A κ Q nL k n (pc) L (.int y :: .int x :: st) ws := fun H locs ls hP hD hS hl => lv_icmp_ge C.x C.b d ht (fun z => kt z H locs ls hP hD hS hl) (fun z => kf z H locs ls hP hD hS hl)
theorem g_icmp_gt (C : Cg γ A κ rm cc nL own ret) {x y : Int32} {off : Int} {tgt : Nat} (d : decode cc pc = .ok (.if_icmp .gt off, 3)) (ht : (pc : Int) + off = (tgt : Int)) (kt : y < x → G γ A κ Q nL k n (tgt) L (st) ws) (kf : ¬ y < x → G γ A κ Q nL k n (pc + 3) L (st) ws) : G γ A κ Q nL k n (pc) L (.int y :: .int x :: st) ws := fun H locs ls hP hD hS hl => lv_icmp_gt C.x C.b d ht (fun z => kt z H locs ls hP hD hS hl) (fun z => kf z H locs ls hP hD hS hl)
theorem g_icmp_le (C : Cg γ A κ rm cc nL own ret) {x y : Int32} {off : Int} {tgt : Nat} (d : decode cc pc = .ok (.if_icmp .le off, 3)) (ht : (pc : Int) + off = (tgt : Int)) (kt : x ≤ y → G γ A κ Q nL k n (tgt) L (st) ws) (kf : ¬ x ≤ y → G γ A κ Q nL k n (pc + 3) L (st) ws) : G γ A κ Q nL k n (pc) L (.int y :: .int x :: st) ws := fun H locs ls hP hD hS hl => lv_icmp_le C.x C.b d ht (fun z => kt z H locs ls hP hD hS hl) (fun z => kf z H locs ls hP hD hS hl)
theorem g_icmp_lt (C : Cg γ A κ rm cc nL own ret) {x y : Int32} {off : Int} {tgt : Nat} (d : decode cc pc = .ok (.if_icmp .lt off, 3)) (ht : (pc : Int) + off = (tgt : Int)) (kt : x < y → G γ A κ Q nL k n (tgt) L (st) ws) (kf : ¬ x < y → G γ A κ Q nL k n (pc + 3) L (st) ws) : G γ A κ Q nL k n (pc) L (.int y :: .int x :: st) ws := fun H locs ls hP hD hS hl => lv_icmp_lt C.x C.b d ht (fun z => kt z H locs ls hP hD hS hl) (fun z => kf z H locs ls hP hD hS hl)
theorem g_if_eq (C : Cg γ A κ rm cc nL own ret) {x : Int32} {off : Int} {tgt : Nat} (d : decode cc pc = .ok (.ifCond .eq off, 3)) (ht : (pc : Int) + off = (tgt : Int)) (kt : x = 0 → G γ A κ Q nL k n (tgt) L (st) ws) (kf : ¬ x = 0 → G γ A κ Q nL k n (pc + 3) L (st) ws) : G γ A κ Q nL k n (pc) L (.int x :: st) ws := fun H locs ls hP hD hS hl => lv_if_eq C.x C.b d ht (fun z => kt z H locs ls hP hD hS hl) (fun z => kf z H locs ls hP hD hS hl)
theorem g_if_ne (C : Cg γ A κ rm cc nL own ret) {x : Int32} {off : Int} {tgt : Nat} (d : decode cc pc = .ok (.ifCond .ne off, 3)) (ht : (pc : Int) + off = (tgt : Int)) (kt : ¬ x = 0 → G γ A κ Q nL k n (tgt) L (st) ws) (kf : x = 0 → G γ A κ Q nL k n (pc + 3) L (st) ws) : G γ A κ Q nL k n (pc) L (.int x :: st) ws := fun H locs ls hP hD hS hl => lv_if_ne C.x C.b d ht (fun z => kt z H locs ls hP hD hS hl) (fun z => kf z H locs ls hP hD hS hl)
theorem g_tableIn (C : Cg γ A κ rm cc nL own ret) {dflt lo hi : Int} {offs : Array Int} {len : Nat} {x : Int32} {off : Int} {tgt : Nat} (d : decode cc pc = .ok (.tableswitch dflt lo hi offs, len)) (h1 : ¬ x.toInt < lo) (h2 : ¬ hi < x.toInt) (ho : offs[(x.toInt - lo).toNat]? = some off) (ht : (pc : Int) + off = (tgt : Int)) (kk : G γ A κ Q nL k n (tgt) L (st) ws) : G γ A κ Q nL k n (pc) L (.int x :: st) ws := fun H locs ls hP hD hS hl => lv_tableIn C.x C.b d h1 h2 ho ht (kk H locs ls hP hD hS hl)
theorem g_tableOut (C : Cg γ A κ rm cc nL own ret) {dflt lo hi : Int} {offs : Array Int} {len : Nat} {x : Int32} {tgt : Nat} (d : decode cc pc = .ok (.tableswitch dflt lo hi offs, len)) (h : x.toInt < lo ∨ hi < x.toInt) (ht : (pc : Int) + dflt = (tgt : Int)) (kk : G γ A κ Q nL k n (tgt) L (st) ws) : G γ A κ Q nL k n (pc) L (.int x :: st) ws := fun H locs ls hP hD hS hl => lv_tableOut C.x C.b d h ht (kk H locs ls hP hD hS hl)
theorem g_ldcS (C : Cg γ A κ rm cc nL own ret) {i : Nat} {tx : String} (j : Nat) (hj : j < 13) (e : strOwn.getD j default = (own, i, tx)) (d : decode cc pc = .ok (.ldc i, 2)) (kk : G γ A κ Q nL k n (pc + 2) L (.ref (γ.2.2.1 j) :: st) ws) : G γ A κ Q nL k n (pc) L (st) ws := fun H locs ls hP hD hS hl => va_ldcS C.x C.b C.o (by have h := C.S.2.2.2.2.1 j hj; rw [e] at h; exact h) d (kk H locs ls hP hD hS hl)
theorem g_objInit (C : Cg γ A κ rm cc nL own ret) {i a : Nat} (hlk : Cond.methodLink own i Lib.objectInit ∈ gtbl) (hin : Cond.instanceMethod Lib.objectInit ∈ gtbl) (hcode : Cond.code Lib.objectInit ⟨#[0xb1]⟩ 1 none ∈ gtbl) (hf : 1 ≤ rm.frames) (hlo : (st.map fun v => v.category).sum + 12 ≤ rm.locals) (d : decode cc pc = .ok (.invokespecial i, 3)) (kk : G γ A κ Q nL k n (pc + 3) L (st) ws) : G γ A κ Q nL k n (pc) L (.ref a :: st) ws := fun H locs ls hP hD hS hl => W.objInit C.x C.b C.o (C.t _ hlk) (C.t _ hin) (C.t _ hcode) rfl (hl.1.trans C.ml.symm) rfl d (by rw [C.fR]; exact hf) (by rw [C.fR]; show 2 * 0 + _ + 12 ≤ _; omega) (kk H locs ls hP hD hS hl)
theorem g_new (C : Cg γ A κ rm cc nL own ret) {i ci N : Nat} {T : u_T} {Cn : String} {ty0 : Nat → FieldType} {fs : List Value} (hin : ∀ w ∈ u_ws Cn T N, w ∈ gtbl) (hty : ∀ k, k < N → parseFieldDescriptor (T k).2.2.1 = some (ty0 k)) (hcl : Cond.classLink own i Cn ∈ gtbl) (hins : Cond.instantiable Cn N ∈ gtbl) (hini : Cond.initialized Cn ∈ gtbl) (hc : vwCl[ci]? = some (Cn, T, N)) (hfs : ∀ j, j < N → defaultValue (ty0 j) = vp_V fs j) (hk : k + 1 ≤ rm.cells) (hn : n + N ≤ rm.slots) (d : decode cc pc = .ok (.new i, 3))
    (kk : ∀ q, G γ A κ Q nL (k + 1) (n + N) (pc + 3) L (.ref q :: st) (ws ++ [(q, .inr (ci, fs))])) : G γ A κ Q nL k n pc L st ws := fun H locs ls hP hD hS hl =>
  va_new C.x C.b C.t hin ty0 hty C.o (C.t _ hcl) (C.t _ hins) (C.t _ hini) C.K hP hD hS C.fA hc hfs (by rw [C.fR]; exact hk) (by rw [C.fR]; exact hn) d (fun q H1 hP1 hD1 hS1 => kk q H1 locs ls hP1 hD1 hS1 hl)
theorem g_newI (C : Cg γ A κ rm cc nL own ret) {x : Int32} {N : Nat} (har : Cond.arrayClass .int ∈ gtbl) (h0 : ¬ x < 0) (hN : x.toNatClampNeg = N) (hb : N * 4 ≤ 536870912) (hk : k + 1 ≤ rm.cells) (hn : n + N ≤ rm.slots) (d : decode cc pc = .ok (.newarray .int, 2))
    (kk : ∀ q, G γ A κ Q nL (k + 1) (n + N) (pc + 2) L (.ref q :: st) (ws ++ [(q, .inl (gcI γ, N, .inl (fun _ => 0)))])) : G γ A κ Q nL k n pc L (.int x :: st) ws := fun H locs ls hP hD hS hl => by
  refine va_newa (atype := .int) (ty := .int) (a0 := (N, .inl (fun _ => 0))) C.x C.b (C.t _ har) rfl C.K hP hD hS C.fA (fun cA => rfl) h0 hN hb (by rw [C.fR]; exact hk) (by rw [C.fR]; exact hn) d (fun q cA H1 hK1 hP1 hD1 hS1 => ?_)
  have e1 : (ks κ).vm.findClass ("[" ++ FieldType.int.toString) = some cA := (hK1.2 4 _ rfl).2
  have e2 : (ks κ).vm.findClass ("[" ++ FieldType.int.toString) = some (gcI γ) := (C.K.2 0 _ rfl).2
  obtain rfl : cA = gcI γ := Option.some.inj (e1.symm.trans e2)
  exact kk q H1 locs ls hP1 hD1 hS1 hl
theorem g_newQ (C : Cg γ A κ rm cc nL own ret) {x : Int32} {N i t : Nat} {cR : ClassId} {Cn : String} (ht : (gtys γ)[t]? = some (cR, .object Cn)) (hao : va_AO Cn (ks κ)) (hcl : Cond.classLink own i Cn ∈ gtbl) (h0 : ¬ x < 0) (hN : x.toNatClampNeg = N) (hb : N * 4 ≤ 536870912) (hk : k + 1 ≤ rm.cells) (hn : n + N ≤ rm.slots) (d : decode cc pc = .ok (.anewarray i, 3))
    (kk : ∀ q, G γ A κ Q nL (k + 1) (n + N) (pc + 3) L (.ref q :: st) (ws ++ [(q, .inl (cR, N, .inr (.inr (.inr (.inr (fun _ => none))))))])) : G γ A κ Q nL k n pc L (.int x :: st) ws := fun H locs ls hP hD hS hl => by
  refine va_newq C.x C.b C.o (C.t _ hcl) hao C.K hP hD hS C.fA h0 hN hb (by rw [C.fR]; exact hk) (by rw [C.fR]; exact hn) d (fun q cA H1 hK1 hP1 hD1 hS1 => ?_)
  obtain ⟨_, _, -, -, -, e1⟩ := (hK1.2 4 _ rfl).2
  obtain ⟨_, _, -, -, -, e2⟩ := (C.K.2 t _ ht).2
  obtain rfl : cA = cR := Option.some.inj (e1.symm.trans e2)
  exact kk q H1 locs ls hP1 hD1 hS1 hl
theorem g_put (C : Cg γ A κ rm cc nL own ret) {a j ci N i : Nat} {T : u_T} {Cn : String} {ty0 : Nat → FieldType} {ty : FieldType} {v : Value} {fs : List Value} (q0 : Nat) (hin : ∀ w ∈ u_ws Cn T N, w ∈ gtbl) (hty : ∀ k, k < N → parseFieldDescriptor (T k).2.2.1 = some (ty0 k)) (hnm : ∀ a, a < N → ∀ b, b < N → a ≠ b → (T a).2.1 ≠ (T b).2.1) (he : ws[q0]? = some (a, .inr (ci, fs))) (hc : vwCl[ci]? = some (Cn, T, N)) (hj : Nat.blt j N = true) (hlk : Cond.fieldLink own i (T j).1 (T j).2.1 (T j).2.2.1 ∈ gtbl) (hfin : (T j).2.2.2 = false) (hd : parseFieldDescriptor (T j).2.2.1 = some ty) (hnr : narrow ty v = v) (hft : fits ty v = true) (hl0 : Nat.blt j fs.length = true) (hw : ws.set q0 (a, .inr (ci, fs.set j v)) = ws') (d : decode cc pc = .ok (.putfield i, 3))
    (kk : G γ A κ Q nL k n (pc + 3) L st ws') : G γ A κ Q nL k n pc L (v :: .ref a :: st) ws := fun H locs ls hP hD hS hl =>
  va_put C.x C.b C.t hin ty0 hty hnm C.o C.K hP hD hS q0 he hc j (Nat.le_of_ble_eq_true hj) (C.t _ hlk) (fun _ h => h) hfin hd hnr hft (Nat.le_of_ble_eq_true hl0) d (fun H1 locs1 hP1 hD1 hS1 => by rw [hw] at hP1 hD1; exact kk H1 locs1 ls hP1 hD1 hS1 hl)
theorem g_putF (C : Cg γ A κ rm cc nL own ret) {a j ci N i : Nat} {T : u_T} {Cn : String} {ty0 : Nat → FieldType} {ty : FieldType} {v : Value} {fs : List Value} (q0 : Nat) (hini : κ.2.2.2.2.2.2.2.2.1.name = "<init>") (hdecl : (T j).1 = own) (hin : ∀ w ∈ u_ws Cn T N, w ∈ gtbl) (hty : ∀ k, k < N → parseFieldDescriptor (T k).2.2.1 = some (ty0 k)) (hnm : ∀ a, a < N → ∀ b, b < N → a ≠ b → (T a).2.1 ≠ (T b).2.1) (he : ws[q0]? = some (a, .inr (ci, fs))) (hc : vwCl[ci]? = some (Cn, T, N)) (hj : Nat.blt j N = true) (hlk : Cond.fieldLink own i (T j).1 (T j).2.1 (T j).2.2.1 ∈ gtbl) (hfin : (T j).2.2.2 = true) (hd : parseFieldDescriptor (T j).2.2.1 = some ty) (hnr : narrow ty v = v) (hft : fits ty v = true) (hl0 : Nat.blt j fs.length = true) (hw : ws.set q0 (a, .inr (ci, fs.set j v)) = ws') (d : decode cc pc = .ok (.putfield i, 3))
    (kk : G γ A κ Q nL k n (pc + 3) L st ws') : G γ A κ Q nL k n pc L (v :: .ref a :: st) ws := fun H locs ls hP hD hS hl =>
  va_putF C.x C.b C.t hin ty0 hty hnm C.o C.K hP hD hS q0 he hc j (Nat.le_of_ble_eq_true hj) (C.t _ hlk) (fun _ h => h) hfin hini hdecl hd hnr hft (Nat.le_of_ble_eq_true hl0) d (fun H1 locs1 hP1 hD1 hS1 => by rw [hw] at hP1 hD1; exact kk H1 locs1 ls hP1 hD1 hS1 hl)
theorem g_get (C : Cg γ A κ rm cc nL own ret) {a j ci N i : Nat} {T : u_T} {Cn : String} {v : Value} {fs : List Value} (q0 : Nat) (hin : ∀ w ∈ u_ws Cn T N, w ∈ gtbl) (he : ws[q0]? = some (a, .inr (ci, fs))) (hc : vwCl[ci]? = some (Cn, T, N)) (hj : Nat.blt j N = true) (hlk : Cond.fieldLink own i (T j).1 (T j).2.1 (T j).2.2.1 ∈ gtbl) (hv : fs[j]? = some v) (d : decode cc pc = .ok (.getfield i, 3))
    (kk : G γ A κ Q nL k n (pc + 3) L (v :: st) ws) : G γ A κ Q nL k n pc L (.ref a :: st) ws := fun H locs ls hP hD hS hl =>
  va_get C.x C.b C.t hin C.o C.K hP q0 he hc j (Nat.le_of_ble_eq_true hj) (C.t _ hlk) (fun _ h => h) hv d (kk H locs ls hP hD hS hl)
theorem g_iast (C : Cg γ A κ rm cc nL own ret) {a N : Nat} {f : Nat → Int32} {i x : Int32} (q0 : Nat) (ha : ws[q0]? = some (a, .inl (gcI γ, N, .inl f))) (hi : vp_in i N) (hw : ws.set q0 (a, .inl (gcI γ, N, .inl (upd f i.toNatClampNeg x))) = ws') (d : decode cc pc = .ok (.iastore, 1))
    (kk : G γ A κ Q nL k n (pc + 1) L st ws') : G γ A κ Q nL k n pc L (.int x :: .int i :: .ref a :: st) ws := fun H locs ls hP hD hS hl =>
  va_iast C.x C.b C.K hP hD hS q0 0 ha rfl hi d (fun H1 locs1 hP1 hD1 hS1 => by rw [hw] at hP1 hD1; exact kk H1 locs1 ls hP1 hD1 hS1 hl)
theorem g_iald (C : Cg γ A κ rm cc nL own ret) {a N : Nat} {f : Nat → Int32} {i : Int32} (q0 : Nat) (ha : ws[q0]? = some (a, .inl (gcI γ, N, .inl f))) (hi : vp_in i N) (d : decode cc pc = .ok (.iaload, 1))
    (kk : G γ A κ Q nL k n (pc + 1) L (.int (f i.toNatClampNeg) :: st) ws) : G γ A κ Q nL k n pc L (.int i :: .ref a :: st) ws := fun H locs ls hP hD hS hl =>
  va_iald C.x C.b C.K hP q0 0 ha rfl hi d (kk H locs ls hP hD hS hl)
theorem g_alenQ (C : Cg γ A κ rm cc nL own ret) {a N t : Nat} {cR : ClassId} {ty : FieldType} {f : Nat → Option Nat} {v : Int32} (q0 : Nat) (ha : ws[q0]? = some (a, .inl (cR, N, .inr (.inr (.inr (.inr f)))))) (ht : (gtys γ)[t]? = some (cR, ty)) (hv : Int32.ofNat N = v) (d : decode cc pc = .ok (.arraylength, 1))
    (kk : G γ A κ Q nL k n (pc + 1) L (.int v :: st) ws) : G γ A κ Q nL k n pc L (.ref a :: st) ws := fun H locs ls hP hD hS hl =>
  va_alen C.x C.b C.K hP q0 t ha ht hv d (kk H locs ls hP hD hS hl)
theorem g_astq (C : Cg γ A κ rm cc nL own ret) {a N t v ci : Nat} {cR : ClassId} {f : Nat → Option Nat} {r : vw_C} {vs : List Value} {i : Int32} (q0 qk : Nat) (ha : ws[q0]? = some (a, .inl (cR, N, .inr (.inr (.inr (.inr f)))))) (ht : (gtys γ)[t]? = some (cR, .object r.1)) (hv : ws[qk]? = some (v, .inr (ci, vs))) (hc : vwCl[ci]? = some r) (hi : vp_in i N) (hw : ws.set q0 (a, .inl (cR, N, .inr (.inr (.inr (.inr (va_up f i.toNatClampNeg (some v))))))) = ws') (d : decode cc pc = .ok (.aastore, 1))
    (kk : G γ A κ Q nL k n (pc + 1) L st ws') : G γ A κ Q nL k n pc L (.ref v :: .int i :: .ref a :: st) ws := fun H locs ls hP hD hS hl =>
  va_astq C.x C.b C.K hP hD hS q0 t qk ci ha ht hv hc hi d (fun H1 locs1 hP1 hD1 hS1 => by rw [hw] at hP1 hD1; exact kk H1 locs1 ls hP1 hD1 hS1 hl)
end GROWS
