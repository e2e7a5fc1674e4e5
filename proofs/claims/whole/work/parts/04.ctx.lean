/-! the tables' good words, what a frame knows, a contract -/
def gtbl : List Cond := lw_tbl.filter goodWord
theorem gtbl_of {w : Cond} {i : Nat} (h : lw_tbl[i]? = some w) (g : goodWord w = true) : w ∈ gtbl := List.mem_filter.mpr ⟨List.mem_of_getElem? h, g⟩
theorem gtbl_in {w : Cond} (h : w ∈ gtbl) : w ∈ lw_tbl := (List.mem_filter.mp h).1
theorem gtbl_good (big : List Cond) (hb : ∀ w ∈ gtbl, w ∈ big) : GoodIn big gtbl := fun w h => ⟨hb w h, good_of_word (List.mem_filter.mp h).2⟩
def aboveL : List Int32 := [-1, 0, 0, 1, 2, 0]
def strOwn : List (String × Nat × String) := [("EveryoneWins", 88, "yards 0 ; worth 10 - won * 3 ; none 0 - 5 ;"), ("EveryoneWins$Tape", 67, "yards"), ("EveryoneWins$Tape", 73, "worth"), ("EveryoneWins$Tape", 75, "none"), ("EveryoneWins$Tape", 77, "or"), ("EveryoneWins$Tape", 79, "and"), ("EveryoneWins$Tape", 81, "not"), ("EveryoneWins$Tape", 83, "speed"), ("EveryoneWins$Tape", 87, "luck"), ("EveryoneWins$Tape", 89, "won"), ("EveryoneWins$Tape", 91, "more"), ("EveryoneWins$Tape", 93, "runners"), ("EveryoneWins$Tape", 95, "race")]
def strByt : List (List Int32) := strOwn.map (fun q => q.2.2.toList.map (fun ch => Int32.ofNat ch.toNat))
def strLen : List Nat := strByt.map List.length
def nestL : List (String × Nat × MethodName × String) := lw_tbl.filterMap (fun w => match w with
  | .methodLinkNest a i x h => some (a, i, x, h)
  | _ => none)
/-- what a frame's start gives beside the world: nest mates' links, the static array, the texts of constants -/
def Stt (ω : WT) (U : State) : Prop :=
  (∀ q ∈ nestL, va_Nw (.methodLinkNest q.1 q.2.1 q.2.2.1 q.2.2.2) U) ∧
  va_Z "EveryoneWins$Kinds" "ABOVE" "[I" (.ref (wT ω)) (wA ω) U U.heap ∧
  va_T .int (wT ω) 6 (fun j => .int (aboveL.getD j 0)) (wA ω) U U.heap ∧
  va_Z "java/lang/String" "COMPACT_STRINGS" "Z" (.int 1) (wA ω) U U.heap ∧
  (∀ i, i < 13 → vk_R (strOwn.getD i default).1 (strOwn.getD i default).2.1 (strOwn.getD i default).2.2 (wK ω i) U) ∧
  vk_S 13 strLen strByt (wK ω) (wV ω) (wA ω) U U.heap ∧
  va_Zq "jdk/internal/util/Preconditions" "SIOOBE_FORMATTER" "Ljava/util/function/BiFunction;" (wA ω) U U.heap
theorem Stt.call {ω : WT} {s U : State} {H : Heap} {locs : List Loc} (h : Stt ω s) (hS : va_S (wA ω) s.heap H locs) (hU : U.heap = H) (hW : s.WarmedH U.vm) : Stt ω U := by
  obtain ⟨h1, h2, h3, h4, h5, h6, h7⟩ := h
  have hk : ∀ a : Nat, a < s.heap.size → ¬ wA ω a → U.heap[a]? = s.heap[a]? := fun a h1 h2 => by rw [hU]; exact hS.2.1 a h1 h2
  exact ⟨fun q hq => (h1 q hq).warmM hW, (h2.moved hW.alike).kept hk, (h3.moved hW.alike).kept hk, (h4.moved hW.alike).kept hk, fun i hi => (h5 i hi).warm hW, (h6.moved hW.alike).kept hk, (h7.moved hW.alike).kept hk⟩
theorem Stt.blind {ω : WT} {U : State} {g : JFrame} {mk : MethodId} {a : Array Value} (h : Stt ω U) : Stt ω (U.calling g mk a) := by
  obtain ⟨h1, h2, h3, h4, h5, h6, h7⟩ := h
  have hA := Vm.Alike.refl U.vm
  exact ⟨fun q hq => (h1 q hq).same rfl rfl, h2.moved hA, h3.moved hA, h4.moved hA, fun i hi => (h5 i hi).same rfl, h6.moved hA, h7.moved hA⟩
def Pw (ω : WT) (σ : M2) (U : State) : Prop := va_P (wD ω) vwCl (wld ω σ) U.heap ∧ va_K (wD ω) vwCl (wty ω) U ∧ Inj ω ∧ Stt ω U
theorem Pw.blind {ω : WT} {σ : M2} {as : List Value} : FrameBlind (va_Pc as (Pw ω σ)) := by
  intro a U g mk h
  obtain ⟨e, h1, h2, h3, h4⟩ := h
  exact ⟨e, h1, va_K.moved (u := U) (U := U.calling g mk a) (Vm.Alike.refl U.vm) h2, h3, h4.blind⟩
def rmL (n : Nat) : Room := { frames := n, cells := 0, slots := 0, locals := 60 * n }
def Qw (ω : WT) (v : Option Value) (σ' : M2) : Array Value → State → Outcome → State → Prop := fun _ st oc t => oc = .returned v ∧ va_P (wD ω) vwCl (wld ω σ') t.heap ∧ va_F (wA ω) st t
/-- the contract of a method: its arguments, the memory ahead, its answer, the memory behind -/
def Ct (l : Launch) (ω : WT) (y : MethodName) (cc : ByteArray) (maxL : Nat) (ret : Option FieldType) (n : Nat) (as : List Value) (σ : M2) (v : Option Value) (σ' : M2) : Prop :=
  Met l y (.code y cc maxL ret :: gtbl) (rmL n) (va_Pc as (Pw ω σ)) (Qw ω v σ') 0 0 (wA ω)
/-- a frame: all that W speaks of -/
abbrev KT : Type := Program × Launch × Env × State × MethodId × Array Value × List Frame × Method × Code × Option Value × M2
def Jw (ω : WT) (κ : KT) (n nL pc : Nat) (L : List (Nat × Value)) (st : List Value) (σ : M2) (H : Heap) (locs : List Loc) (ls : Array Slot) : Prop :=
  W κ.1 κ.2.1 κ.2.2.1 (rmL n) κ.2.2.2.1 κ.2.2.2.2.1 κ.2.2.2.2.2.1 κ.2.2.2.2.2.2.1 κ.2.2.2.2.2.2.2.1 κ.2.2.2.2.2.2.2.2.1 H locs 0 0 (MQ κ.2.2.2.2.2.2.1 (Qw ω κ.2.2.2.2.2.2.2.2.2.1 κ.2.2.2.2.2.2.2.2.2.2) κ.2.2.2.2.2.1 κ.2.2.2.1 0 0 (wA ω)) (F0 κ.2.2.2.2.1 pc ls st)
def J (ω : WT) (κ : KT) (n nL pc : Nat) (L : List (Nat × Value)) (st : List Value) (σ : M2) : Prop :=
  ∀ (H : Heap) (locs : List Loc) (ls : Array Slot), va_P (wD ω) vwCl (wld ω σ) H → va_S (wA ω) κ.2.2.2.1.heap H locs → lv_has ls nL L → Jw ω κ n nL pc L st σ H locs ls
/-- what is known all through a frame -/
def Cx (ω : WT) (κ : KT) (cc : ByteArray) (nL : Nat) (own : String) (ret : Option FieldType) : Prop :=
  κ.1.tables.exec = Jvm.exec ∧ κ.2.2.2.2.2.2.2.2.1.code = cc ∧ κ.2.2.2.2.2.2.2.2.1.maxLocals = nL ∧ κ.2.2.2.1.vm.findClass own = some κ.2.2.2.2.1.cls ∧
  (∀ w ∈ gtbl, w.before κ.2.2.2.2.2.1 κ.2.2.2.1 = true) ∧ κ.2.2.2.2.2.2.2.1.sig.returnType = ret ∧ κ.2.2.2.2.2.2.2.1.locks = false ∧
  va_K (wD ω) vwCl (wty ω) κ.2.2.2.1 ∧ Inj ω ∧ Stt ω κ.2.2.2.1
section CX
variable {ω : WT} {κ : KT} {cc : ByteArray} {nL : Nat} {own : String} {ret : Option FieldType}
theorem Cx.x (C : Cx ω κ cc nL own ret) : κ.1.tables.exec = Jvm.exec := C.1
theorem Cx.b (C : Cx ω κ cc nL own ret) : κ.2.2.2.2.2.2.2.2.1.code = cc := C.2.1
theorem Cx.ml (C : Cx ω κ cc nL own ret) : κ.2.2.2.2.2.2.2.2.1.maxLocals = nL := C.2.2.1
theorem Cx.o (C : Cx ω κ cc nL own ret) : κ.2.2.2.1.vm.findClass own = some κ.2.2.2.2.1.cls := C.2.2.2.1
theorem Cx.t (C : Cx ω κ cc nL own ret) : ∀ w ∈ gtbl, w.before κ.2.2.2.2.2.1 κ.2.2.2.1 = true := C.2.2.2.2.1
theorem Cx.r (C : Cx ω κ cc nL own ret) : κ.2.2.2.2.2.2.2.1.sig.returnType = ret := C.2.2.2.2.2.1
theorem Cx.lk (C : Cx ω κ cc nL own ret) : κ.2.2.2.2.2.2.2.1.locks = false := C.2.2.2.2.2.2.1
theorem Cx.K (C : Cx ω κ cc nL own ret) : va_K (wD ω) vwCl (wty ω) κ.2.2.2.1 := C.2.2.2.2.2.2.2.1
theorem Cx.I (C : Cx ω κ cc nL own ret) : Inj ω := C.2.2.2.2.2.2.2.2.1
theorem Cx.S (C : Cx ω κ cc nL own ret) : Stt ω κ.2.2.2.1 := C.2.2.2.2.2.2.2.2.2
end CX
/-- a contract out of a walk -/
theorem Ct.of {l : Launch} {ω : WT} {y : MethodName} {cc : ByteArray} {maxL n : Nat} {ret : Option FieldType} {as : List Value} {σ : M2} {v : Option Value} {σ' : M2} {L : List (Nat × Value)} {own : String}
    (hy : plainName y.cls = true) (ho : y.cls = own) (hlen : Nat.ble (lg_sl as).length maxL = true) (hL : lv_args 0 as = L)
    (body : ∀ κ : KT, κ.2.1 = l → κ.2.2.2.2.2.2.2.2.2 = (v, σ') → Cx ω κ cc maxL own ret → J ω κ n maxL 0 L [] σ) : Ct l ω y cc maxL ret n as σ v σ' := by
  refine Met.ofW (cc := cc) (maxL := maxL) (ret := ret) hy rfl ?_
  intro p e s m args below meth c s₁ B hml hv
  obtain ⟨rfl, hP, hK, hI, hSt⟩ := hv
  have hts := atoms_spec (ws := .code y cc maxL ret :: gtbl) B.pre
  have hown : s.vm.findClass own = some m.cls := by rw [← ho]; exact findClass_of_methodNamed B.named
  have hl := lv_entry as (n := maxL) (Nat.le_of_ble_eq_true hlen)
  rw [lg_entry_eq]
  generalize (lg_sl as ++ List.replicate (maxL - (lg_sl as).length) Slot.unset).toArray = ls at hl ⊢
  rw [hL] at hl
  exact body (p, l, e, s, m, as.toArray, below, meth, c, v, σ') rfl rfl ⟨B.exec, B.bytes, hml, hown, fun w hw => hts w (List.mem_cons_of_mem _ hw), B.returns, B.notSynchronized, hK, hI, hSt⟩ s.heap [] ls hP va_S.rf hl
