/-! the law's context, out of what the Statement gives -/
theorem tin {w : Cond} {i : Nat} (h : lw_tbl[i]? = some w) : w ∈ lw_tbl := List.mem_of_getElem? h
def strT (i : Nat) : Term := .string (strOwn.getD i default).1 (strOwn.getD i default).2.1
def narL : List Cond := flatC (Jvm.Cond.and given_1 narrow_1)
abbrev abT : Term := .static "EveryoneWins$Kinds" "ABOVE" "[I"
def ixN : List (List Nat) := [[42, 89, 99, 110, 121, 131, 143, 156, 172, 188, 204, 222, 244], [43, 90, 100, 111, 122, 132, 144, 157, 173, 189, 205, 223, 245], [44, 91, 101, 112, 123, 133, 145, 158, 174, 190, 206, 224, 246], [45, 92, 102, 113, 124, 134, 146, 159, 175, 191, 207, 225, 247], [46, 93, 103, 114, 125, 135, 147, 160, 176, 192, 208, 226, 248]]
def ixNe : List (List Nat) := [[0, 98, 108, 118, 127, 138, 150, 165, 180, 195, 212, 233, 252], [0, 0, 109, 119, 128, 139, 151, 166, 181, 196, 213, 234, 253], [0, 0, 0, 120, 129, 140, 152, 167, 182, 197, 214, 235, 254], [0, 0, 0, 0, 130, 141, 153, 168, 183, 198, 215, 236, 255], [0, 0, 0, 0, 0, 142, 154, 169, 184, 199, 216, 237, 256], [0, 0, 0, 0, 0, 0, 155, 170, 185, 200, 217, 238, 257], [0, 0, 0, 0, 0, 0, 0, 171, 186, 201, 218, 239, 258], [0, 0, 0, 0, 0, 0, 0, 0, 187, 202, 219, 240, 259], [0, 0, 0, 0, 0, 0, 0, 0, 0, 203, 220, 241, 260], [0, 0, 0, 0, 0, 0, 0, 0, 0, 0, 221, 242, 261], [0, 0, 0, 0, 0, 0, 0, 0, 0, 0, 0, 243, 262], [0, 0, 0, 0, 0, 0, 0, 0, 0, 0, 0, 0, 263], [0, 0, 0, 0, 0, 0, 0, 0, 0, 0, 0, 0, 0]]
def ixS : List Nat := [362, 463, 470, 471, 472, 473, 474, 475, 476, 477, 478, 479, 480]
def ixn (k i : Nat) : Nat := (ixN.getD k []).getD i 0
theorem nin {w : Cond} {i : Nat} (h : narL[i]? = some w) : w ∈ narL := List.mem_of_getElem? h
theorem nar_ex0 : ∀ i, i < 13 → narL[ixn 0 i]? = some (Cond.exactly (strT i) "java/lang/String") := by decide +kernel
theorem nar_co0 : ∀ i, i < 13 → narL[ixn 1 i]? = some (Cond.eq (.field (strT i) "java/lang/String" "coder" "B") (.int 0)) := by decide +kernel
theorem nar_ar0 : ∀ i, i < 13 → narL[ixn 2 i]? = some (Cond.arrayOf (.field (strT i) "java/lang/String" "value" "[B") .byte) := by decide +kernel
theorem nar_le0 : ∀ i, i < 13 → narL[ixn 3 i]? = some (Cond.eq (.length (.field (strT i) "java/lang/String" "value" "[B")) (.int (Int32.ofNat (strLen.getD i 0)))) := by decide +kernel
theorem nar_el0 : ∀ i, i < 13 → ∀ j, j < strLen.getD i 0 → narL[ixn 4 i + j]? = some (Cond.eq (.elem (.field (strT i) "java/lang/String" "value" "[B") (.int (Int32.ofNat j))) (.int ((strByt.getD i []).getD j 0))) := by decide +kernel
theorem nar_ne0 : ∀ i, i < 13 → ∀ j, j < 13 → i < j → narL[(ixNe.getD i []).getD j 0]? = some (Cond.not (Cond.eq (strT i) (strT j))) := by decide +kernel
theorem tbl_str0 : ∀ i, i < 13 → lw_tbl[ixS.getD i 0]? = some (Cond.stringRef (strOwn.getD i default).1 (strOwn.getD i default).2.1 (strOwn.getD i default).2.2) := by decide +kernel
theorem nar_ex (i : Nat) (h : i < 13) : Cond.exactly (strT i) "java/lang/String" ∈ narL := nin (nar_ex0 i h)
theorem nar_co (i : Nat) (h : i < 13) : Cond.eq (.field (strT i) "java/lang/String" "coder" "B") (.int 0) ∈ narL := nin (nar_co0 i h)
theorem nar_ar (i : Nat) (h : i < 13) : Cond.arrayOf (.field (strT i) "java/lang/String" "value" "[B") .byte ∈ narL := nin (nar_ar0 i h)
theorem nar_le (i : Nat) (h : i < 13) : Cond.eq (.length (.field (strT i) "java/lang/String" "value" "[B")) (.int (Int32.ofNat (strLen.getD i 0))) ∈ narL := nin (nar_le0 i h)
theorem nar_el (i : Nat) (h : i < 13) (j : Nat) (hj : j < strLen.getD i 0) : Cond.eq (.elem (.field (strT i) "java/lang/String" "value" "[B") (.int (Int32.ofNat j))) (.int ((strByt.getD i []).getD j 0)) ∈ narL := nin (nar_el0 i h j hj)
theorem nar_ne (i : Nat) (h : i < 13) (j : Nat) (hj : j < 13) (hij : i ≠ j) : Cond.not (Cond.eq (strT i) (strT j)) ∈ narL ∨ Cond.not (Cond.eq (strT j) (strT i)) ∈ narL := by
  rcases Nat.lt_or_ge i j with q | q
  · exact Or.inl (nin (nar_ne0 i h j hj q))
  · exact Or.inr (nin (nar_ne0 j hj i h (by omega)))
theorem tbl_str (i : Nat) (h : i < 13) : Cond.stringRef (strOwn.getD i default).1 (strOwn.getD i default).2.1 (strOwn.getD i default).2.2 ∈ lw_tbl := tin (tbl_str0 i h)
theorem nar_b1 : Cond.arrayOf abT .int ∈ narL := by decide +kernel
theorem nar_b2 : Cond.eq (.length abT) (.int (Int32.ofNat 6)) ∈ narL := by decide +kernel
theorem nar_b3 : ∀ j, j < 6 → Cond.eq (.elem abT (.int (Int32.ofNat j))) (.int (aboveL.getD j 0)) ∈ narL := by decide +kernel
theorem nar_cs : Cond.eq (.static "java/lang/String" "COMPACT_STRINGS" "Z") (.int 1) ∈ narL := by decide +kernel
theorem nar_sf : Cond.isRef (.static "jdk/internal/util/Preconditions" "SIOOBE_FORMATTER" "Ljava/util/function/BiFunction;") ∈ narL := by decide +kernel
theorem wd_93 : Cond.classLink "EveryoneWinsLaw" 7 "EveryoneWins" ∈ gtbl := gtbl_of (i := 93) (by decide +kernel) (by decide +kernel)
theorem wd_94 : Cond.instantiable "EveryoneWins" 17 ∈ gtbl := gtbl_of (i := 94) (by decide +kernel) (by decide +kernel)
theorem wd_1046 : Cond.classLink "EveryoneWinsLaw" 10 "EveryoneWinsModel" ∈ gtbl := gtbl_of (i := 1046) (by decide +kernel) (by decide +kernel)
theorem wd_1047 : Cond.instantiable "EveryoneWinsModel" 45 ∈ gtbl := gtbl_of (i := 1047) (by decide +kernel) (by decide +kernel)
set_option maxHeartbeats 4000000 in
set_option maxRecDepth 100000 in
theorem law_ctx {p : Program} {e : Jvm.Env} {s : State} {m : MethodId} {below : List Frame} {meth : Method} {c : Code} (l : Launch) {b L : Nat} {xs : Nat → Int32} (C0 : lw_At p s m meth c b L xs) : ∃ γ : GT, Cg γ (fun q : Nat => s.heap.size ≤ q) (p, l, e, room_1, s, m, #[Value.ref b], below, meth, c) room_1 cL_law 4 "EveryoneWinsLaw" (some .boolean) := by
  obtain ⟨hx, hb, hr, hml, hown, hts, hX, hbl, hlocks, hgv⟩ := C0
  have hg : ∀ w ∈ gtbl, w.before #[Value.ref b] s = true := fun w hw => hts w (gtbl_in hw)
  have hs : ∀ w ∈ narL, w.before #[Value.ref b] s = true := flat_of_before _ hgv
  have hA : ∀ a : Nat, a < s.heap.size → ¬ (fun q : Nat => s.heap.size ≤ q) a := fun a h => Nat.not_le.mpr h
  have hK : ∀ c : Nat, ∃ d : ClassId × (Nat → Nat), ∀ q : vw_C, vwCl[c]? = some q → u_Kn s q.1 q.2.1 q.2.2 d.1 d.2 := by
    intro c
    match c with
    | 0 =>
      obtain ⟨cC, iS, h⟩ := u_known (C := RX0) (T := TX0) (N := 3) (n := 3) hg inT0 (hg _ wd_303)
      refine ⟨(cC, iS), fun q hq => ?_⟩
      have hq : some (RX0, TX0, 3) = some q := hq
      cases hq
      exact h
    | 1 =>
      obtain ⟨cC, iS, h⟩ := u_known (C := RX1) (T := TX1) (N := 4) (n := 4) hg inT1 (hg _ wd_102)
      refine ⟨(cC, iS), fun q hq => ?_⟩
      have hq : some (RX1, TX1, 4) = some q := hq
      cases hq
      exact h
    | 2 =>
      obtain ⟨cC, iS, h⟩ := u_known (C := RX2) (T := TX2) (N := 12) (n := 12) hg inT2 (hg _ wd_249)
      refine ⟨(cC, iS), fun q hq => ?_⟩
      have hq : some (RX2, TX2, 12) = some q := hq
      cases hq
      exact h
    | 3 =>
      obtain ⟨cC, iS, h⟩ := u_known (C := RX4) (T := TX4) (N := 5) (n := 5) hg inT4 (hg _ wd_319)
      refine ⟨(cC, iS), fun q hq => ?_⟩
      have hq : some (RX4, TX4, 5) = some q := hq
      cases hq
      exact h
    | 4 =>
      obtain ⟨cC, iS, h⟩ := u_known (C := RX5) (T := TX5) (N := 5) (n := 5) hg inT5 (hg _ wd_130)
      refine ⟨(cC, iS), fun q hq => ?_⟩
      have hq : some (RX5, TX5, 5) = some q := hq
      cases hq
      exact h
    | 5 =>
      obtain ⟨cC, iS, h⟩ := u_known (C := RX6) (T := TX6) (N := 5) (n := 5) hg inT6 (hg _ wd_227)
      refine ⟨(cC, iS), fun q hq => ?_⟩
      have hq : some (RX6, TX6, 5) = some q := hq
      cases hq
      exact h
    | 6 =>
      obtain ⟨cC, iS, h⟩ := u_known (C := RX7) (T := TX7) (N := 3) (n := 3) hg inT7 (hg _ wd_344)
      refine ⟨(cC, iS), fun q hq => ?_⟩
      have hq : some (RX7, TX7, 3) = some q := hq
      cases hq
      exact h
    | 7 =>
      obtain ⟨cC, iS, h⟩ := u_known (C := RX8) (T := TX8) (N := 5) (n := 5) hg inT8 (hg _ wd_204)
      refine ⟨(cC, iS), fun q hq => ?_⟩
      have hq : some (RX8, TX8, 5) = some q := hq
      cases hq
      exact h
    | 8 =>
      obtain ⟨cC, iS, h⟩ := u_known (C := RX9) (T := TX9) (N := 5) (n := 5) hg inT9 (hg _ wd_170)
      refine ⟨(cC, iS), fun q hq => ?_⟩
      have hq : some (RX9, TX9, 5) = some q := hq
      cases hq
      exact h
    | 9 =>
      obtain ⟨cC, iS, h⟩ := u_known (C := RX10) (T := TX10) (N := 3) (n := 3) hg inT10 (hg _ wd_163)
      refine ⟨(cC, iS), fun q hq => ?_⟩
      have hq : some (RX10, TX10, 3) = some q := hq
      cases hq
      exact h
    | 10 =>
      obtain ⟨cC, iS, h⟩ := u_known (C := RX11) (T := TX11) (N := 17) (n := 17) hg inT11 (hg _ wd_94)
      refine ⟨(cC, iS), fun q hq => ?_⟩
      have hq : some (RX11, TX11, 17) = some q := hq
      cases hq
      exact h
    | 11 =>
      obtain ⟨cC, iS, h⟩ := u_known (C := RX12) (T := TX12) (N := 45) (n := 45) hg inT12 (hg _ wd_1047)
      refine ⟨(cC, iS), fun q hq => ?_⟩
      have hq : some (RX12, TX12, 45) = some q := hq
      cases hq
      exact h
    | c + 12 =>
      refine ⟨(0, fun _ => 0), fun q hq => ?_⟩
      have h12 : c + 12 < 12 := (List.getElem?_eq_some_iff.mp hq).1
      exact absurd h12 (by omega)
  obtain ⟨d, hd⟩ := Classical.axiomOfChoice hK
  obtain ⟨cI, kI, compI, i1, i2, i3⟩ := Cond.arrayClass_spec (hg _ wd_128)
  obtain ⟨compT, cT, kT, t1, t2, t3, t4, t5⟩ := Cond.arrayOver_spec (hts (.arrayOver (.object "EveryoneWins$Text")) (tin (i := 169) (by decide +kernel)))
  obtain ⟨compS, cS, kS, s1, s2, s3, s4, s5⟩ := Cond.arrayOver_spec (hts (.arrayOver (.object "EveryoneWins$Sheet")) (tin (i := 343) (by decide +kernel)))
  obtain ⟨compW, cW, kW, w1, w2, w3, w4, w5⟩ := arrayOverA_spec (hts (.arrayOver (.array .int)) (tin (i := 325) (by decide +kernel)))
  obtain ⟨t, ht, hT⟩ := va_Tof (tm := abT) (ty := .int) (N := 6) (f := fun j => .int (aboveL.getD j 0)) (A := fun q : Nat => s.heap.size ≤ q) (by decide) (hs _ nar_b1) (va_eqt (hs _ nar_b2)) (fun j hj => va_eqt (hs _ (nar_b3 j hj))) hA
  obtain ⟨adK, adV, hSt, hEv⟩ := vk_Sof (N := 13) (tm := strT) (len := strLen) (byt := strByt) (A := fun q : Nat => s.heap.size ≤ q) (fun i hi => Nat.lt_trans (str_len i hi) (by decide)) (fun i hi => hs _ (nar_ex i hi)) (fun i hi => hs _ (nar_co i hi)) (fun i hi => hs _ (nar_ar i hi)) (fun i hi => hs _ (nar_le i hi)) (fun i hi j hj => hs _ (nar_el i hi j hj)) (fun i j hi hj hij => (nar_ne i hi j hj hij).elim (fun h => Or.inl (hs _ h)) (fun h => Or.inr (hs _ h))) hA
  refine ⟨((fun c => (d c).1, fun c => (d c).2), (cI, cT, cS, cW), adK, adV, t), hx, hb, hml, hown, hg, hr, hlocks, ⟨fun c q hq => hd c q hq, fun k q hk => ?_⟩, ⟨fun q hq => ?_, ?_, hT, ?_, fun i hi => ?_, hSt, ?_⟩, ⟨?_, ?_, ?_⟩, fun q h => h, rfl⟩
  · match k with
    | 0 =>
      have hk : some (cI, FieldType.int) = some q := hk
      cases hk
      exact ⟨fun N z => ⟨(fun k h => by cases h), kI, i2, compI, i3⟩, i1⟩
    | 1 =>
      have hk : some (cT, FieldType.object "EveryoneWins$Text") = some q := hk
      cases hk
      exact ⟨fun N z => ⟨(fun k h => by cases h), kT, t3, compT, t4⟩, kT, compT, t3, t4, t1, t5⟩
    | 2 =>
      have hk : some (cS, FieldType.object "EveryoneWins$Sheet") = some q := hk
      cases hk
      exact ⟨fun N z => ⟨(fun k h => by cases h), kS, s3, compS, s4⟩, kS, compS, s3, s4, s1, s5⟩
    | 3 =>
      have hk : some (cW, FieldType.array .int) = some q := hk
      cases hk
      exact ⟨fun N z => ⟨(fun k h => by cases h), kW, w3, compW, w4⟩, w5⟩
    | k + 4 =>
      have h4 : k + 4 < 4 := (List.getElem?_eq_some_iff.mp hk).1
      exact absurd h4 (by omega)
  · obtain ⟨w, hw, e⟩ := List.mem_filterMap.mp hq
    split at e
    · cases e
      exact va_Nw.of rfl (hts _ hw)
    · cases e
  · exact va_Zref (hts (.laysStatic "EveryoneWins$Kinds" "ABOVE" "[I") (tin (i := 822) (by decide +kernel))) (hg _ wd_91) ht hA
  · exact va_Zof (hts (.laysStatic "java/lang/String" "COMPACT_STRINGS" "Z") (tin (i := 372) (by decide +kernel))) (hts (.initialized "java/lang/String") (tin (i := 84) (by decide +kernel))) (va_eqi (hs _ nar_cs)) hA
  · exact vk_R.of (hts _ (tbl_str i hi)) (hEv i hi)
  · exact va_Zqof (hts (.laysStatic "jdk/internal/util/Preconditions" "SIOOBE_FORMATTER" "Ljava/util/function/BiFunction;") (tin (i := 388) (by decide +kernel))) (hts (.initialized "jdk/internal/util/Preconditions") (tin (i := 86) (by decide +kernel))) (hs _ nar_sf) hA
  · exact va_AO.of (hts (.arrayOver (.object "EveryoneWins$Text")) (tin (i := 169) (by decide +kernel)))
  · exact va_AO.of (hts (.arrayOver (.object "EveryoneWins$Sheet")) (tin (i := 343) (by decide +kernel)))
  · exact hts (.arrayOver (.array .int)) (tin (i := 325) (by decide +kernel))
