/-! the texts of constants: String.length, String.charAt -/
section STR
variable {ω : WT} {κ : KT} {cc : ByteArray} {nL n : Nat} {own : String} {ret : Option FieldType} {pc : Nat} {L : List (Nat × Value)} {st : List Value} {σ : M2}
theorem j_xret {ty : FieldType} (C : Cx ω κ cc nL own (some ty)) {v : Int32} (e : κ.2.2.2.2.2.2.2.2.2 = (some (.int v), σ)) (hn : narrow ty (.int v) = .int v) (d : decode cc pc = .ok (.ireturn, 1)) : J ω κ n nL pc L [.int v] σ := fun H locs ls hP hS hl =>
  W.zret C.x C.b C.r hn (fun t ht _ => ⟨by rw [e], by rw [ht, e]; exact hP, hS.F ht⟩) hS.2.2 d C.lk
theorem j_getsC (C : Cx ω κ cc nL own ret) {i : Nat} (hlk : Cond.fieldLink own i "java/lang/String" "COMPACT_STRINGS" "Z" ∈ gtbl) (d : decode cc pc = .ok (.getstatic i, 3)) (k : J ω κ n nL (pc + 3) L (.int 1 :: st) σ) : J ω κ n nL pc L st σ := fun H locs ls hP hS hl =>
  va_gets C.x C.b C.S.2.2.2.1 hS C.o (C.t _ hlk) (fun _ h => h) d (k H locs ls hP hS hl)
theorem j_getsF (C : Cx ω κ cc nL own ret) {i : Nat} (hlk : Cond.fieldLink own i "jdk/internal/util/Preconditions" "SIOOBE_FORMATTER" "Ljava/util/function/BiFunction;" ∈ gtbl) (d : decode cc pc = .ok (.getstatic i, 3)) (k : ∀ fv : Value, (fv = .null ∨ ∃ t, fv = .ref t) → J ω κ n nL (pc + 3) L (fv :: st) σ) : J ω κ n nL pc L st σ := fun H locs ls hP hS hl => by
  rcases C.S.2.2.2.2.2.2 with h | ⟨t, h⟩
  · exact va_gets C.x C.b h hS C.o (C.t _ hlk) (fun _ h => h) d (k _ (Or.inl rfl) H locs ls hP hS hl)
  · exact va_gets C.x C.b h hS C.o (C.t _ hlk) (fun _ h => h) d (k _ (Or.inr ⟨t, rfl⟩) H locs ls hP hS hl)
theorem j_coder (C : Cx ω κ cc nL own ret) {i q : Nat} (hq : q < 13) (hlk : Cond.fieldLink own i "java/lang/String" "coder" "B" ∈ gtbl) (d : decode cc pc = .ok (.getfield i, 3)) (k : J ω κ n nL (pc + 3) L (.int 0 :: st) σ) : J ω κ n nL pc L (.ref (wK ω q) :: st) σ := fun H locs ls hP hS hl =>
  vk_getf C.x C.b (C.S.2.2.2.2.2.1.1 q hq).2.1 hS C.o (C.t _ hlk) (fun _ h => h) d (k H locs ls hP hS hl)
theorem j_value (C : Cx ω κ cc nL own ret) {i q : Nat} (hq : q < 13) (hlk : Cond.fieldLink own i "java/lang/String" "value" "[B" ∈ gtbl) (d : decode cc pc = .ok (.getfield i, 3)) (k : J ω κ n nL (pc + 3) L (.ref (wV ω q) :: st) σ) : J ω κ n nL pc L (.ref (wK ω q) :: st) σ := fun H locs ls hP hS hl =>
  vk_getf C.x C.b (C.S.2.2.2.2.2.1.1 q hq).2.2.1 hS C.o (C.t _ hlk) (fun _ h => h) d (k H locs ls hP hS hl)
theorem j_vlen (C : Cx ω κ cc nL own ret) {q : Nat} (hq : q < 13) (d : decode cc pc = .ok (.arraylength, 1)) (k : J ω κ n nL (pc + 1) L (.int (Int32.ofNat (strLen.getD q 0)) :: st) σ) : J ω κ n nL pc L (.ref (wV ω q) :: st) σ := fun H locs ls hP hS hl =>
  va_tlen C.x C.b (C.S.2.2.2.2.2.1.1 q hq).2.2.2 hS rfl d (k H locs ls hP hS hl)
theorem j_vbald (C : Cx ω κ cc nL own ret) {q : Nat} {i : Int32} (hq : q < 13) (hi : vp_in i (strLen.getD q 0)) (d : decode cc pc = .ok (.baload, 1)) (k : J ω κ n nL (pc + 1) L (.int ((strByt.getD q []).getD i.toNatClampNeg 0) :: st) σ) : J ω κ n nL pc L (.int i :: .ref (wV ω q) :: st) σ := fun H locs ls hP hS hl =>
  va_tb C.x C.b (C.S.2.2.2.2.2.1.1 q hq).2.2.2 hS hi rfl d (k H locs ls hP hS hl)
theorem j_i2c (C : Cx ω κ cc nL own ret) {x : Int32} (d : decode cc pc = .ok (.i2c, 1)) (k : J ω κ n nL (pc + 1) L (.int ((x.toUInt32 % 65536).toInt32) :: st) σ) : J ω κ n nL pc L (.int x :: st) σ := fun H locs ls hP hS hl => lv_i2c C.x C.b d rfl (k H locs ls hP hS hl)
theorem k_str {v : Option Value} {i q maxL n' : Nat} {y : MethodName} {bytes : ByteArray} {r' : Option FieldType} {As rest st0 : List Value} {σ1 : M2} (C : Cx ω κ cc nL own ret) (hq : q < 13) (B : VB y bytes maxL r' "java/lang/String" As.length) (hM : Ct κ.2.1 ω y bytes maxL r' n' (.ref (wK ω q) :: As) σ v σ1) (hst : st0 = As.reverse ++ .ref (wK ω q) :: rest) (hn : n' + 1 ≤ n) (hlk : Cond.methodLink own i y ∈ gtbl) (hcat : Nat.ble ((rest.map fun v => v.category).sum) 8 = true) (d : decode cc pc = .ok (.invokevirtual i, 3)) (k : J ω κ n nL (pc + 3) L (v.toList ++ rest) σ1) : J ω κ n nL pc L st0 σ := by
  refine j_go (a := (Value.ref (wK ω q) :: As).toArray) (rest := rest) (fun H locs ls hP hS hl => ?_) k
  have hR : Rm n' maxL n := ⟨hn, B.2.2.2.2.1⟩
  exact va_runV (As := As) (n := As.length) (C := "java/lang/String") (own := own) (Ts := gtbl) ⟨C.x, C.b, C.ml, C.o, C.t⟩ hM ⟨C.callB hR B.1 B.2.1 hlk B.2.2.2.2.2, C.t _ B.2.2.1, C.t _ B.2.2.2.1⟩ ⟨Pw.blind, vk_recv C.S.2.2.2.2.2.1 hq hS, C.pre hP hS⟩ rfl rfl hl.1 hst (lv_room (Nat.le_of_ble_eq_true hcat)) d ⟨Nat.le_refl _, Nat.le_refl _⟩
end STR
theorem str_ch : ∀ q, q < 13 → ∀ j, j < strLen.getD q 0 → (((strByt.getD q []).getD j 0 &&& 255).toUInt32 % 65536).toInt32 = (strByt.getD q []).getD j 0 ∧ narrow .char (.int ((strByt.getD q []).getD j 0)) = .int ((strByt.getD q []).getD j 0) := by decide +kernel
theorem str_len : ∀ q, q < 13 → strLen.getD q 0 < 100 := by decide +kernel
set_option maxRecDepth 10000 in
theorem cS_coder (l : Launch) {ω : WT} {q : Nat} (hq : q < 13) {σ : M2} : Ct l ω yJ0_coder_7d493 cJ0_coder_7d493 1 (some .byte) 1 [.ref (wK ω q)] σ (some (.int 0)) σ := by
  refine Ct.of (own := "java/lang/String") (L := [(0, .ref (wK ω q))]) (by decide +kernel) rfl rfl rfl (fun κ hl e C => ?_)
  refine j_getsC C wd_371 dJ0_coder_7d493_0 ?_
  refine j_if_eq (tgt := 13) C dJ0_coder_7d493_3 (by decide) (fun c => absurd c (by decide)) (fun _ => ?_)
  refine j_aload_n C 0 dJ0_coder_7d493_6 rfl ?_
  refine j_coder C hq wd_1473 dJ0_coder_7d493_7 ?_
  refine j_goto (tgt := 14) C dJ0_coder_7d493_10 (by decide) ?_
  exact j_xret C e rfl dJ0_coder_7d493_14
set_option maxRecDepth 10000 in
theorem cS_length (l : Launch) {ω : WT} {q : Nat} (hq : q < 13) {σ : M2} : Ct l ω yJ0_length_8abf5 cJ0_length_8abf5 1 (some .int) 2 [.ref (wK ω q)] σ (some (.int (Int32.ofNat (strLen.getD q 0)))) σ := by
  refine Ct.of (own := "java/lang/String") (L := [(0, .ref (wK ω q))]) (by decide +kernel) rfl rfl rfl (fun κ hl e C => ?_)
  refine j_aload_n C 0 dJ0_length_8abf5_0 rfl ?_
  refine j_value C hq wd_1472 dJ0_length_8abf5_1 ?_
  refine j_vlen C hq dJ0_length_8abf5_4 ?_
  refine j_aload_n C 0 dJ0_length_8abf5_5 rfl ?_
  refine k_str (v := some (.int 0)) C hq vb_J0_coder_7d493 (cS_coder _ hq) rfl (by decide) wd_367 rfl dJ0_length_8abf5_6 ?_
  show J ω κ _ _ 9 _ [.int 0, .int (Int32.ofNat (strLen.getD q 0))] σ
  refine j_ishr C dJ0_length_8abf5_9 ?_
  have hl := str_len q hq
  rw [show Int32.ofNat (strLen.getD q 0) >>> ((0 : Int32) &&& 31) = Int32.ofNat (strLen.getD q 0) from sc_shr0 (by omega)]
  exact j_iret C e dJ0_length_8abf5_10
set_option maxRecDepth 10000 in
theorem cS_isLatin1 (l : Launch) {ω : WT} {q : Nat} (hq : q < 13) {σ : M2} : Ct l ω yJ0_isLatin1_aae02 cJ0_isLatin1_aae02 1 (some .boolean) 1 [.ref (wK ω q)] σ (some (.int 1)) σ := by
  refine Ct.of (own := "java/lang/String") (L := [(0, .ref (wK ω q))]) (by decide +kernel) rfl rfl rfl (fun κ hl e C => ?_)
  refine j_getsC C wd_371 dJ0_isLatin1_aae02_0 ?_
  refine j_if_eq (tgt := 17) C dJ0_isLatin1_aae02_3 (by decide) (fun c => absurd c (by decide)) (fun _ => ?_)
  refine j_aload_n C 0 dJ0_isLatin1_aae02_6 rfl ?_
  refine j_coder C hq wd_1473 dJ0_isLatin1_aae02_7 ?_
  refine j_if_ne (tgt := 17) C dJ0_isLatin1_aae02_10 (by decide) (fun c => absurd rfl c) (fun _ => ?_)
  refine j_iconst (v := 1) C dJ0_isLatin1_aae02_13 (by decide) ?_
  refine j_goto (tgt := 18) C dJ0_isLatin1_aae02_14 (by decide) ?_
  exact j_xret C e rfl dJ0_isLatin1_aae02_18
theorem cS_pre_J (l : Launch) {ω : WT} {κ : KT} {i k : Int32} {fv : Value} {σ : M2} (h0 : ¬ i < 0) (hk : i < k) (e : κ.2.2.2.2.2.2.2.2.2 = (some (.int i), σ)) (C : Cx ω κ cJ3_checkIndex_8e157 3 "jdk/internal/util/Preconditions" (some .int)) : J ω κ 1 3 0 [(0, .int i), (1, .int k), (2, fv)] [] σ := by
  refine j_iload_n C 0 dJ3_checkIndex_8e157_0 rfl ?_
  refine j_if_lt (tgt := 9) C dJ3_checkIndex_8e157_1 (by decide) (fun c => absurd c h0) (fun _ => ?_)
  refine j_iload_n C 0 dJ3_checkIndex_8e157_4 rfl ?_
  refine j_iload_n C 1 dJ3_checkIndex_8e157_5 rfl ?_
  refine j_icmp_lt (tgt := 16) C dJ3_checkIndex_8e157_6 (by decide) (fun _ => ?_) (fun c => absurd hk c)
  refine j_iload_n C 0 dJ3_checkIndex_8e157_16 rfl ?_
  exact j_iret C e dJ3_checkIndex_8e157_17
set_option maxRecDepth 10000 in
theorem cS_pre (l : Launch) {ω : WT} {i k : Int32} {fv : Value} (hf : fv = .null ∨ ∃ t, fv = .ref t) {σ : M2} (h0 : ¬ i < 0) (hk : i < k) : Ct l ω yJ3_checkIndex_8e157 cJ3_checkIndex_8e157 3 (some .int) 1 [.int i, .int k, fv] σ (some (.int i)) σ := by
  rcases hf with rfl | ⟨t, rfl⟩
  · exact Ct.of (own := "jdk/internal/util/Preconditions") (L := [(0, .int i), (1, .int k), (2, .null)]) (by decide +kernel) rfl rfl rfl (fun κ hl e C => cS_pre_J l h0 hk e C)
  · exact Ct.of (own := "jdk/internal/util/Preconditions") (L := [(0, .int i), (1, .int k), (2, .ref t)]) (by decide +kernel) rfl rfl rfl (fun κ hl e C => cS_pre_J l h0 hk e C)
set_option maxRecDepth 10000 in
theorem cS_check (l : Launch) {ω : WT} {i k : Int32} {σ : M2} (h0 : ¬ i < 0) (hk : i < k) : Ct l ω yJ0_checkIndex_df160 cJ0_checkIndex_df160 2 none 2 [.int i, .int k] σ none σ := by
  refine Ct.of (own := "java/lang/String") (L := [(0, .int i), (1, .int k)]) (by decide +kernel) rfl rfl rfl (fun κ hl e C => ?_)
  refine j_iload_n C 0 dJ0_checkIndex_df160_0 rfl ?_
  refine j_iload_n C 1 dJ0_checkIndex_df160_1 rfl ?_
  refine j_getsF C wd_387 dJ0_checkIndex_df160_2 (fun fv hf => ?_)
  refine k_S (v := some (.int i)) C sb_J3_checkIndex_8e157 (cS_pre _ hf h0 hk) rfl (by decide) wd_389 rfl dJ0_checkIndex_df160_5 ?_
  show J ω κ _ _ 8 _ [.int i] σ
  refine j_pop C dJ0_checkIndex_df160_8 rfl ?_
  exact j_vret C e dJ0_checkIndex_df160_9
set_option maxRecDepth 10000 in
theorem cS_charAt1 (l : Launch) {ω : WT} {q : Nat} (hq : q < 13) {i : Int32} (hi : vp_in i (strLen.getD q 0)) {σ : M2} : Ct l ω yJ1_charAt_3b067 cJ1_charAt_3b067 2 (some .char) 3 [.ref (wV ω q), .int i] σ (some (.int ((strByt.getD q []).getD i.toNatClampNeg 0))) σ := by
  refine Ct.of (own := "java/lang/StringLatin1") (L := [(0, .ref (wV ω q)), (1, .int i)]) (by decide +kernel) rfl rfl rfl (fun κ hl e C => ?_)
  have hl2 := str_len q hq
  have hj : i.toNatClampNeg < strLen.getD q 0 := Nat.not_le.mp fun z => hi (Or.inr z)
  obtain ⟨j, hj2, rfl⟩ := vp_in_of hi (by omega)
  obtain ⟨hc1, hc2⟩ := str_ch q hq _ hj
  refine j_iload_n C 1 dJ1_charAt_3b067_0 rfl ?_
  refine j_aload_n C 0 dJ1_charAt_3b067_1 rfl ?_
  refine j_vlen C hq dJ1_charAt_3b067_2 ?_
  refine k_S (v := none) C sb_J0_checkIndex_df160 (cS_check _ (fun z => hi (Or.inl z)) (nI_lt hj2 (by omega))) rfl (by decide) wd_384 rfl dJ1_charAt_3b067_3 ?_
  show J ω κ _ _ 6 _ [] σ
  refine j_aload_n C 0 dJ1_charAt_3b067_6 rfl ?_
  refine j_iload_n C 1 dJ1_charAt_3b067_7 rfl ?_
  refine j_vbald C hq hi dJ1_charAt_3b067_8 ?_
  refine j_sipush (v := 255) C dJ1_charAt_3b067_9 (by decide) ?_
  refine j_iand C dJ1_charAt_3b067_12 ?_
  refine j_i2c C dJ1_charAt_3b067_13 ?_
  rw [hc1]
  exact j_xret C e hc2 dJ1_charAt_3b067_14
set_option maxRecDepth 10000 in
theorem cS_charAt (l : Launch) {ω : WT} {q : Nat} (hq : q < 13) {i : Int32} (hi : vp_in i (strLen.getD q 0)) {σ : M2} : Ct l ω yJ0_charAt_5068e cJ0_charAt_5068e 2 (some .char) 4 [.ref (wK ω q), .int i] σ (some (.int ((strByt.getD q []).getD i.toNatClampNeg 0))) σ := by
  refine Ct.of (own := "java/lang/String") (L := [(0, .ref (wK ω q)), (1, .int i)]) (by decide +kernel) rfl rfl rfl (fun κ hl e C => ?_)
  have hj : i.toNatClampNeg < strLen.getD q 0 := Nat.not_le.mp fun z => hi (Or.inr z)
  obtain ⟨hc1, hc2⟩ := str_ch q hq _ hj
  refine j_aload_n C 0 dJ0_charAt_5068e_0 rfl ?_
  refine k_str (v := some (.int 1)) C hq vb_J0_isLatin1_aae02 (cS_isLatin1 _ hq) rfl (by decide) wd_377 rfl dJ0_charAt_5068e_1 ?_
  show J ω κ _ _ 4 _ [.int 1] σ
  refine j_if_eq (tgt := 16) C dJ0_charAt_5068e_4 (by decide) (fun c => absurd c (by decide)) (fun _ => ?_)
  refine j_aload_n C 0 dJ0_charAt_5068e_7 rfl ?_
  refine j_value C hq wd_1472 dJ0_charAt_5068e_8 ?_
  refine j_iload_n C 1 dJ0_charAt_5068e_11 rfl ?_
  refine k_S (v := some (.int ((strByt.getD q []).getD i.toNatClampNeg 0))) C sb_J1_charAt_3b067 (cS_charAt1 _ hq hi) rfl (by decide) wd_381 rfl dJ0_charAt_5068e_12 ?_
  show J ω κ _ _ 15 _ [.int ((strByt.getD q []).getD i.toNatClampNeg 0)] σ
  exact j_xret C e hc2 dJ0_charAt_5068e_15
section STR2
variable {ω : WT} {κ : KT} {cc : ByteArray} {nL n : Nat} {own : String} {ret : Option FieldType} {pc : Nat} {L : List (Nat × Value)} {st : List Value} {σ : M2}
theorem j_slen (C : Cx ω κ cc nL own ret) {i q : Nat} (hq : q < 13) (hlk : Cond.methodLink own i yJ0_length_8abf5 ∈ gtbl) (hn : 2 + 1 ≤ n) (hcat : Nat.ble ((st.map fun v => v.category).sum) 8 = true) (d : decode cc pc = .ok (.invokevirtual i, 3)) (k : J ω κ n nL (pc + 3) L (.int (Int32.ofNat (strLen.getD q 0)) :: st) σ) : J ω κ n nL pc L (.ref (wK ω q) :: st) σ :=
  k_str (v := some (.int (Int32.ofNat (strLen.getD q 0)))) C hq vb_J0_length_8abf5 (cS_length _ hq) rfl hn hlk hcat d k
theorem j_schar (C : Cx ω κ cc nL own ret) {i q : Nat} {x : Int32} (hq : q < 13) (hx : vp_in x (strLen.getD q 0)) (hlk : Cond.methodLink own i yJ0_charAt_5068e ∈ gtbl) (hn : 4 + 1 ≤ n) (hcat : Nat.ble ((st.map fun v => v.category).sum) 8 = true) (d : decode cc pc = .ok (.invokevirtual i, 3)) (k : J ω κ n nL (pc + 3) L (.int ((strByt.getD q []).getD x.toNatClampNeg 0) :: st) σ) : J ω κ n nL pc L (.int x :: .ref (wK ω q) :: st) σ :=
  k_str (v := some (.int ((strByt.getD q []).getD x.toNatClampNeg 0))) C hq vb_J0_charAt_5068e (cS_charAt _ hq hx) rfl hn hlk hcat d k
end STR2
/-- a recursive call of the reader's, by its tag -/
def CtR (α : WA) (l : Launch) (m tag t : Nat) (σ σ' : M2) : Prop :=
  (tag = 0 → Ct l (ωC α) yX6_readE cX6_readE 3 none (m - 9 + 8) [.ref (wad (ωC α) 40), .ref (wad (ωC α) t)] σ none σ') ∧
  (tag = 1 → Ct l (ωC α) yX6_readNot cX6_readNot 2 none (m - 9 + 6) [.ref (wad (ωC α) 40), .ref (wad (ωC α) t)] σ none σ') ∧
  (tag = 2 → Ct l (ωC α) yX6_readOne cX6_readOne 2 none (m - 9 + 2) [.ref (wad (ωC α) 40), .ref (wad (ωC α) t)] σ none σ')
