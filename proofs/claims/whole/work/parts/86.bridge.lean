/-! from fresh cells to the memory's world; rows over it; an array written out in its initialiser -/
def eeq (e e' : va_E) : Prop := ∀ (D : va_G) (a : Nat) (H : Heap), va_at D vwCl (a, e) H → va_at D vwCl (a, e') H
theorem eeq.rf {e : va_E} : eeq e e := fun _ _ _ h => h
theorem eeq.of {e e' : va_E} (h : e = e') : eeq e e' := h ▸ eeq.rf
theorem eeq.q {cA : ClassId} {N : Nat} {f g : Nat → Option Nat} (h : ∀ j, j < N → f j = g j) : eeq (.inl (cA, N, .inr (.inr (.inr (.inr f))))) (.inl (cA, N, .inr (.inr (.inr (.inr g))))) := by
  intro D a H hh
  have hh : H[a]? = some (vp_cell cA (N, .inr (.inr (.inr (.inr f))))) := hh
  show H[a]? = some (vp_cell cA (N, .inr (.inr (.inr (.inr g)))))
  rw [hh, vp_cell_q, vp_cell_q]
  exact congrArg some (arrV_congr (fun j hj => congrArg va_rf (h j hj)))
theorem bridge {D : va_G} {A : Nat → Prop} {ω : WT} {σ : M2} {ws : va_W} {H : Heap} (pl : Nat → Nat) (hpl : ∀ i, i < wN ω → ∀ j, j < wN ω → pl i = pl j → i = j) (h : ∀ i, i < wN ω → ∃ e, ws[pl i]? = some (wad ω i, e) ∧ eeq e (celle ω σ i)) (hP : va_P D vwCl ws H) (hD : va_D A ws) : va_P D vwCl (wld ω σ) H ∧ va_D A (wld ω σ) := by
  refine ⟨fun k q hk => ?_, ⟨fun i j p q hi hj e => ?_, fun k q hk => ?_⟩⟩
  · obtain ⟨h1, rfl⟩ := wld_inv ω σ hk
    obtain ⟨e, h2, h3⟩ := h k h1
    exact h3 D _ H (hP _ _ h2)
  · obtain ⟨h1, rfl⟩ := wld_inv ω σ hi
    obtain ⟨h2, rfl⟩ := wld_inv ω σ hj
    obtain ⟨e1, g1, -⟩ := h i h1
    obtain ⟨e2, g2, -⟩ := h j h2
    exact hpl i h1 j h2 (hD.1 _ _ _ _ g1 g2 e)
  · obtain ⟨h1, rfl⟩ := wld_inv ω σ hk
    obtain ⟨e, h2, -⟩ := h k h1
    show A (wad ω k)
    exact hD.2 _ (wad ω k, e) h2
theorem al_cons {P : Nat → Prop} {n N : Nat} (h0 : P n) (h : ∀ i, n + 1 ≤ i → i < N → P i) : ∀ i, n ≤ i → i < N → P i := fun i h1 h2 => by
  rcases Nat.eq_or_lt_of_le h1 with e | e
  · subst e; exact h0
  · exact h i e h2
theorem al_nil {P : Nat → Prop} {N : Nat} : ∀ i, N ≤ i → i < N → P i := fun _ h1 h2 => absurd h2 (Nat.not_lt.mpr h1)
theorem inj_of {S : SH} {γ : GT} {ad : Nat → Nat} {A : Nat → Prop} {σ : M2} (h99 : ∀ o, S.1 ≤ o → (S.2.1 o).1 = 99) (hD : va_D A (wld (ωG S γ ad) σ)) : Inj (ωG S γ ad) := by
  refine ⟨fun i j hi hj e => hD.1 i j _ _ (wld_at (ωG S γ ad) σ hi) (wld_at (ωG S γ ad) σ hj) e, h99, ⟨0, rfl⟩, fun o n _ => ?_⟩
  show ∃ (t : Nat) (ty : FieldType), (gtys γ)[t]? = some (gcR γ o, ty) ∧ ty.isReference = true
  unfold gcR
  by_cases h1 : o = 11
  · rw [if_pos h1]; exact ⟨1, _, rfl, rfl⟩
  · rw [if_neg h1]
    by_cases h2 : o = 58
    · rw [if_pos h2]; exact ⟨2, _, rfl, rfl⟩
    · rw [if_neg h2]; exact ⟨3, _, rfl, rfl⟩
theorem getD_big {α : Type} {l : List α} {d : α} {o : Nat} (h : l.length ≤ o) : l.getD o d = d := by
  rw [List.getD_eq_getElem?_getD, List.getElem?_eq_none h]; rfl
theorem sc99 : ∀ o, SC.1 ≤ o → (SC.2.1 o).1 = 99 := fun o h => by
  show (cshL.getD o (99, 0)).1 = 99
  rw [getD_big (Nat.le_trans (show cshL.length ≤ 77 by decide) h)]
theorem sm99 : ∀ o, SM.1 ≤ o → (SM.2.1 o).1 = 99 := fun o h => by
  show (mshL.getD o (99, 0)).1 = 99
  rw [getD_big (Nat.le_trans (show mshL.length ≤ 24 by decide) h)]
theorem cellfG_r {S : SH} {γ : GT} {ad : Nat → Nat} {σ : M2} {o j ci N : Nat} (hsh : S.2.1 o = (ci + 2, N)) (hfk : fk ci j = true) : cellf (ωG S γ ad) σ o j = .ref (ad (S.2.2 o j)) := by
  have e : (S.2.1 o).1 - 2 = ci := by rw [hsh]; exact Nat.add_sub_cancel ci 2
  show (if fk ((S.2.1 o).1 - 2) j = true then Value.ref (ad (S.2.2 o j)) else .int (σ o j)) = _
  rw [e]; exact if_pos hfk
theorem celleG_o {S : SH} {γ : GT} {ad : Nat → Nat} {σ : M2} {o ci N : Nat} (hsh : S.2.1 o = (ci + 2, N)) : celle (ωG S γ ad) σ o = .inr (ci, (List.range N).map (cellf (ωG S γ ad) σ o)) := celle_o (ω := ωG S γ ad) hsh
theorem celleG_i {S : SH} {γ : GT} {ad : Nat → Nat} {σ : M2} {o N : Nat} (hsh : S.2.1 o = (0, N)) : celle (ωG S γ ad) σ o = .inl (gcI γ, N, .inl (σ o)) := celle_i (ω := ωG S γ ad) hsh
theorem wldG_at {S : SH} {γ : GT} {ad : Nat → Nat} (σ : M2) {o : Nat} (h : o < S.1) : (wld (ωG S γ ad) σ)[o]? = some (ad o, celle (ωG S γ ad) σ o) := wld_at (ωG S γ ad) σ h
theorem Inj.ltG {S : SH} {γ : GT} {ad : Nat → Nat} (h : Inj (ωG S γ ad)) {o t n : Nat} (hs : S.2.1 o = (t, n)) (ht : t ≠ 99) : o < S.1 := Inj.lt h (o := o) hs ht
section WROWS
variable {γ : GT} {A : Nat → Prop} {κ : KG} {Q : State → Prop} {rm : Room} {cc : ByteArray} {nL k n pc : Nat} {own : String} {ret : Option FieldType} {L : List (Nat × Value)} {st : List Value} {S : SH} {ad : Nat → Nat} {σ : M2} {ws w0 : va_W}
theorem g_bridge (h99 : ∀ o, S.1 ≤ o → (S.2.1 o).1 = 99) (pl : Nat → Nat) (hpl : ∀ i, i < S.1 → ∀ j, j < S.1 → pl i = pl j → i = j) (h : ∀ i, i < S.1 → ∃ e, ws[pl i]? = some (ad i, e) ∧ eeq e (celle (ωG S γ ad) σ i)) (kk : Inj (ωG S γ ad) → G γ A κ Q nL k n pc L st (wld (ωG S γ ad) σ)) : G γ A κ Q nL k n pc L st ws := fun H locs ls hP hD hS hl => by
  obtain ⟨h1, h2⟩ := bridge (ω := ωG S γ ad) (σ := σ) pl hpl h hP hD
  exact kk (inj_of h99 h2) H locs ls h1 h2 hS hl
theorem w_getr (C : Cg γ A κ rm cc nL own ret) (hI : Inj (ωG S γ ad)) {o j ci N i o' : Nat} {T : u_T} {Cn : String} (hin : ∀ w ∈ u_ws Cn T N, w ∈ gtbl) (hc : vwCl[ci]? = some (Cn, T, N)) (hci : ci + 2 ≠ 99) (hsh : S.2.1 o = (ci + 2, N)) (hj : Nat.blt j N = true) (hfk : fk ci j = true) (ho' : S.2.2 o j = o') (hlk : Cond.fieldLink own i (T j).1 (T j).2.1 (T j).2.2.1 ∈ gtbl) (d : decode cc pc = .ok (.getfield i, 3))
    (kk : G γ A κ Q nL k n (pc + 3) L (.ref (ad o') :: st) (wld (ωG S γ ad) σ)) : G γ A κ Q nL k n pc L (.ref (ad o) :: st) (wld (ωG S γ ad) σ) := by
  have he : (wld (ωG S γ ad) σ)[o]? = some (ad o, .inr (ci, (List.range N).map (cellf (ωG S γ ad) σ o))) := by rw [wldG_at σ (hI.ltG hsh hci), celleG_o hsh]
  have hv : ((List.range N).map (cellf (ωG S γ ad) σ o))[j]? = some (.ref (ad o')) := by
    rw [List.getElem?_map, List.getElem?_range (Nat.le_of_ble_eq_true hj), ← ho', ← cellfG_r (γ := γ) (ad := ad) (σ := σ) hsh hfk]; rfl
  exact g_get C o hin he hc hj hlk hv d kk
theorem w_puti (C : Cg γ A κ rm cc nL own ret) (hI : Inj (ωG S γ ad)) {o j ci N i : Nat} {T : u_T} {Cn : String} {ty0 : Nat → FieldType} {ty : FieldType} {x : Int32} (hin : ∀ w ∈ u_ws Cn T N, w ∈ gtbl) (hty : ∀ k, k < N → parseFieldDescriptor (T k).2.2.1 = some (ty0 k)) (hnm : ∀ a, a < N → ∀ b, b < N → a ≠ b → (T a).2.1 ≠ (T b).2.1) (hc : vwCl[ci]? = some (Cn, T, N)) (hci : ci + 2 ≠ 99) (hsh : S.2.1 o = (ci + 2, N)) (hj : Nat.blt j N = true) (hfk : fk ci j = false) (hfin : (T j).2.2.2 = false) (hd : parseFieldDescriptor (T j).2.2.1 = some ty) (hn : narrow ty (.int x) = .int x) (hft : fits ty (.int x) = true) (hlk : Cond.fieldLink own i (T j).1 (T j).2.1 (T j).2.2.1 ∈ gtbl) (d : decode cc pc = .ok (.putfield i, 3))
    (kk : G γ A κ Q nL k n (pc + 3) L st (wld (ωG S γ ad) (up σ o j x))) : G γ A κ Q nL k n pc L (.int x :: .ref (ad o) :: st) (wld (ωG S γ ad) σ) := by
  have hlt := hI.ltG hsh hci
  have hj' : j < N := Nat.le_of_ble_eq_true hj
  have he : (wld (ωG S γ ad) σ)[o]? = some (ad o, .inr (ci, (List.range N).map (cellf (ωG S γ ad) σ o))) := by rw [wldG_at σ hlt, celleG_o hsh]
  have hs := set_cellf (ω := ωG S γ ad) (σ := σ) (x := x) hsh hj' hfk
  have hw := wld_set (ω := ωG S γ ad) (σ := σ) (k := j) (x := x) hlt (celleG_o (σ := up σ o j x) hsh)
  rw [← hs] at hw
  exact g_put C o hin hty hnm he hc hj hlk hfin hd hn hft (by rw [List.length_map, List.length_range]; exact hj) hw d kk
theorem w_iald (C : Cg γ A κ rm cc nL own ret) (hI : Inj (ωG S γ ad)) {o N : Nat} {i : Int32} (hsh : S.2.1 o = (0, N)) (hi : vp_in i N) (d : decode cc pc = .ok (.iaload, 1)) (kk : G γ A κ Q nL k n (pc + 1) L (.int (σ o i.toNatClampNeg) :: st) (wld (ωG S γ ad) σ)) : G γ A κ Q nL k n pc L (.int i :: .ref (ad o) :: st) (wld (ωG S γ ad) σ) := by
  have he : (wld (ωG S γ ad) σ)[o]? = some (ad o, .inl (gcI γ, N, .inl (σ o))) := by rw [wldG_at σ (hI.ltG hsh (by decide)), celleG_i hsh]
  exact g_iald C o he hi d kk
theorem w_iast (C : Cg γ A κ rm cc nL own ret) (hI : Inj (ωG S γ ad)) {o N : Nat} {i x : Int32} (hsh : S.2.1 o = (0, N)) (hi : vp_in i N) (d : decode cc pc = .ok (.iastore, 1)) (kk : G γ A κ Q nL k n (pc + 1) L st (wld (ωG S γ ad) (up σ o i.toNatClampNeg x))) : G γ A κ Q nL k n pc L (.int x :: .int i :: .ref (ad o) :: st) (wld (ωG S γ ad) σ) := by
  have hlt := hI.ltG hsh (by decide)
  have he : (wld (ωG S γ ad) σ)[o]? = some (ad o, .inl (gcI γ, N, .inl (σ o))) := by rw [wldG_at σ hlt, celleG_i hsh]
  have hw := wld_set (ω := ωG S γ ad) (σ := σ) (k := i.toNatClampNeg) (x := x) hlt (celleG_i (σ := up σ o i.toNatClampNeg x) hsh)
  rw [up_same] at hw
  exact g_iast C o he hi hw d kk
/-- a number pushed -/
def pshAt (cc : ByteArray) (pc : Nat) : Option (Int32 × Nat) := match decode cc pc with
  | .ok (.iconst x, 1) => some (Int32.ofInt x, 1)
  | .ok (.bipush x, 2) => some ((Int8.ofInt x).toInt32, 2)
  | .ok (.sipush x, 3) => some ((Int16.ofInt x).toInt32, 3)
  | _ => none
theorem g_psh (C : Cg γ A κ rm cc nL own ret) {v : Int32} {len : Nat} (h : pshAt cc pc = some (v, len)) (kk : G γ A κ Q nL k n (pc + len) L (.int v :: st) ws) : G γ A κ Q nL k n pc L st ws := by
  unfold pshAt at h
  split at h
  · next x e => cases h; exact g_iconst C e rfl kk
  · next x e => cases h; exact g_bipush C e rfl kk
  · next x e => cases h; exact g_sipush C e rfl kk
  · cases h
def filAt (cc : ByteArray) : List Int32 → Nat → Nat → Option Nat
  | [], _, pc => some pc
  | v :: r, i, pc => match pshAt cc (pc + 1) with
    | none => none
    | some (x, l1) => match pshAt cc (pc + 1 + l1) with
      | none => none
      | some (y, l2) => if (decode cc pc = .ok (.dup, 1) ∧ decode cc (pc + 1 + l1 + l2) = .ok (.iastore, 1)) ∧ x = nI i ∧ y = v then filAt cc r (i + 1) (pc + 1 + l1 + l2 + 1) else none
def fil (f : Nat → Int32) : Nat → List Int32 → Nat → Int32
  | _, [] => f
  | i, v :: r => fil (upd f i v) (i + 1) r
theorem nI_vp {i N : Nat} (h : i < N) (hN : N < 2 ^ 31) : vp_in (nI i) N := inb_in (inb_t h hN)
theorem set_last {w : va_W} {x y : Nat × va_E} : (w ++ [x]).set w.length y = w ++ [y] := by simp
theorem at_last {w : va_W} {x : Nat × va_E} : (w ++ [x])[w.length]? = some x := by simp
theorem g_fil (C : Cg γ A κ rm cc nL own ret) {q N : Nat} (hN : N < 2 ^ 31) : ∀ (vs : List Int32) (i pc pc' : Nat) (f : Nat → Int32), i + vs.length ≤ N → filAt cc vs i pc = some pc' →
    G γ A κ Q nL k n pc' L (.ref q :: st) (w0 ++ [(q, .inl (gcI γ, N, .inl (fil f i vs)))]) → G γ A κ Q nL k n pc L (.ref q :: st) (w0 ++ [(q, .inl (gcI γ, N, .inl f))])
  | [], i, pc, pc', f, _, h, kk => by
    cases h; exact kk
  | v :: r, i, pc, pc', f, hl, h, kk => by
    have hl : i + (r.length + 1) ≤ N := hl
    unfold filAt at h
    split at h
    · cases h
    · next x l1 e1 =>
      split at h
      · cases h
      · next y l2 e2 =>
        split at h
        · next hc =>
          obtain ⟨⟨d1, d2⟩, rfl, rfl⟩ := hc
          refine g_dup C d1 rfl ?_
          refine g_psh C e1 ?_
          refine g_psh C e2 ?_
          refine g_iast C w0.length at_last (nI_vp (by omega) hN) set_last d2 ?_
          rw [nI_c (by omega)]
          exact g_fil C hN r (i + 1) _ pc' _ (by omega) h kk
        · cases h
end WROWS
