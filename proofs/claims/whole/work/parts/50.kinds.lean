/-! kinds, quick: the values that fit -/
theorem RD.setI {n r w k : Nat} {x : Int32} {σ τ : M2} (h : RD n r w σ τ) (hk : k < r) (hx : ∃ z : Nat, z ≤ 5 ∧ x = nI z) : RD n r w (up σ 6 k x) (up τ 2 k x) := by
  obtain ⟨a1, a2, a3, a4, a5, a6, a7, a8, a9, a10, a11, a12⟩ := h
  refine ⟨a1, a2, a3, ?_, ?_, ?_, ?_, fun q hq => ?_, fun q hq => ?_, ?_, ?_, ?_⟩
  · rw [up_ne (by omega)]; exact a4
  · rw [up_ne (by omega)]; exact a5
  · rw [up_ne (by omega)]; exact a6
  · rw [up_ne (by omega)]; exact a7
  · have := a8 q hq
    unfold Kid at this ⊢
    rw [up_ne (by omega), up_ne (by omega), up_ne (by omega), up_ne (by omega), up_ne (by omega), up_ne (by omega)]
    exact this
  · have := a9 q hq
    unfold Rac at this ⊢
    simp only [up_at]
    by_cases hqk : q = k
    · subst hqk
      simp
      obtain ⟨b1, b2, b3, b4, b5, b6, b7, b8⟩ := this
      exact ⟨b2, b3, b4, hx, b6, b7, b8⟩
    · simp [hqk]
      exact this
  · rw [up_ne (by omega)]; exact a10
  · rw [up_ne (by omega)]; exact a11
  · exact a12.frx (funext fun q => up_ne (by omega)) (funext fun q => up_ne (by omega)) (fun q _ => up_ne (by omega)) (fun q _ => up_ne (by omega))
theorem RD.setM {n r w k : Nat} {x : Int32} {σ τ : M2} (h : RD n r w σ τ) (hk : k < r) (hx : ∃ z : Nat, z ≤ 9 ∧ x = nI z) : RD n r w (up σ 7 k x) (up τ 3 k x) := by
  obtain ⟨a1, a2, a3, a4, a5, a6, a7, a8, a9, a10, a11, a12⟩ := h
  refine ⟨a1, a2, a3, ?_, ?_, ?_, ?_, fun q hq => ?_, fun q hq => ?_, ?_, ?_, ?_⟩
  · rw [up_ne (by omega)]; exact a4
  · rw [up_ne (by omega)]; exact a5
  · rw [up_ne (by omega)]; exact a6
  · rw [up_ne (by omega)]; exact a7
  · have := a8 q hq
    unfold Kid at this ⊢
    rw [up_ne (by omega), up_ne (by omega), up_ne (by omega), up_ne (by omega), up_ne (by omega), up_ne (by omega)]
    exact this
  · have := a9 q hq
    unfold Rac at this ⊢
    simp only [up_at]
    by_cases hqk : q = k
    · subst hqk
      simp
      obtain ⟨b1, b2, b3, b4, b5, b6, b7, b8⟩ := this
      exact ⟨b1, b3, b4, b5, hx, b7, b8⟩
    · simp [hqk]
      exact this
  · rw [up_ne (by omega)]; exact a10
  · rw [up_ne (by omega)]; exact a11
  · exact a12.frx (funext fun q => up_ne (by omega)) (funext fun q => up_ne (by omega)) (fun q _ => up_ne (by omega)) (fun q _ => up_ne (by omega))
def fzo (f : Nat → Int32) : Nat → Int32
  | 0 => 0
  | m + 1 => fzo f m ||| (if f m = -1 then bt m else 0)
def fzc (f : Nat → Int32) : Nat → Int32
  | 0 => 0
  | m + 1 => fzc f m + (if f m = -1 then 1 else 0)
def fzl (f : Nat → Int32) : Nat → Int32
  | 0 => -1
  | m + 1 => if f m = -1 then (if fzl f m = -1 then nI m else fzl f m) else fzl f m
theorem desc_o (f : Nat → Int32) : ∀ m a b c, (desc f m a b c).1 = a ||| fzo f m
  | 0, a, b, c => (Int32.or_zero).symm
  | m + 1, a, b, c => by
    show (if f m = -1 then desc f m (a ||| bt m) (b + 1) (nI m) else desc f m a b c).1 = a ||| (fzo f m ||| (if f m = -1 then bt m else 0))
    by_cases e : f m = -1
    · rw [if_pos e, if_pos e, desc_o f m, Int32.or_assoc, Int32.or_comm (bt m)]
    · rw [if_neg e, if_neg e, desc_o f m, Int32.or_zero]
theorem desc_c (f : Nat → Int32) : ∀ m a b c, (desc f m a b c).2.1 = b + fzc f m
  | 0, a, b, c => (Int32.add_zero b).symm
  | m + 1, a, b, c => by
    show (if f m = -1 then desc f m (a ||| bt m) (b + 1) (nI m) else desc f m a b c).2.1 = b + (fzc f m + (if f m = -1 then 1 else 0))
    by_cases e : f m = -1
    · rw [if_pos e, if_pos e, desc_c f m, Int32.add_assoc, Int32.add_comm 1]
    · rw [if_neg e, if_neg e, desc_c f m, Int32.add_zero]
theorem desc_l (f : Nat → Int32) : ∀ m a b c, m < 2 ^ 31 → (desc f m a b c).2.2 = if fzl f m = -1 then c else fzl f m
  | 0, a, b, c, _ => by
    show c = if (-1 : Int32) = -1 then c else -1
    rw [if_pos rfl]
  | m + 1, a, b, c, h => by
    show (if f m = -1 then desc f m (a ||| bt m) (b + 1) (nI m) else desc f m a b c).2.2 = if (if f m = -1 then (if fzl f m = -1 then nI m else fzl f m) else fzl f m) = -1 then c else (if f m = -1 then (if fzl f m = -1 then nI m else fzl f m) else fzl f m)
    by_cases e : f m = -1
    · rw [if_pos e, if_pos e, desc_l f m _ _ _ (by omega)]
      by_cases e2 : fzl f m = -1
      · rw [if_pos e2, if_neg (nI_nm1 (by omega))]
      · rw [if_neg e2, if_neg e2]
    · rw [if_neg e, if_neg e, desc_l f m _ _ _ (by omega)]
theorem up_sm {σ : M2} {o k : Nat} {x : Int32} (h : σ o k = x) : up σ o k x = σ := by rw [← h]; exact up_id
theorem kinds_step {fu i b k M mo mk : Nat} {k72 : Int32 → Int32 → M2 → Option (Int32 × M2)} {c x8 : Int32} {s τ0 : M2} (hl : (c = 0 ∧ M = 6 ∧ mo = 2 ∧ b = mk) ∨ (c = 1 ∧ M = 10 ∧ mo = 3 ∧ b = mk) ∨ (c = 2 ∧ M = 4 ∧ mo = 4 ∧ 2 * b + 1 = mk)) (hb : b < 6) (hk : k < M) (hg : Fr (fun a e => xM a e ∨ (a = mo ∧ e = mk)) τ0 s) :
    (if c = 0 then F12_kinds_94 fu k72 (nI i) (nI b) c (τ0 2 b) (τ0 3 b) (τ0 4 (2 * b + 1)) x8 (nI k) (6 : Int32) (nI k) s else if c = (1 : Int32) then F12_kinds_94 fu k72 (nI i) (nI b) c (τ0 2 b) (τ0 3 b) (τ0 4 (2 * b + 1)) x8 (nI k) (10 : Int32) (nI k) s else F12_kinds_94 fu k72 (nI i) (nI b) c (τ0 2 b) (τ0 3 b) (τ0 4 (2 * b + 1)) x8 (nI k) (4 : Int32) (nI k) s) = bnd (F12_unlike fu (nI i) (up s mo mk (nI k))) (fun r2 s3 => k72 (x8 ||| (if r2 = -1 then bt k else 0)) (nI (k + 1)) s3) := by
  have hbt : bt k = (1 : Int32) <<< (nI k &&& 31) := by unfold bt; rw [if_neg (by omega)]
  have hfun : ∀ x : Option (Int32 × M2), bnd x (fun r2 s3 => if r2 = (-1 : Int32) then k72 (x8 ||| ((1 : Int32) <<< (nI k &&& 31))) (nI k + 1) s3 else k72 (x8 ||| (0 : Int32)) (nI k + 1) s3) = bnd x (fun r2 s3 => k72 (x8 ||| (if r2 = -1 then bt k else 0)) (nI (k + 1)) s3) := by
    intro x
    refine congrArg (bnd x) (funext fun r2 => funext fun s3 => ?_)
    rw [hbt, nI_1]
    by_cases e : r2 = -1
    · rw [if_pos e, if_pos e]
    · rw [if_neg e, if_neg e]
  rcases hl with ⟨rfl, rfl, rfl, rfl⟩ | ⟨rfl, rfl, rfl, rfl⟩ | ⟨rfl, rfl, rfl, rfl⟩
  · have e3 : s 3 b = τ0 3 b := hg 3 b (by rintro (z | z); exact xM_no (by omega) z; omega)
    have e4 : s 4 (2 * b + 1) = τ0 4 (2 * b + 1) := hg 4 _ (by rintro (z | z); exact xM_no (by omega) z; omega)
    have m1 : up (up s 2 b (nI k)) 3 b (τ0 3 b) = up s 2 b (nI k) := up_sm (by rw [up_ne (by omega)]; exact e3)
    have m2 : up (up s 2 b (nI k)) 4 (2 * b + 1) (τ0 4 (2 * b + 1)) = up s 2 b (nI k) := up_sm (by rw [up_ne (by omega)]; exact e4)
    rw [if_pos rfl]
    unfold F12_kinds_94 F12_kinds_113 F12_kinds_131 F12_kinds_153 F12_kinds_173
    rw [if_neg (show ¬ (6 : Int32) ≤ nI k from nI_ge (b := 6) hk (by omega)), if_pos rfl, gd_t (inb_t (N := 6) hb (by omega)), nI_c (by omega), if_neg (by decide), gd_t (inb_t (N := 6) hb (by omega)), if_neg (by decide), ix2, nI_1 (2 * b), gd_t (inb_t (N := 12) (by omega) (by omega)), nI_c (by omega), m1, m2]
    exact hfun _
  · have e2 : s 2 b = τ0 2 b := hg 2 b (by rintro (z | z); exact xM_no (by omega) z; omega)
    have e4 : s 4 (2 * b + 1) = τ0 4 (2 * b + 1) := hg 4 _ (by rintro (z | z); exact xM_no (by omega) z; omega)
    have m1 : up s 2 b (τ0 2 b) = s := up_sm e2
    have m2 : up (up s 3 b (nI k)) 4 (2 * b + 1) (τ0 4 (2 * b + 1)) = up s 3 b (nI k) := up_sm (by rw [up_ne (by omega)]; exact e4)
    rw [if_neg (by decide), if_pos rfl]
    unfold F12_kinds_94 F12_kinds_113 F12_kinds_131 F12_kinds_153 F12_kinds_173
    rw [if_neg (show ¬ (10 : Int32) ≤ nI k from nI_ge (b := 10) hk (by omega)), if_neg (by decide), gd_t (inb_t (N := 6) hb (by omega)), nI_c (by omega), m1, if_pos rfl, gd_t (inb_t (N := 6) hb (by omega)), if_neg (by decide), ix2, nI_1 (2 * b), gd_t (inb_t (N := 12) (by omega) (by omega)), nI_c (by omega), m2]
    exact hfun _
  · have e2 : s 2 b = τ0 2 b := hg 2 b (by rintro (z | z); exact xM_no (by omega) z; omega)
    have e3 : s 3 b = τ0 3 b := hg 3 b (by rintro (z | z); exact xM_no (by omega) z; omega)
    have m1 : up s 2 b (τ0 2 b) = s := up_sm e2
    have m2 : up s 3 b (τ0 3 b) = s := up_sm e3
    rw [if_neg (by decide), if_neg (by decide)]
    unfold F12_kinds_94 F12_kinds_113 F12_kinds_131 F12_kinds_153 F12_kinds_173
    rw [if_neg (show ¬ (4 : Int32) ≤ nI k from nI_ge (b := 4) hk (by omega)), if_neg (by decide), gd_t (inb_t (N := 6) hb (by omega)), nI_c (by omega), m1, if_neg (by decide), gd_t (inb_t (N := 6) hb (by omega)), m2, if_pos rfl, ix2, nI_1 (2 * b), gd_t (inb_t (N := 12) (by omega) (by omega)), nI_c (by omega)]
    exact hfun _
theorem kinds_end {fu i b M mo mk : Nat} {k72 : Int32 → Int32 → M2 → Option (Int32 × M2)} {c x8 : Int32} {s τ0 : M2} (hl : (c = 0 ∧ M = 6 ∧ mo = 2 ∧ b = mk) ∨ (c = 1 ∧ M = 10 ∧ mo = 3 ∧ b = mk) ∨ (c = 2 ∧ M = 4 ∧ mo = 4 ∧ 2 * b + 1 = mk)) (hb : b < 6) :
    (if c = 0 then F12_kinds_94 fu k72 (nI i) (nI b) c (τ0 2 b) (τ0 3 b) (τ0 4 (2 * b + 1)) x8 (nI M) (6 : Int32) (nI M) s else if c = (1 : Int32) then F12_kinds_94 fu k72 (nI i) (nI b) c (τ0 2 b) (τ0 3 b) (τ0 4 (2 * b + 1)) x8 (nI M) (10 : Int32) (nI M) s else F12_kinds_94 fu k72 (nI i) (nI b) c (τ0 2 b) (τ0 3 b) (τ0 4 (2 * b + 1)) x8 (nI M) (4 : Int32) (nI M) s) = some (x8, up (up (up s 2 b (τ0 2 b)) 3 b (τ0 3 b)) 4 (2 * b + 1) (τ0 4 (2 * b + 1))) := by
  have go : ∀ y : Int32, y ≤ nI M → F12_kinds_94 fu k72 (nI i) (nI b) c (τ0 2 b) (τ0 3 b) (τ0 4 (2 * b + 1)) x8 (nI M) y (nI M) s = some (x8, up (up (up s 2 b (τ0 2 b)) 3 b (τ0 3 b)) 4 (2 * b + 1) (τ0 4 (2 * b + 1))) := by
    intro y hy
    unfold F12_kinds_94
    rw [if_pos hy, gd_t (inb_t (N := 6) hb (by omega)), ix2, nI_1 (2 * b), gd_t (inb_t (N := 12) (by omega) (by omega)), nI_c (by omega), nI_c (by omega)]
  rcases hl with ⟨rfl, rfl, -, -⟩ | ⟨rfl, rfl, -, -⟩ | ⟨rfl, rfl, -, -⟩
  · rw [if_pos rfl]; exact go 6 (by decide)
  · rw [if_neg (by decide), if_pos rfl]; exact go 10 (by decide)
  · rw [if_neg (by decide), if_neg (by decide)]; exact go 4 (by decide)
theorem fr3 {b M mo mk : Nat} {c : Int32} {s τ0 : M2} (hl : (c = 0 ∧ M = 6 ∧ mo = 2 ∧ b = mk) ∨ (c = 1 ∧ M = 10 ∧ mo = 3 ∧ b = mk) ∨ (c = 2 ∧ M = 4 ∧ mo = 4 ∧ 2 * b + 1 = mk)) (hg : Fr (fun a e => xM a e ∨ (a = mo ∧ e = mk)) τ0 s) : Fr xM τ0 (up (up (up s 2 b (τ0 2 b)) 3 b (τ0 3 b)) 4 (2 * b + 1) (τ0 4 (2 * b + 1))) := fun o q hq => by
  by_cases e4 : o = 4 ∧ q = 2 * b + 1
  · rw [e4.1, e4.2, up_eq]
  rw [up_ne e4]
  by_cases e3 : o = 3 ∧ q = b
  · rw [e3.1, e3.2, up_eq]
  rw [up_ne e3]
  by_cases e2 : o = 2 ∧ q = b
  · rw [e2.1, e2.2, up_eq]
  rw [up_ne e2]
  exact hg o q (fun z => z.elim hq (fun z => by omega))
theorem kindsM {n r i b M mo mk o k : Nat} {c : Int32} {σ0 τ0 : M2} {fu fu' : Nat} (hl : (c = 0 ∧ M = 6 ∧ mo = 2 ∧ b = mk) ∨ (c = 1 ∧ M = 10 ∧ mo = 3 ∧ b = mk) ∨ (c = 2 ∧ M = 4 ∧ mo = 4 ∧ 2 * b + 1 = mk)) (hS : Srch n r i o k mo mk M σ0 τ0) (hb : b < 6) (hfu : 161 < fu) (hfu' : 161 < fu') :
    ∃ τ', F12_kinds_72 fu' (nI i) (nI b) c (τ0 2 b) (τ0 3 b) (τ0 4 (2 * b + 1)) 0 0 τ0 = some (fzo (fitv fu' i τ0 mo mk) M, τ') ∧ Fr xM τ0 τ' := by
  have hM : M ≤ 10 := by omega
  have key : ∃ p, F12_kinds_72 fu' (nI i) (nI b) c (τ0 2 b) (τ0 3 b) (τ0 4 (2 * b + 1)) 0 0 τ0 = some p ∧ (p.1 = fzo (fitv fu' i τ0 mo mk) M ∧ Fr xM τ0 p.2) := by
    unfold F12_kinds_72
    refine sl2 (R := Int32 × M2) (fun q x8 x9 s => ∃ k, q = M - k ∧ k ≤ M ∧ x8 = fzo (fitv fu' i τ0 mo mk) k ∧ x9 = nI k ∧ Fr (fun a e => xM a e ∨ (a = mo ∧ e = mk)) τ0 s) (fun p => p.1 = fzo (fitv fu' i τ0 mo mk) M ∧ Fr xM τ0 p.2) ?_ M fu' 0 0 τ0 (by omega) ⟨0, rfl, by omega, rfl, rfl, Fr.rf⟩
    intro k72 q x8 x9 s hI
    obtain ⟨v, rfl, hv, rfl, rfl, hg⟩ := hI
    by_cases hvM : v = M
    · left
      rw [hvM, kinds_end hl hb]
      exact ⟨_, rfl, rfl, fr3 hl hg⟩
    · right
      rw [kinds_step hl hb (by omega) hg]
      obtain ⟨σ1, τ1, u1, u2, u3, u4, u5⟩ := fit_both (σ := σ0) (τ := s) (v := v) (fu := fu) (fu' := fu') hS (by omega) Fr.rf hg hfu hfu'
      rw [u3, bnd_s]
      exact ⟨M - (v + 1), _, _, _, by omega, ⟨v + 1, rfl, by omega, rfl, rfl, u5⟩, rfl⟩
  obtain ⟨⟨v, τ'⟩, k1, k2, k3⟩ := key
  have k2 : v = _ := k2
  subst k2
  exact ⟨τ', k1, k3⟩
theorem m_kinds {fu fu' : Nat} (hfu : 161 < fu) (hfu' : 161 < fu') (a rc c : Int32) : Both (F11_kinds fu a rc c) (F12_kinds fu' a rc c) := by
  intro σ τ hR
  obtain ⟨n, r, t, w, hA⟩ := id hR
  obtain ⟨a1, a2, a3, a4, a5, a6, a7, a8, a9, a10, a11, a12⟩ := id hA.1
  have hmis := hA.2.2.2.2.2.2
  unfold F11_kinds F12_kinds
  rcases telling hA a with ⟨x, cc, b1, b2, b3, b4⟩ | ⟨i, hi, rfl, b1, b2, b3, b4⟩
  · rw [b1, bnd_s, b3, bnd_s, if_neg b4]
    cases x with
    | none =>
      show ∃ v σ' τ', bnd (F11_refusalOfTelling none σ) _ = _ ∧ _
      rw [b2, bnd_s]
      exact ⟨_, _, _, rfl, rfl, hR⟩
    | some q =>
      show ∃ v σ' τ', bnd (F11_refusalOfTelling (some q) σ) _ = _ ∧ _
      rw [b2, bnd_s, if_neg b4]
      exact ⟨_, _, _, rfl, rfl, hR⟩
  · rw [b1, bnd_s, b3, bnd_s, if_pos rfl]
    show ∃ v σ' τ', bnd (F11_refusalOfTelling (some (59 + 2 * i)) σ) _ = _ ∧ _
    rw [b2, bnd_s, if_pos rfl, isRaceC a6, isRaceM a7, bnd_s, bnd_s]
    by_cases c0 : wi rc 0 (nI r - 1) = 0
    · rw [if_pos c0, if_pos c0]; exact ⟨_, _, _, rfl, rfl, hR⟩
    rw [if_neg c0, if_neg c0, gwi, bnd_s]
    obtain ⟨b, hb, rfl⟩ := wi_n (by omega) c0
    have fin : ∀ {o mo mk M N : Nat} {k : Nat}, ((c = 0 ∧ M = 6 ∧ mo = 2 ∧ b = mk) ∨ (c = 1 ∧ M = 10 ∧ mo = 3 ∧ b = mk) ∨ (c = 2 ∧ M = 4 ∧ mo = 4 ∧ 2 * b + 1 = mk)) → csh o = (0, N) → k < N → N < 100 → (0 < o ∧ o < 12) → k = b → (∀ v, v < M → ∃ w, RD n r w (up σ o k (nI v)) (up τ mo mk (nI v))) → ∃ v σ' τ', bnd (F11_tryAll fu (59 + 2 * i) o (nI b) (nI (M - 1)) σ) (fun r17 s18 => F11_kinds_126 fu s18) = some (v, σ') ∧ F12_kinds_72 fu' (nI i) (nI b) c (τ 2 b) (τ 3 b) (τ 4 (2 * b + 1)) 0 0 τ = some (v, τ') ∧ R σ' τ' := by
      intro o mo mk M N k hl ho hk hN ho12 hkb hset
      subst hkb
      have hS : Srch n r i o k mo mk M σ τ := ⟨hi, hset, b4, hmis.1, hmis.2.1, ho12, by omega⟩
      obtain ⟨τ', u1, u2⟩ := kindsM (fu := fu) (fu' := fu') hl hS (by omega) hfu hfu'
      obtain ⟨σ', v1, v2, v3⟩ := tryAll_eq (fu := fu) (fu' := fu') hS ho hk hN (by omega) (by omega) hfu hfu'
      have e : σ' 0 14 = fzo (fitv fu' i τ mo mk) M := by
        have q := congrArg Prod.fst v2
        rw [desc_o, Int32.zero_or] at q
        exact q
      rw [v1, bnd_s, u1]
      unfold F11_kinds_126
      exact ⟨_, _, _, rfl, by rw [e], n, r, t, w, hA.fr v3 u2⟩
    by_cases c1 : wi c 0 2 = 0
    · rw [if_pos c1]
      have n0 : ¬ c = 0 := fun e => by rw [e] at c1; exact absurd c1 (by decide)
      have n1 : ¬ c = 1 := fun e => by rw [e] at c1; exact absurd c1 (by decide)
      have n2 : ¬ c = 2 := fun e => by rw [e] at c1; exact absurd c1 (by decide)
      rw [if_neg n0, if_neg n1, if_neg n2]
      exact ⟨_, _, _, rfl, rfl, hR⟩
    rw [if_neg c1, gd_t (inb_t (N := 6) (by omega) (by omega)), ix2, nI_1 (2 * b), gd_t (inb_t (N := 12) (by omega) (by omega)), nI_c (by omega), nI_c (by omega)]
    obtain ⟨z, hz, rfl⟩ := wi_m (n := 2) (by omega) c1
    rcases (show z = 0 ∨ z = 1 ∨ z = 2 by omega) with rfl | rfl | rfl
    · rw [if_pos (by decide)]
      exact fin (o := 6) (M := 6) (N := 6) (k := b) (Or.inl ⟨rfl, rfl, rfl, rfl⟩) (by decide) (by omega) (by omega) (by omega) rfl (fun v hv => ⟨w, hA.1.setI hb ⟨v, by omega, rfl⟩⟩)
    · rw [if_neg (by decide), if_pos (by decide)]
      exact fin (o := 7) (M := 10) (N := 6) (k := b) (Or.inr (Or.inl ⟨rfl, rfl, rfl, rfl⟩)) (by decide) (by omega) (by omega) (by omega) rfl (fun v hv => ⟨w, hA.1.setM hb ⟨v, by omega, rfl⟩⟩)
    · rw [if_neg (by decide), if_neg (by decide), if_pos (by decide)]
      exact fin (o := 9) (M := 4) (N := 6) (k := b) (Or.inr (Or.inr ⟨rfl, rfl, rfl, rfl⟩)) (by decide) (by omega) (by omega) (by omega) rfl (fun v hv => ⟨w, hA.1.setB hb ⟨v, by omega, rfl⟩⟩)
