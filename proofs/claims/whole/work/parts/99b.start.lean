/-! the law, from its entry -/
def fsM : List Value := [.int 0, .null, .int 0, .null, .null, .null, .null, .int 0, .null, .null, .int 0, .int 0, .int 0, .null, .null, .null, .null, .null, .null, .int 0, .int 0, .int 0, .int 0, .null, .null, .int 0, .int 0, .int 0, .null, .null, .null, .null, .null, .int 0, .int 0, .int 0, .int 0, .null, .null, .int 0, .int 0, .int 0, .int 0, .int 0, .null]
set_option maxHeartbeats 4000000 in
set_option maxRecDepth 100000 in
theorem law_run {γ : GT} {κ : KG} {b Ln : Nat} {xs : Nat → Int32} {Q : State → Prop} (hL : Ln ≤ 3584) (C : Cg γ (fun q : Nat => (ks κ).heap.size ≤ q) κ room_1 cL_law 4 "EveryoneWinsLaw" (some .boolean)) (hX : va_X b Ln xs (ks κ) (ks κ).heap) (hbl : b < (ks κ).heap.size) (hend : ∀ (L : List (Nat × Value)) (ws : va_W), G γ (fun q : Nat => (ks κ).heap.size ≤ q) κ Q 4 101 4409 1325 L [] ws) : G γ (fun q : Nat => (ks κ).heap.size ≤ q) κ Q 4 0 0 0 [(0, .ref b)] [] [] := by
  obtain ⟨σ1, τ1, r1, r2, hR⟩ := start_R
  refine g_new C (ty0 := tyX11) (fs := [.null, .null, .null, .null, .null, .null, .null, .null, .null, .null, .null, .null, .int 0, .int 0, .int 0, .int 0, .int 0]) inT11 tyX11_ok wd_93 wd_94 wd_73 (ci := 10) rfl (by decide) (by exact Nat.le_of_ble_eq_true rfl) (by exact Nat.le_of_ble_eq_true rfl) dL_law_0 (fun q0 => ?_)
  refine g_dup C dL_law_3 rfl ?_
  refine g_callI (wr := []) (wc := [(q0, .inr (10, [.null, .null, .null, .null, .null, .null, .null, .null, .null, .null, .null, .null, .int 0, .int 0, .int 0, .int 0, .int 0]))]) (b := q0) (As := []) C ib_X11 (k11_init _ r1 q0) rfl ⟨(by exact Nat.le_of_ble_eq_true rfl), (by exact Nat.le_of_ble_eq_true rfl)⟩ wd_95 rfl (by exact Nat.le_of_ble_eq_true rfl) (by exact Nat.le_of_ble_eq_true rfl) dL_law_4 (fun s0 => ?_)
  refine g_w (ws' := wld (ωG SC γ (adz q0 s0)) σ1) rfl ?_
  refine g_astore_n C dL_law_7 (i := 1) rfl rfl rfl ?_
  refine g_new C (ty0 := tyX12) (fs := fsM) inT12 tyX12_ok wd_1046 wd_1047 wd_88 (ci := 11) rfl (by decide) (by exact Nat.le_of_ble_eq_true rfl) (by exact Nat.le_of_ble_eq_true rfl) dL_law_8 (fun q1 => ?_)
  refine g_dup C dL_law_11 rfl ?_
  refine g_callI (wr := wld (ωG SC γ (adz q0 s0)) σ1) (wc := [(q1, .inr (11, fsM))]) (b := q1) (As := []) C ib_X12 (k12_init _ r2 q1) rfl ⟨(by exact Nat.le_of_ble_eq_true rfl), (by exact Nat.le_of_ble_eq_true rfl)⟩ wd_1048 rfl (by exact Nat.le_of_ble_eq_true rfl) (by exact Nat.le_of_ble_eq_true rfl) dL_law_12 (fun s1 => ?_)
  refine g_swap ?_
  refine g_astore_n C dL_law_15 (i := 2) rfl rfl rfl ?_
  refine g_iconst C (v := 0) dL_law_16 (by decide) ?_
  refine g_istore_n C dL_law_17 (i := 3) rfl rfl rfl ?_
  intro H locs ls hP hD hS hl
  exact law_loop (adc := adz q0 s0) (adm := adz q1 s1) ⟨C, inj_of sc99 hD.r, inj_of sm99 hD.l, hX, hbl, Nat.not_le.mpr hbl, hL, (by exact Nat.le_of_ble_eq_true rfl), (by exact Nat.le_of_ble_eq_true rfl)⟩ (fun i σ τ => hend _ _) (Ln + 1) 0 σ1 τ1 hR (Nat.zero_le _) (by omega) H locs ls hP hD hS hl
set_option maxHeartbeats 4000000 in
set_option maxRecDepth 100000 in
theorem whole_start {p : Program} {e : Jvm.Env} {s : State} {m : MethodId} {below : List Frame} {meth : Method} {c : Code} (l : Launch) (hflags : l.flags = flags0) {b L : Nat} {xs : Nat → Int32} (hL : L ≤ 3584) (C0 : lw_At p s m meth c b L xs) : W p l e room_1 s m #[Value.ref b] below meth c s.heap [] 0 0 (lw_Z below #[Value.ref b] s) (entryFrame m ([Value.ref b] : List Value).toArray 4) := by
  obtain ⟨γ, C⟩ := law_ctx (e := e) (below := below) l C0
  obtain ⟨hx, hb, hr, hml, hown, hts, hX, hbl, hlocks, hgv⟩ := id C0
  have hl := lv_entry ([.ref b]) (n := 4) (Nat.le_of_ble_eq_true rfl)
  rw [lg_entry_eq]
  generalize (lg_sl ([.ref b]) ++ List.replicate (4 - (lg_sl ([.ref b])).length) Slot.unset).toArray = ls at hl ⊢
  have hl : lv_has ls 4 [(0, .ref b)] := hl
  have hend : ∀ (L : List (Nat × Value)) (ws : va_W), G γ (fun q : Nat => s.heap.size ≤ q) (p, l, e, room_1, s, m, #[Value.ref b], below, meth, c) (lw_Z below #[Value.ref b] s) 4 101 4409 1325 L [] ws := fun L ws => by
    refine g_iconst C (v := 1) dL_law_1325 (by decide) ?_
    intro H locs ls hP hD hS hl
    refine va_forget (fun q hq => hS.2.2 q hq) ?_
    refine W.widen (k := 600000) (n := 7302249) (Nat.le_of_ble_eq_true rfl) (Nat.le_of_ble_eq_true rfl) ?_
    exact lw_ret hx hb hr hlocks dL_law_1326
  have key := law_run (κ := (p, l, e, room_1, s, m, #[Value.ref b], below, meth, c)) (Q := lw_Z below #[Value.ref b] s) hL C hX hbl hend
  exact key s.heap [] ls (fun k q h => by simp at h) ⟨fun i j p q h => by simp at h, fun k q h => by simp at h⟩ va_S.rf hl
