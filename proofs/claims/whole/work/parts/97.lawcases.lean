/-! the law: its cases -/
set_option maxRecDepth 100000
section LWC
variable {γ : GT} {A : Nat → Prop} {κ : KG} {Q : State → Prop} {k n b Ln i : Nat} {xs : Nat → Int32} {adc adm : Nat → Nat} {σ τ : M2}
theorem law_count (H : LwH γ A κ k n b Ln xs adc adm) (hi : i + 7 ≤ Ln) (hR : R σ τ) (kk : ∀ σ' τ', R σ' τ' → G γ A κ Q 4 k n 1319 (Lc b adc adm i) [] (W2 γ adc adm σ' τ')) : G γ A κ Q 4 k n 184 (Lc b adc adm i) [] (W2 γ adc adm σ τ) := by
  obtain ⟨v, σ', τ', e1, e2, hR'⟩ := m_count (xs (i + 1)) σ τ hR
  refine g_aload_n H.1 2 dL_law_184 rfl ?_
  refine g_arg H (q := 1) (by omega) (by decide) dL_law_185 dL_law_186 dL_law_187 dL_law_188 dL_law_189 ?_
  refine g_cC H (v := some (.int v)) (n' := 1) (As := [.int (xs (i + 1))]) vb_X11_count (c11_count _ e1) rfl ⟨Nat.le_of_ble_eq_true rfl, Nat.le_of_ble_eq_true rfl⟩ wd_630 dL_law_190 ?_
  refine g_aload_n H.1 1 dL_law_193 rfl ?_
  refine g_arg H (q := 1) (by omega) (by decide) dL_law_194 dL_law_195 dL_law_196 dL_law_197 dL_law_198 ?_
  refine g_cM H (v := some (.int v)) (n' := 1) (As := [.int (xs (i + 1))]) vb_X12_count (c12_count _ e2) rfl rfl ⟨Nat.le_of_ble_eq_true rfl, Nat.le_of_ble_eq_true rfl⟩ wd_1235 dL_law_199 ?_
  exact g_icmp_eq H.1 dL_law_202 (tgt := 1319) rfl (fun _ => kk σ' τ' hR') (fun h => absurd rfl h)
theorem law_child (H : LwH γ A κ k n b Ln xs adc adm) (hi : i + 7 ≤ Ln) (hR : R σ τ) (kk : ∀ σ' τ', R σ' τ' → G γ A κ Q 4 k n 1319 (Lc b adc adm i) [] (W2 γ adc adm σ' τ')) : G γ A κ Q 4 k n 207 (Lc b adc adm i) [] (W2 γ adc adm σ τ) := by
  obtain ⟨v, σ', τ', e1, e2, hR'⟩ := m_child (xs (i + 1)) σ τ hR
  refine g_aload_n H.1 2 dL_law_207 rfl ?_
  refine g_arg H (q := 1) (by omega) (by decide) dL_law_208 dL_law_209 dL_law_210 dL_law_211 dL_law_212 ?_
  refine g_cC H (v := some (.int v)) (n' := 3) (As := [.int (xs (i + 1))]) vb_X11_child (c11_child _ e1) rfl ⟨Nat.le_of_ble_eq_true rfl, Nat.le_of_ble_eq_true rfl⟩ wd_634 dL_law_213 ?_
  refine g_aload_n H.1 1 dL_law_216 rfl ?_
  refine g_arg H (q := 1) (by omega) (by decide) dL_law_217 dL_law_218 dL_law_219 dL_law_220 dL_law_221 ?_
  refine g_cM H (v := some (.int v)) (n' := 2) (As := [.int (xs (i + 1))]) vb_X12_child (c12_child _ e2) rfl rfl ⟨Nat.le_of_ble_eq_true rfl, Nat.le_of_ble_eq_true rfl⟩ wd_1239 dL_law_222 ?_
  exact g_icmp_eq H.1 dL_law_225 (tgt := 1319) rfl (fun _ => kk σ' τ' hR') (fun h => absurd rfl h)
theorem law_put (H : LwH γ A κ k n b Ln xs adc adm) (hi : i + 7 ≤ Ln) (hR : R σ τ) (kk : ∀ σ' τ', R σ' τ' → G γ A κ Q 4 k n 1319 (Lc b adc adm i) [] (W2 γ adc adm σ' τ')) : G γ A κ Q 4 k n 230 (Lc b adc adm i) [] (W2 γ adc adm σ τ) := by
  obtain ⟨v, σ', τ', e1, e2, hR'⟩ := m_put (xs (i + 1)) (xs (i + 2)) (xs (i + 3)) σ τ hR
  refine g_aload_n H.1 2 dL_law_230 rfl ?_
  refine g_arg H (q := 1) (by omega) (by decide) dL_law_231 dL_law_232 dL_law_233 dL_law_234 dL_law_235 ?_
  refine g_arg H (q := 2) (by omega) (by decide) dL_law_236 dL_law_237 dL_law_238 dL_law_239 dL_law_240 ?_
  refine g_arg H (q := 3) (by omega) (by decide) dL_law_241 dL_law_242 dL_law_243 dL_law_244 dL_law_245 ?_
  refine g_cC H (v := some (.int v)) (n' := 3) (As := [.int (xs (i + 1)), .int (xs (i + 2)), .int (xs (i + 3))]) vb_X11_put (c11_put _ e1) rfl ⟨Nat.le_of_ble_eq_true rfl, Nat.le_of_ble_eq_true rfl⟩ wd_646 dL_law_246 ?_
  refine g_aload_n H.1 1 dL_law_249 rfl ?_
  refine g_arg H (q := 1) (by omega) (by decide) dL_law_250 dL_law_251 dL_law_252 dL_law_253 dL_law_254 ?_
  refine g_arg H (q := 2) (by omega) (by decide) dL_law_255 dL_law_256 dL_law_257 dL_law_258 dL_law_259 ?_
  refine g_arg H (q := 3) (by omega) (by decide) dL_law_260 dL_law_261 dL_law_262 dL_law_263 dL_law_264 ?_
  refine g_cM H (v := some (.int v)) (n' := 3) (As := [.int (xs (i + 1)), .int (xs (i + 2)), .int (xs (i + 3))]) vb_X12_put (c12_put _ e2) rfl rfl ⟨Nat.le_of_ble_eq_true rfl, Nat.le_of_ble_eq_true rfl⟩ wd_1243 dL_law_265 ?_
  exact g_icmp_eq H.1 dL_law_268 (tgt := 1319) rfl (fun _ => kk σ' τ' hR') (fun h => absurd rfl h)
theorem law_told (H : LwH γ A κ k n b Ln xs adc adm) (hi : i + 7 ≤ Ln) (hR : R σ τ) (kk : ∀ σ' τ', R σ' τ' → G γ A κ Q 4 k n 1319 (Lc b adc adm i) [] (W2 γ adc adm σ' τ')) : G γ A κ Q 4 k n 273 (Lc b adc adm i) [] (W2 γ adc adm σ τ) := by
  obtain ⟨v, σ', τ', e1, e2, hR'⟩ := m_told (xs (i + 1)) (xs (i + 2)) σ τ hR
  refine g_aload_n H.1 2 dL_law_273 rfl ?_
  refine g_arg H (q := 1) (by omega) (by decide) dL_law_274 dL_law_275 dL_law_276 dL_law_277 dL_law_278 ?_
  refine g_arg H (q := 2) (by omega) (by decide) dL_law_279 dL_law_280 dL_law_281 dL_law_282 dL_law_283 ?_
  refine g_cC H (v := some (.int v)) (n' := 3) (As := [.int (xs (i + 1)), .int (xs (i + 2))]) vb_X11_told (c11_told _ e1) rfl ⟨Nat.le_of_ble_eq_true rfl, Nat.le_of_ble_eq_true rfl⟩ wd_663 dL_law_284 ?_
  refine g_aload_n H.1 1 dL_law_287 rfl ?_
  refine g_arg H (q := 1) (by omega) (by decide) dL_law_288 dL_law_289 dL_law_290 dL_law_291 dL_law_292 ?_
  refine g_arg H (q := 2) (by omega) (by decide) dL_law_293 dL_law_294 dL_law_295 dL_law_296 dL_law_297 ?_
  refine g_cM H (v := some (.int v)) (n' := 3) (As := [.int (xs (i + 1)), .int (xs (i + 2))]) vb_X12_told (c12_told _ e2) rfl rfl ⟨Nat.le_of_ble_eq_true rfl, Nat.le_of_ble_eq_true rfl⟩ wd_1251 dL_law_298 ?_
  exact g_icmp_eq H.1 dL_law_301 (tgt := 1319) rfl (fun _ => kk σ' τ' hR') (fun h => absurd rfl h)
theorem law_feed (H : LwH γ A κ k n b Ln xs adc adm) (hi : i + 7 ≤ Ln) (hR : R σ τ) (kk : ∀ σ' τ', R σ' τ' → G γ A κ Q 4 k n 1319 (Lc b adc adm i) [] (W2 γ adc adm σ' τ')) : G γ A κ Q 4 k n 306 (Lc b adc adm i) [] (W2 γ adc adm σ τ) := by
  obtain ⟨v, σ', τ', e1, e2, hR'⟩ := m_feed (fu := 50000) (fu' := 50000) (by decide) (by decide) (xs (i + 1)) (xs (i + 2)) (xs (i + 3)) (xs (i + 4)) (xs (i + 5)) (xs (i + 6)) σ τ hR
  refine g_aload_n H.1 2 dL_law_306 rfl ?_
  refine g_arg H (q := 1) (by omega) (by decide) dL_law_307 dL_law_308 dL_law_309 dL_law_310 dL_law_311 ?_
  refine g_arg H (q := 2) (by omega) (by decide) dL_law_312 dL_law_313 dL_law_314 dL_law_315 dL_law_316 ?_
  refine g_arg H (q := 3) (by omega) (by decide) dL_law_317 dL_law_318 dL_law_319 dL_law_320 dL_law_321 ?_
  refine g_arg H (q := 4) (by omega) (by decide) dL_law_322 dL_law_323 dL_law_324 dL_law_325 dL_law_326 ?_
  refine g_arg H (q := 5) (by omega) (by decide) dL_law_327 dL_law_328 dL_law_329 dL_law_330 dL_law_331 ?_
  refine g_argB H (q := 6) (by omega) (by decide) dL_law_332 dL_law_333 dL_law_334 dL_law_336 dL_law_337 ?_
  refine g_cC H (v := some (.int v)) (n' := 3) (As := [.int (xs (i + 1)), .int (xs (i + 2)), .int (xs (i + 3)), .int (xs (i + 4)), .int (xs (i + 5)), .int (xs (i + 6))]) vb_X11_feed (c11_feed _ e1) rfl ⟨Nat.le_of_ble_eq_true rfl, Nat.le_of_ble_eq_true rfl⟩ wd_667 dL_law_338 ?_
  refine g_aload_n H.1 1 dL_law_341 rfl ?_
  refine g_arg H (q := 1) (by omega) (by decide) dL_law_342 dL_law_343 dL_law_344 dL_law_345 dL_law_346 ?_
  refine g_arg H (q := 2) (by omega) (by decide) dL_law_347 dL_law_348 dL_law_349 dL_law_350 dL_law_351 ?_
  refine g_arg H (q := 3) (by omega) (by decide) dL_law_352 dL_law_353 dL_law_354 dL_law_355 dL_law_356 ?_
  refine g_arg H (q := 4) (by omega) (by decide) dL_law_357 dL_law_358 dL_law_359 dL_law_360 dL_law_361 ?_
  refine g_arg H (q := 5) (by omega) (by decide) dL_law_362 dL_law_363 dL_law_364 dL_law_365 dL_law_366 ?_
  refine g_argB H (q := 6) (by omega) (by decide) dL_law_367 dL_law_368 dL_law_369 dL_law_371 dL_law_372 ?_
  refine g_cM H (v := some (.int v)) (n' := 3) (As := [.int (xs (i + 1)), .int (xs (i + 2)), .int (xs (i + 3)), .int (xs (i + 4)), .int (xs (i + 5)), .int (xs (i + 6))]) vb_X12_feed (c12_feed _ e2) rfl rfl ⟨Nat.le_of_ble_eq_true rfl, Nat.le_of_ble_eq_true rfl⟩ wd_1255 dL_law_373 ?_
  exact g_icmp_eq H.1 dL_law_376 (tgt := 1319) rfl (fun _ => kk σ' τ' hR') (fun h => absurd rfl h)
theorem law_text (H : LwH γ A κ k n b Ln xs adc adm) (hi : i + 7 ≤ Ln) (hR : R σ τ) (kk : ∀ σ' τ', R σ' τ' → G γ A κ Q 4 k n 1319 (Lc b adc adm i) [] (W2 γ adc adm σ' τ')) : G γ A κ Q 4 k n 381 (Lc b adc adm i) [] (W2 γ adc adm σ τ) := by
  obtain ⟨v, σ', τ', e1, e2, hR'⟩ := m_text (fl := 50000) (fu := 50000) (by decide) (by decide) σ τ hR
  refine g_aload_n H.1 2 dL_law_381 rfl ?_
  refine g_cC H (v := some (.int v)) (n' := 87) (As := []) vb_X11_text (c11_text _ e1) rfl ⟨Nat.le_of_ble_eq_true rfl, Nat.le_of_ble_eq_true rfl⟩ wd_674 dL_law_382 ?_
  refine g_aload_n H.1 1 dL_law_385 rfl ?_
  refine g_cM H (v := some (.int v)) (n' := 5) (As := []) vb_X12_text (c12_text _ e2) rfl rfl ⟨Nat.le_of_ble_eq_true rfl, Nat.le_of_ble_eq_true rfl⟩ wd_1262 dL_law_386 ?_
  exact g_icmp_eq H.1 dL_law_389 (tgt := 1319) rfl (fun _ => kk σ' τ' hR') (fun h => absurd rfl h)
theorem law_force (H : LwH γ A κ k n b Ln xs adc adm) (hi : i + 7 ≤ Ln) (hR : R σ τ) (kk : ∀ σ' τ', R σ' τ' → G γ A κ Q 4 k n 1319 (Lc b adc adm i) [] (W2 γ adc adm σ' τ')) : G γ A κ Q 4 k n 394 (Lc b adc adm i) [] (W2 γ adc adm σ τ) := by
  obtain ⟨v, σ', τ', e1, e2, hR'⟩ := m_force (xs (i + 1)) σ τ hR
  refine g_aload_n H.1 2 dL_law_394 rfl ?_
  refine g_arg H (q := 1) (by omega) (by decide) dL_law_395 dL_law_396 dL_law_397 dL_law_398 dL_law_399 ?_
  refine g_cC H (v := some (.int v)) (n' := 2) (As := [.int (xs (i + 1))]) vb_X11_force (c11_force _ e1) rfl ⟨Nat.le_of_ble_eq_true rfl, Nat.le_of_ble_eq_true rfl⟩ wd_678 dL_law_400 ?_
  refine g_aload_n H.1 1 dL_law_403 rfl ?_
  refine g_arg H (q := 1) (by omega) (by decide) dL_law_404 dL_law_405 dL_law_406 dL_law_407 dL_law_408 ?_
  refine g_cM H (v := some (.int v)) (n' := 2) (As := [.int (xs (i + 1))]) vb_X12_force (c12_force _ e2) rfl rfl ⟨Nat.le_of_ble_eq_true rfl, Nat.le_of_ble_eq_true rfl⟩ wd_1263 dL_law_409 ?_
  exact g_icmp_eq H.1 dL_law_412 (tgt := 1319) rfl (fun _ => kk σ' τ' hR') (fun h => absurd rfl h)
theorem law_asks (H : LwH γ A κ k n b Ln xs adc adm) (hi : i + 7 ≤ Ln) (hR : R σ τ) (kk : ∀ σ' τ', R σ' τ' → G γ A κ Q 4 k n 1319 (Lc b adc adm i) [] (W2 γ adc adm σ' τ')) : G γ A κ Q 4 k n 417 (Lc b adc adm i) [] (W2 γ adc adm σ τ) := by
  obtain ⟨v, σ', τ', e1, e2, hR'⟩ := m_asks (fu := 50000) (fu' := 50000) (by decide) (by decide) (xs (i + 1)) (xs (i + 2)) (xs (i + 3)) (xs (i + 4)) σ τ hR
  refine g_aload_n H.1 2 dL_law_417 rfl ?_
  refine g_arg H (q := 1) (by omega) (by decide) dL_law_418 dL_law_419 dL_law_420 dL_law_421 dL_law_422 ?_
  refine g_arg H (q := 2) (by omega) (by decide) dL_law_423 dL_law_424 dL_law_425 dL_law_426 dL_law_427 ?_
  refine g_arg H (q := 3) (by omega) (by decide) dL_law_428 dL_law_429 dL_law_430 dL_law_431 dL_law_432 ?_
  refine g_arg H (q := 4) (by omega) (by decide) dL_law_433 dL_law_434 dL_law_435 dL_law_436 dL_law_437 ?_
  refine g_cC H (v := some (.int v)) (n' := 4) (As := [.int (xs (i + 1)), .int (xs (i + 2)), .int (xs (i + 3)), .int (xs (i + 4))]) vb_X11_asks (c11_asks _ e1) rfl ⟨Nat.le_of_ble_eq_true rfl, Nat.le_of_ble_eq_true rfl⟩ wd_682 dL_law_438 ?_
  refine g_aload_n H.1 1 dL_law_441 rfl ?_
  refine g_arg H (q := 1) (by omega) (by decide) dL_law_442 dL_law_443 dL_law_444 dL_law_445 dL_law_446 ?_
  refine g_arg H (q := 2) (by omega) (by decide) dL_law_447 dL_law_448 dL_law_449 dL_law_450 dL_law_451 ?_
  refine g_arg H (q := 3) (by omega) (by decide) dL_law_452 dL_law_453 dL_law_454 dL_law_455 dL_law_456 ?_
  refine g_arg H (q := 4) (by omega) (by decide) dL_law_457 dL_law_458 dL_law_459 dL_law_460 dL_law_461 ?_
  refine g_cM H (v := some (.int v)) (n' := 4) (As := [.int (xs (i + 1)), .int (xs (i + 2)), .int (xs (i + 3)), .int (xs (i + 4))]) vb_X12_asks (c12_asks _ e2) rfl rfl ⟨Nat.le_of_ble_eq_true rfl, Nat.le_of_ble_eq_true rfl⟩ wd_1267 dL_law_462 ?_
  exact g_icmp_eq H.1 dL_law_465 (tgt := 1319) rfl (fun _ => kk σ' τ' hR') (fun h => absurd rfl h)
theorem law_race (H : LwH γ A κ k n b Ln xs adc adm) (hi : i + 7 ≤ Ln) (hR : R σ τ) (kk : ∀ σ' τ', R σ' τ' → G γ A κ Q 4 k n 1319 (Lc b adc adm i) [] (W2 γ adc adm σ' τ')) : G γ A κ Q 4 k n 470 (Lc b adc adm i) [] (W2 γ adc adm σ τ) := by
  obtain ⟨v, σ', τ', e1, e2, hR'⟩ := m_race (xs (i + 1)) (xs (i + 2)) σ τ hR
  refine g_aload_n H.1 2 dL_law_470 rfl ?_
  refine g_arg H (q := 1) (by omega) (by decide) dL_law_471 dL_law_472 dL_law_473 dL_law_474 dL_law_475 ?_
  refine g_arg H (q := 2) (by omega) (by decide) dL_law_476 dL_law_477 dL_law_478 dL_law_479 dL_law_480 ?_
  refine g_cC H (v := some (.int v)) (n' := 3) (As := [.int (xs (i + 1)), .int (xs (i + 2))]) vb_X11_race (c11_race _ e1) rfl ⟨Nat.le_of_ble_eq_true rfl, Nat.le_of_ble_eq_true rfl⟩ wd_733 dL_law_481 ?_
  refine g_aload_n H.1 1 dL_law_484 rfl ?_
  refine g_arg H (q := 1) (by omega) (by decide) dL_law_485 dL_law_486 dL_law_487 dL_law_488 dL_law_489 ?_
  refine g_arg H (q := 2) (by omega) (by decide) dL_law_490 dL_law_491 dL_law_492 dL_law_493 dL_law_494 ?_
  refine g_cM H (v := some (.int v)) (n' := 3) (As := [.int (xs (i + 1)), .int (xs (i + 2))]) vb_X12_race (c12_race _ e2) rfl rfl ⟨Nat.le_of_ble_eq_true rfl, Nat.le_of_ble_eq_true rfl⟩ wd_1292 dL_law_495 ?_
  exact g_icmp_eq H.1 dL_law_498 (tgt := 1319) rfl (fun _ => kk σ' τ' hR') (fun h => absurd rfl h)
theorem law_enter (H : LwH γ A κ k n b Ln xs adc adm) (hi : i + 7 ≤ Ln) (hR : R σ τ) (kk : ∀ σ' τ', R σ' τ' → G γ A κ Q 4 k n 1319 (Lc b adc adm i) [] (W2 γ adc adm σ' τ')) : G γ A κ Q 4 k n 503 (Lc b adc adm i) [] (W2 γ adc adm σ τ) := by
  obtain ⟨v, σ', τ', e1, e2, hR'⟩ := m_enter (xs (i + 1)) (xs (i + 2)) (xs (i + 3)) σ τ hR
  refine g_aload_n H.1 2 dL_law_503 rfl ?_
  refine g_arg H (q := 1) (by omega) (by decide) dL_law_504 dL_law_505 dL_law_506 dL_law_507 dL_law_508 ?_
  refine g_arg H (q := 2) (by omega) (by decide) dL_law_509 dL_law_510 dL_law_511 dL_law_512 dL_law_513 ?_
  refine g_arg H (q := 3) (by omega) (by decide) dL_law_514 dL_law_515 dL_law_516 dL_law_517 dL_law_518 ?_
  refine g_cC H (v := some (.int v)) (n' := 3) (As := [.int (xs (i + 1)), .int (xs (i + 2)), .int (xs (i + 3))]) vb_X11_enter (c11_enter _ e1) rfl ⟨Nat.le_of_ble_eq_true rfl, Nat.le_of_ble_eq_true rfl⟩ wd_746 dL_law_519 ?_
  refine g_aload_n H.1 1 dL_law_522 rfl ?_
  refine g_arg H (q := 1) (by omega) (by decide) dL_law_523 dL_law_524 dL_law_525 dL_law_526 dL_law_527 ?_
  refine g_arg H (q := 2) (by omega) (by decide) dL_law_528 dL_law_529 dL_law_530 dL_law_531 dL_law_532 ?_
  refine g_arg H (q := 3) (by omega) (by decide) dL_law_533 dL_law_534 dL_law_535 dL_law_536 dL_law_537 ?_
  refine g_cM H (v := some (.int v)) (n' := 3) (As := [.int (xs (i + 1)), .int (xs (i + 2)), .int (xs (i + 3))]) vb_X12_enter (c12_enter _ e2) rfl rfl ⟨Nat.le_of_ble_eq_true rfl, Nat.le_of_ble_eq_true rfl⟩ wd_1300 dL_law_538 ?_
  exact g_icmp_eq H.1 dL_law_541 (tgt := 1319) rfl (fun _ => kk σ' τ' hR') (fun h => absurd rfl h)
theorem law_card (H : LwH γ A κ k n b Ln xs adc adm) (hi : i + 7 ≤ Ln) (hR : R σ τ) (kk : ∀ σ' τ', R σ' τ' → G γ A κ Q 4 k n 1319 (Lc b adc adm i) [] (W2 γ adc adm σ' τ')) : G γ A κ Q 4 k n 546 (Lc b adc adm i) [] (W2 γ adc adm σ τ) := by
  obtain ⟨v, σ', τ', e1, e2, hR'⟩ := m_card (xs (i + 1)) (xs (i + 2)) σ τ hR
  refine g_aload_n H.1 2 dL_law_546 rfl ?_
  refine g_arg H (q := 1) (by omega) (by decide) dL_law_547 dL_law_548 dL_law_549 dL_law_550 dL_law_551 ?_
  refine g_arg H (q := 2) (by omega) (by decide) dL_law_552 dL_law_553 dL_law_554 dL_law_555 dL_law_556 ?_
  refine g_cC H (v := some (.int v)) (n' := 3) (As := [.int (xs (i + 1)), .int (xs (i + 2))]) vb_X11_card (c11_card _ e1) rfl ⟨Nat.le_of_ble_eq_true rfl, Nat.le_of_ble_eq_true rfl⟩ wd_750 dL_law_557 ?_
  refine g_aload_n H.1 1 dL_law_560 rfl ?_
  refine g_arg H (q := 1) (by omega) (by decide) dL_law_561 dL_law_562 dL_law_563 dL_law_564 dL_law_565 ?_
  refine g_arg H (q := 2) (by omega) (by decide) dL_law_566 dL_law_567 dL_law_568 dL_law_569 dL_law_570 ?_
  refine g_cM H (v := some (.int v)) (n' := 3) (As := [.int (xs (i + 1)), .int (xs (i + 2))]) vb_X12_card (c12_card _ e2) rfl rfl ⟨Nat.le_of_ble_eq_true rfl, Nat.le_of_ble_eq_true rfl⟩ wd_1304 dL_law_571 ?_
  exact g_icmp_eq H.1 dL_law_574 (tgt := 1319) rfl (fun _ => kk σ' τ' hR') (fun h => absurd rfl h)
theorem law_comes (H : LwH γ A κ k n b Ln xs adc adm) (hi : i + 7 ≤ Ln) (hR : R σ τ) (kk : ∀ σ' τ', R σ' τ' → G γ A κ Q 4 k n 1319 (Lc b adc adm i) [] (W2 γ adc adm σ' τ')) : G γ A κ Q 4 k n 579 (Lc b adc adm i) [] (W2 γ adc adm σ τ) := by
  obtain ⟨v, σ', τ', e1, e2, hR'⟩ := m_comes (fu := 50000) (fu' := 50000) (by decide) (by decide) (xs (i + 1)) (xs (i + 2)) σ τ hR
  refine g_aload_n H.1 2 dL_law_579 rfl ?_
  refine g_arg H (q := 1) (by omega) (by decide) dL_law_580 dL_law_581 dL_law_582 dL_law_583 dL_law_584 ?_
  refine g_arg H (q := 2) (by omega) (by decide) dL_law_585 dL_law_586 dL_law_587 dL_law_588 dL_law_589 ?_
  refine g_cC H (v := some (.int v)) (n' := 5) (As := [.int (xs (i + 1)), .int (xs (i + 2))]) vb_X11_comes (c11_comes _ e1) rfl ⟨Nat.le_of_ble_eq_true rfl, Nat.le_of_ble_eq_true rfl⟩ wd_758 dL_law_590 ?_
  refine g_aload_n H.1 1 dL_law_593 rfl ?_
  refine g_arg H (q := 1) (by omega) (by decide) dL_law_594 dL_law_595 dL_law_596 dL_law_597 dL_law_598 ?_
  refine g_arg H (q := 2) (by omega) (by decide) dL_law_599 dL_law_600 dL_law_601 dL_law_602 dL_law_603 ?_
  refine g_cM H (v := some (.int v)) (n' := 6) (As := [.int (xs (i + 1)), .int (xs (i + 2))]) vb_X12_comes (c12_comes _ e2) rfl rfl ⟨Nat.le_of_ble_eq_true rfl, Nat.le_of_ble_eq_true rfl⟩ wd_1308 dL_law_604 ?_
  exact g_icmp_eq H.1 dL_law_607 (tgt := 1319) rfl (fun _ => kk σ' τ' hR') (fun h => absurd rfl h)
theorem law_does (H : LwH γ A κ k n b Ln xs adc adm) (hi : i + 7 ≤ Ln) (hR : R σ τ) (kk : ∀ σ' τ', R σ' τ' → G γ A κ Q 4 k n 1319 (Lc b adc adm i) [] (W2 γ adc adm σ' τ')) : G γ A κ Q 4 k n 612 (Lc b adc adm i) [] (W2 γ adc adm σ τ) := by
  obtain ⟨v, σ', τ', e1, e2, hR'⟩ := m_does (fu := 50000) (fu' := 50000) (by decide) (by decide) (xs (i + 1)) (xs (i + 2)) σ τ hR
  refine g_aload_n H.1 2 dL_law_612 rfl ?_
  refine g_arg H (q := 1) (by omega) (by decide) dL_law_613 dL_law_614 dL_law_615 dL_law_616 dL_law_617 ?_
  refine g_arg H (q := 2) (by omega) (by decide) dL_law_618 dL_law_619 dL_law_620 dL_law_621 dL_law_622 ?_
  refine g_cC H (v := some (.int v)) (n' := 4) (As := [.int (xs (i + 1)), .int (xs (i + 2))]) vb_X11_does (c11_does _ e1) rfl ⟨Nat.le_of_ble_eq_true rfl, Nat.le_of_ble_eq_true rfl⟩ wd_792 dL_law_623 ?_
  refine g_aload_n H.1 1 dL_law_626 rfl ?_
  refine g_arg H (q := 1) (by omega) (by decide) dL_law_627 dL_law_628 dL_law_629 dL_law_630 dL_law_631 ?_
  refine g_arg H (q := 2) (by omega) (by decide) dL_law_632 dL_law_633 dL_law_634 dL_law_635 dL_law_636 ?_
  refine g_cM H (v := some (.int v)) (n' := 5) (As := [.int (xs (i + 1)), .int (xs (i + 2))]) vb_X12_does (c12_does _ e2) rfl rfl ⟨Nat.le_of_ble_eq_true rfl, Nat.le_of_ble_eq_true rfl⟩ wd_1324 dL_law_637 ?_
  exact g_icmp_eq H.1 dL_law_640 (tgt := 1319) rfl (fun _ => kk σ' τ' hR') (fun h => absurd rfl h)
theorem law_day (H : LwH γ A κ k n b Ln xs adc adm) (hi : i + 7 ≤ Ln) (hR : R σ τ) (kk : ∀ σ' τ', R σ' τ' → G γ A κ Q 4 k n 1319 (Lc b adc adm i) [] (W2 γ adc adm σ' τ')) : G γ A κ Q 4 k n 645 (Lc b adc adm i) [] (W2 γ adc adm σ τ) := by
  obtain ⟨v, σ', τ', e1, e2, hR'⟩ := m_day (fu := 50000) (fu' := 50000) (by decide) (by decide) (xs (i + 1)) σ τ hR
  refine g_aload_n H.1 2 dL_law_645 rfl ?_
  refine g_arg H (q := 1) (by omega) (by decide) dL_law_646 dL_law_647 dL_law_648 dL_law_649 dL_law_650 ?_
  refine g_cC H (v := some (.int v)) (n' := 7) (As := [.int (xs (i + 1))]) vb_X11_day (c11_day _ e1) rfl ⟨Nat.le_of_ble_eq_true rfl, Nat.le_of_ble_eq_true rfl⟩ wd_797 dL_law_651 ?_
  refine g_aload_n H.1 1 dL_law_654 rfl ?_
  refine g_arg H (q := 1) (by omega) (by decide) dL_law_655 dL_law_656 dL_law_657 dL_law_658 dL_law_659 ?_
  refine g_cM H (v := some (.int v)) (n' := 8) (As := [.int (xs (i + 1))]) vb_X12_day (c12_day _ e2) rfl rfl ⟨Nat.le_of_ble_eq_true rfl, Nat.le_of_ble_eq_true rfl⟩ wd_1328 dL_law_660 ?_
  exact g_icmp_eq H.1 dL_law_663 (tgt := 1319) rfl (fun _ => kk σ' τ' hR') (fun h => absurd rfl h)
theorem law_let (H : LwH γ A κ k n b Ln xs adc adm) (hi : i + 7 ≤ Ln) (hR : R σ τ) (kk : ∀ σ' τ', R σ' τ' → G γ A κ Q 4 k n 1319 (Lc b adc adm i) [] (W2 γ adc adm σ' τ')) : G γ A κ Q 4 k n 668 (Lc b adc adm i) [] (W2 γ adc adm σ τ) := by
  obtain ⟨v, σ', τ', e1, e2, hR'⟩ := m_let (fu := 50000) (fu' := 50000) (by decide) (by decide) (xs (i + 1)) σ τ hR
  refine g_aload_n H.1 2 dL_law_668 rfl ?_
  refine g_arg H (q := 1) (by omega) (by decide) dL_law_669 dL_law_670 dL_law_671 dL_law_672 dL_law_673 ?_
  refine g_cC H (v := some (.int v)) (n' := 8) (As := [.int (xs (i + 1))]) vb_X11_let (c11_let _ e1) rfl ⟨Nat.le_of_ble_eq_true rfl, Nat.le_of_ble_eq_true rfl⟩ wd_827 dL_law_674 ?_
  refine g_aload_n H.1 1 dL_law_677 rfl ?_
  refine g_arg H (q := 1) (by omega) (by decide) dL_law_678 dL_law_679 dL_law_680 dL_law_681 dL_law_682 ?_
  refine g_cM H (v := some (.int v)) (n' := 10) (As := [.int (xs (i + 1))]) vb_X12_let (c12_let _ e2) rfl rfl ⟨Nat.le_of_ble_eq_true rfl, Nat.le_of_ble_eq_true rfl⟩ wd_1348 dL_law_683 ?_
  exact g_icmp_eq H.1 dL_law_686 (tgt := 1319) rfl (fun _ => kk σ' τ' hR') (fun h => absurd rfl h)
theorem law_spare (H : LwH γ A κ k n b Ln xs adc adm) (hi : i + 7 ≤ Ln) (hR : R σ τ) (kk : ∀ σ' τ', R σ' τ' → G γ A κ Q 4 k n 1319 (Lc b adc adm i) [] (W2 γ adc adm σ' τ')) : G γ A κ Q 4 k n 691 (Lc b adc adm i) [] (W2 γ adc adm σ τ) := by
  obtain ⟨v, σ', τ', e1, e2, hR'⟩ := m_spare (fu := 50000) (fu' := 50000) (by decide) (by decide) (xs (i + 1)) σ τ hR
  refine g_aload_n H.1 2 dL_law_691 rfl ?_
  refine g_arg H (q := 1) (by omega) (by decide) dL_law_692 dL_law_693 dL_law_694 dL_law_695 dL_law_696 ?_
  refine g_cC H (v := some (.int v)) (n' := 8) (As := [.int (xs (i + 1))]) vb_X11_spare (c11_spare _ e1) rfl ⟨Nat.le_of_ble_eq_true rfl, Nat.le_of_ble_eq_true rfl⟩ wd_852 dL_law_697 ?_
  refine g_aload_n H.1 1 dL_law_700 rfl ?_
  refine g_arg H (q := 1) (by omega) (by decide) dL_law_701 dL_law_702 dL_law_703 dL_law_704 dL_law_705 ?_
  refine g_cM H (v := some (.int v)) (n' := 10) (As := [.int (xs (i + 1))]) vb_X12_spare (c12_spare _ e2) rfl rfl ⟨Nat.le_of_ble_eq_true rfl, Nat.le_of_ble_eq_true rfl⟩ wd_1368 dL_law_706 ?_
  exact g_icmp_eq H.1 dL_law_709 (tgt := 1319) rfl (fun _ => kk σ' τ' hR') (fun h => absurd rfl h)
theorem law_drop (H : LwH γ A κ k n b Ln xs adc adm) (hi : i + 7 ≤ Ln) (hR : R σ τ) (kk : ∀ σ' τ', R σ' τ' → G γ A κ Q 4 k n 1319 (Lc b adc adm i) [] (W2 γ adc adm σ' τ')) : G γ A κ Q 4 k n 714 (Lc b adc adm i) [] (W2 γ adc adm σ τ) := by
  obtain ⟨v, σ', τ', e1, e2, hR'⟩ := m_drop (fu := 50000) (fu' := 50000) (by decide) (by decide) (xs (i + 1)) σ τ hR
  refine g_aload_n H.1 2 dL_law_714 rfl ?_
  refine g_arg H (q := 1) (by omega) (by decide) dL_law_715 dL_law_716 dL_law_717 dL_law_718 dL_law_719 ?_
  refine g_cC H (v := some (.int v)) (n' := 7) (As := [.int (xs (i + 1))]) vb_X11_drop (c11_drop _ e1) rfl ⟨Nat.le_of_ble_eq_true rfl, Nat.le_of_ble_eq_true rfl⟩ wd_856 dL_law_720 ?_
  refine g_aload_n H.1 1 dL_law_723 rfl ?_
  refine g_arg H (q := 1) (by omega) (by decide) dL_law_724 dL_law_725 dL_law_726 dL_law_727 dL_law_728 ?_
  refine g_cM H (v := some (.int v)) (n' := 9) (As := [.int (xs (i + 1))]) vb_X12_drop (c12_drop _ e2) rfl rfl ⟨Nat.le_of_ble_eq_true rfl, Nat.le_of_ble_eq_true rfl⟩ wd_1372 dL_law_729 ?_
  exact g_icmp_eq H.1 dL_law_732 (tgt := 1319) rfl (fun _ => kk σ' τ' hR') (fun h => absurd rfl h)
theorem law_order (H : LwH γ A κ k n b Ln xs adc adm) (hi : i + 7 ≤ Ln) (hR : R σ τ) (kk : ∀ σ' τ', R σ' τ' → G γ A κ Q 4 k n 1319 (Lc b adc adm i) [] (W2 γ adc adm σ' τ')) : G γ A κ Q 4 k n 737 (Lc b adc adm i) [] (W2 γ adc adm σ τ) := by
  obtain ⟨v, σ', τ', e1, e2, hR'⟩ := m_order (fu := 50000) (fu' := 50000) (by decide) (by decide) (xs (i + 1)) σ τ hR
  refine g_aload_n H.1 2 dL_law_737 rfl ?_
  refine g_arg H (q := 1) (by omega) (by decide) dL_law_738 dL_law_739 dL_law_740 dL_law_741 dL_law_742 ?_
  refine g_cC H (v := some (.int v)) (n' := 7) (As := [.int (xs (i + 1))]) vb_X11_order (c11_order _ e1) rfl ⟨Nat.le_of_ble_eq_true rfl, Nat.le_of_ble_eq_true rfl⟩ wd_861 dL_law_743 ?_
  refine g_aload_n H.1 1 dL_law_746 rfl ?_
  refine g_arg H (q := 1) (by omega) (by decide) dL_law_747 dL_law_748 dL_law_749 dL_law_750 dL_law_751 ?_
  refine g_cM H (v := some (.int v)) (n' := 9) (As := [.int (xs (i + 1))]) vb_X12_order (c12_order _ e2) rfl rfl ⟨Nat.le_of_ble_eq_true rfl, Nat.le_of_ble_eq_true rfl⟩ wd_1376 dL_law_752 ?_
  exact g_icmp_eq H.1 dL_law_755 (tgt := 1319) rfl (fun _ => kk σ' τ' hR') (fun h => absurd rfl h)
theorem law_tie (H : LwH γ A κ k n b Ln xs adc adm) (hi : i + 7 ≤ Ln) (hR : R σ τ) (kk : ∀ σ' τ', R σ' τ' → G γ A κ Q 4 k n 1319 (Lc b adc adm i) [] (W2 γ adc adm σ' τ')) : G γ A κ Q 4 k n 760 (Lc b adc adm i) [] (W2 γ adc adm σ τ) := by
  obtain ⟨v, σ', τ', e1, e2, hR'⟩ := m_tie (fu := 50000) (fu' := 50000) (by decide) (by decide) (xs (i + 1)) σ τ hR
  refine g_aload_n H.1 2 dL_law_760 rfl ?_
  refine g_arg H (q := 1) (by omega) (by decide) dL_law_761 dL_law_762 dL_law_763 dL_law_764 dL_law_765 ?_
  refine g_cC H (v := some (.int v)) (n' := 7) (As := [.int (xs (i + 1))]) vb_X11_tie (c11_tie _ e1) rfl ⟨Nat.le_of_ble_eq_true rfl, Nat.le_of_ble_eq_true rfl⟩ wd_900 dL_law_766 ?_
  refine g_aload_n H.1 1 dL_law_769 rfl ?_
  refine g_arg H (q := 1) (by omega) (by decide) dL_law_770 dL_law_771 dL_law_772 dL_law_773 dL_law_774 ?_
  refine g_cM H (v := some (.int v)) (n' := 9) (As := [.int (xs (i + 1))]) vb_X12_tie (c12_tie _ e2) rfl rfl ⟨Nat.le_of_ble_eq_true rfl, Nat.le_of_ble_eq_true rfl⟩ wd_1384 dL_law_775 ?_
  exact g_icmp_eq H.1 dL_law_778 (tgt := 1319) rfl (fun _ => kk σ' τ' hR') (fun h => absurd rfl h)
theorem law_needs (H : LwH γ A κ k n b Ln xs adc adm) (hi : i + 7 ≤ Ln) (hR : R σ τ) (kk : ∀ σ' τ', R σ' τ' → G γ A κ Q 4 k n 1319 (Lc b adc adm i) [] (W2 γ adc adm σ' τ')) : G γ A κ Q 4 k n 783 (Lc b adc adm i) [] (W2 γ adc adm σ τ) := by
  obtain ⟨v, σ', τ', e1, e2, hR'⟩ := m_needs (fu := 50000) (fu' := 50000) (by decide) (by decide) (xs (i + 1)) (xs (i + 2)) σ τ hR
  refine g_aload_n H.1 2 dL_law_783 rfl ?_
  refine g_arg H (q := 1) (by omega) (by decide) dL_law_784 dL_law_785 dL_law_786 dL_law_787 dL_law_788 ?_
  refine g_arg H (q := 2) (by omega) (by decide) dL_law_789 dL_law_790 dL_law_791 dL_law_792 dL_law_793 ?_
  refine g_cC H (v := some (.int v)) (n' := 7) (As := [.int (xs (i + 1)), .int (xs (i + 2))]) vb_X11_needs (c11_needs _ e1) rfl ⟨Nat.le_of_ble_eq_true rfl, Nat.le_of_ble_eq_true rfl⟩ wd_904 dL_law_794 ?_
  refine g_aload_n H.1 1 dL_law_797 rfl ?_
  refine g_arg H (q := 1) (by omega) (by decide) dL_law_798 dL_law_799 dL_law_800 dL_law_801 dL_law_802 ?_
  refine g_arg H (q := 2) (by omega) (by decide) dL_law_803 dL_law_804 dL_law_805 dL_law_806 dL_law_807 ?_
  refine g_cM H (v := some (.int v)) (n' := 8) (As := [.int (xs (i + 1)), .int (xs (i + 2))]) vb_X12_needs (c12_needs _ e2) rfl rfl ⟨Nat.le_of_ble_eq_true rfl, Nat.le_of_ble_eq_true rfl⟩ wd_1388 dL_law_808 ?_
  exact g_icmp_eq H.1 dL_law_811 (tgt := 1319) rfl (fun _ => kk σ' τ' hR') (fun h => absurd rfl h)
theorem law_judge (H : LwH γ A κ k n b Ln xs adc adm) (hi : i + 7 ≤ Ln) (hR : R σ τ) (kk : ∀ σ' τ', R σ' τ' → G γ A κ Q 4 k n 1319 (Lc b adc adm i) [] (W2 γ adc adm σ' τ')) : G γ A κ Q 4 k n 816 (Lc b adc adm i) [] (W2 γ adc adm σ τ) := by
  obtain ⟨v, σ', τ', e1, e2, hR'⟩ := m_judge (fu := 50000) (fu' := 50000) (by decide) (by decide) (xs (i + 1)) σ τ hR
  refine g_aload_n H.1 2 dL_law_816 rfl ?_
  refine g_arg H (q := 1) (by omega) (by decide) dL_law_817 dL_law_818 dL_law_819 dL_law_820 dL_law_821 ?_
  refine g_cC H (v := some (.int v)) (n' := 7) (As := [.int (xs (i + 1))]) vb_X11_judge (c11_judge _ e1) rfl ⟨Nat.le_of_ble_eq_true rfl, Nat.le_of_ble_eq_true rfl⟩ wd_908 dL_law_822 ?_
  refine g_aload_n H.1 1 dL_law_825 rfl ?_
  refine g_arg H (q := 1) (by omega) (by decide) dL_law_826 dL_law_827 dL_law_828 dL_law_829 dL_law_830 ?_
  refine g_cM H (v := some (.int v)) (n' := 9) (As := [.int (xs (i + 1))]) vb_X12_judge (c12_judge _ e2) rfl rfl ⟨Nat.le_of_ble_eq_true rfl, Nat.le_of_ble_eq_true rfl⟩ wd_1392 dL_law_831 ?_
  exact g_icmp_eq H.1 dL_law_834 (tgt := 1319) rfl (fun _ => kk σ' τ' hR') (fun h => absurd rfl h)
theorem law_kinds (H : LwH γ A κ k n b Ln xs adc adm) (hi : i + 7 ≤ Ln) (hR : R σ τ) (kk : ∀ σ' τ', R σ' τ' → G γ A κ Q 4 k n 1319 (Lc b adc adm i) [] (W2 γ adc adm σ' τ')) : G γ A κ Q 4 k n 839 (Lc b adc adm i) [] (W2 γ adc adm σ τ) := by
  obtain ⟨v, σ', τ', e1, e2, hR'⟩ := m_kinds (fu := 50000) (fu' := 50000) (by decide) (by decide) (xs (i + 1)) (xs (i + 2)) (xs (i + 3)) σ τ hR
  refine g_aload_n H.1 2 dL_law_839 rfl ?_
  refine g_arg H (q := 1) (by omega) (by decide) dL_law_840 dL_law_841 dL_law_842 dL_law_843 dL_law_844 ?_
  refine g_arg H (q := 2) (by omega) (by decide) dL_law_845 dL_law_846 dL_law_847 dL_law_848 dL_law_849 ?_
  refine g_arg H (q := 3) (by omega) (by decide) dL_law_850 dL_law_851 dL_law_852 dL_law_853 dL_law_854 ?_
  refine g_cC H (v := some (.int v)) (n' := 8) (As := [.int (xs (i + 1)), .int (xs (i + 2)), .int (xs (i + 3))]) vb_X11_kinds (c11_kinds _ e1) rfl ⟨Nat.le_of_ble_eq_true rfl, Nat.le_of_ble_eq_true rfl⟩ wd_933 dL_law_855 ?_
  refine g_aload_n H.1 1 dL_law_858 rfl ?_
  refine g_arg H (q := 1) (by omega) (by decide) dL_law_859 dL_law_860 dL_law_861 dL_law_862 dL_law_863 ?_
  refine g_arg H (q := 2) (by omega) (by decide) dL_law_864 dL_law_865 dL_law_866 dL_law_867 dL_law_868 ?_
  refine g_arg H (q := 3) (by omega) (by decide) dL_law_869 dL_law_870 dL_law_871 dL_law_872 dL_law_873 ?_
  refine g_cM H (v := some (.int v)) (n' := 9) (As := [.int (xs (i + 1)), .int (xs (i + 2)), .int (xs (i + 3))]) vb_X12_kinds (c12_kinds _ e2) rfl rfl ⟨Nat.le_of_ble_eq_true rfl, Nat.le_of_ble_eq_true rfl⟩ wd_1404 dL_law_874 ?_
  exact g_icmp_eq H.1 dL_law_877 (tgt := 1319) rfl (fun _ => kk σ' τ' hR') (fun h => absurd rfl h)
theorem law_quick (H : LwH γ A κ k n b Ln xs adc adm) (hi : i + 7 ≤ Ln) (hR : R σ τ) (kk : ∀ σ' τ', R σ' τ' → G γ A κ Q 4 k n 1319 (Lc b adc adm i) [] (W2 γ adc adm σ' τ')) : G γ A κ Q 4 k n 882 (Lc b adc adm i) [] (W2 γ adc adm σ τ) := by
  obtain ⟨v, σ', τ', e1, e2, hR'⟩ := m_quick (fu := 50000) (fu' := 50000) (by decide) (by decide) (xs (i + 1)) (xs (i + 2)) (xs (i + 3)) σ τ hR
  refine g_aload_n H.1 2 dL_law_882 rfl ?_
  refine g_arg H (q := 1) (by omega) (by decide) dL_law_883 dL_law_884 dL_law_885 dL_law_886 dL_law_887 ?_
  refine g_arg H (q := 2) (by omega) (by decide) dL_law_888 dL_law_889 dL_law_890 dL_law_891 dL_law_892 ?_
  refine g_arg H (q := 3) (by omega) (by decide) dL_law_893 dL_law_894 dL_law_895 dL_law_896 dL_law_897 ?_
  refine g_cC H (v := some (.int v)) (n' := 8) (As := [.int (xs (i + 1)), .int (xs (i + 2)), .int (xs (i + 3))]) vb_X11_quick (c11_quick _ e1) rfl ⟨Nat.le_of_ble_eq_true rfl, Nat.le_of_ble_eq_true rfl⟩ wd_941 dL_law_898 ?_
  refine g_aload_n H.1 1 dL_law_901 rfl ?_
  refine g_arg H (q := 1) (by omega) (by decide) dL_law_902 dL_law_903 dL_law_904 dL_law_905 dL_law_906 ?_
  refine g_arg H (q := 2) (by omega) (by decide) dL_law_907 dL_law_908 dL_law_909 dL_law_910 dL_law_911 ?_
  refine g_arg H (q := 3) (by omega) (by decide) dL_law_912 dL_law_913 dL_law_914 dL_law_915 dL_law_916 ?_
  refine g_cM H (v := some (.int v)) (n' := 9) (As := [.int (xs (i + 1)), .int (xs (i + 2)), .int (xs (i + 3))]) vb_X12_quick (c12_quick _ e2) rfl rfl ⟨Nat.le_of_ble_eq_true rfl, Nat.le_of_ble_eq_true rfl⟩ wd_1408 dL_law_917 ?_
  exact g_icmp_eq H.1 dL_law_920 (tgt := 1319) rfl (fun _ => kk σ' τ' hR') (fun h => absurd rfl h)
theorem law_laws (H : LwH γ A κ k n b Ln xs adc adm) (hi : i + 7 ≤ Ln) (hR : R σ τ) (kk : ∀ σ' τ', R σ' τ' → G γ A κ Q 4 k n 1319 (Lc b adc adm i) [] (W2 γ adc adm σ' τ')) : G γ A κ Q 4 k n 925 (Lc b adc adm i) [] (W2 γ adc adm σ τ) := by
  obtain ⟨v, σ', τ', e1, e2, hR'⟩ := m_laws (fu := 50000) (fu' := 50000) (by decide) (by decide) (xs (i + 1)) σ τ hR
  refine g_aload_n H.1 2 dL_law_925 rfl ?_
  refine g_arg H (q := 1) (by omega) (by decide) dL_law_926 dL_law_927 dL_law_928 dL_law_929 dL_law_930 ?_
  refine g_cC H (v := some (.int v)) (n' := 7) (As := [.int (xs (i + 1))]) vb_X11_laws (c11_laws _ e1) rfl ⟨Nat.le_of_ble_eq_true rfl, Nat.le_of_ble_eq_true rfl⟩ wd_945 dL_law_931 ?_
  refine g_aload_n H.1 1 dL_law_934 rfl ?_
  refine g_arg H (q := 1) (by omega) (by decide) dL_law_935 dL_law_936 dL_law_937 dL_law_938 dL_law_939 ?_
  refine g_cM H (v := some (.int v)) (n' := 9) (As := [.int (xs (i + 1))]) vb_X12_laws (c12_laws _ e2) rfl rfl ⟨Nat.le_of_ble_eq_true rfl, Nat.le_of_ble_eq_true rfl⟩ wd_1412 dL_law_940 ?_
  exact g_icmp_eq H.1 dL_law_943 (tgt := 1319) rfl (fun _ => kk σ' τ' hR') (fun h => absurd rfl h)
theorem law_film (H : LwH γ A κ k n b Ln xs adc adm) (hi : i + 7 ≤ Ln) (hR : R σ τ) (kk : ∀ σ' τ', R σ' τ' → G γ A κ Q 4 k n 1319 (Lc b adc adm i) [] (W2 γ adc adm σ' τ')) : G γ A κ Q 4 k n 948 (Lc b adc adm i) [] (W2 γ adc adm σ τ) := by
  obtain ⟨v, σ', τ', e1, e2, hR'⟩ := m_film (fu := 50000) (fu' := 50000) (by decide) (by decide) (xs (i + 1)) σ τ hR
  refine g_aload_n H.1 2 dL_law_948 rfl ?_
  refine g_arg H (q := 1) (by omega) (by decide) dL_law_949 dL_law_950 dL_law_951 dL_law_952 dL_law_953 ?_
  refine g_cC H (v := some (.int v)) (n' := 7) (As := [.int (xs (i + 1))]) vb_X11_film (c11_film _ e1) rfl ⟨Nat.le_of_ble_eq_true rfl, Nat.le_of_ble_eq_true rfl⟩ wd_949 dL_law_954 ?_
  refine g_aload_n H.1 1 dL_law_957 rfl ?_
  refine g_arg H (q := 1) (by omega) (by decide) dL_law_958 dL_law_959 dL_law_960 dL_law_961 dL_law_962 ?_
  refine g_cM H (v := some (.int v)) (n' := 8) (As := [.int (xs (i + 1))]) vb_X12_film (c12_film _ e2) rfl rfl ⟨Nat.le_of_ble_eq_true rfl, Nat.le_of_ble_eq_true rfl⟩ wd_1416 dL_law_963 ?_
  exact g_icmp_eq H.1 dL_law_966 (tgt := 1319) rfl (fun _ => kk σ' τ' hR') (fun h => absurd rfl h)
theorem law_drawn (H : LwH γ A κ k n b Ln xs adc adm) (hi : i + 7 ≤ Ln) (hR : R σ τ) (kk : ∀ σ' τ', R σ' τ' → G γ A κ Q 4 k n 1319 (Lc b adc adm i) [] (W2 γ adc adm σ' τ')) : G γ A κ Q 4 k n 971 (Lc b adc adm i) [] (W2 γ adc adm σ τ) := by
  obtain ⟨v, σ', τ', e1, e2, hR'⟩ := m_drawn (fu := 50000) (fu' := 50000) (by decide) (by decide) (xs (i + 1)) (xs (i + 2)) σ τ hR
  refine g_aload_n H.1 2 dL_law_971 rfl ?_
  refine g_arg H (q := 1) (by omega) (by decide) dL_law_972 dL_law_973 dL_law_974 dL_law_975 dL_law_976 ?_
  refine g_arg H (q := 2) (by omega) (by decide) dL_law_977 dL_law_978 dL_law_979 dL_law_980 dL_law_981 ?_
  refine g_cC H (v := some (.int v)) (n' := 8) (As := [.int (xs (i + 1)), .int (xs (i + 2))]) vb_X11_drawn (c11_drawn _ e1) rfl ⟨Nat.le_of_ble_eq_true rfl, Nat.le_of_ble_eq_true rfl⟩ wd_962 dL_law_982 ?_
  refine g_aload_n H.1 1 dL_law_985 rfl ?_
  refine g_arg H (q := 1) (by omega) (by decide) dL_law_986 dL_law_987 dL_law_988 dL_law_989 dL_law_990 ?_
  refine g_arg H (q := 2) (by omega) (by decide) dL_law_991 dL_law_992 dL_law_993 dL_law_994 dL_law_995 ?_
  refine g_cM H (v := some (.int v)) (n' := 9) (As := [.int (xs (i + 1)), .int (xs (i + 2))]) vb_X12_drawn (c12_drawn _ e2) rfl rfl ⟨Nat.le_of_ble_eq_true rfl, Nat.le_of_ble_eq_true rfl⟩ wd_1420 dL_law_996 ?_
  exact g_icmp_eq H.1 dL_law_999 (tgt := 1319) rfl (fun _ => kk σ' τ' hR') (fun h => absurd rfl h)
theorem law_odds (H : LwH γ A κ k n b Ln xs adc adm) (hi : i + 7 ≤ Ln) (hR : R σ τ) (kk : ∀ σ' τ', R σ' τ' → G γ A κ Q 4 k n 1319 (Lc b adc adm i) [] (W2 γ adc adm σ' τ')) : G γ A κ Q 4 k n 1004 (Lc b adc adm i) [] (W2 γ adc adm σ τ) := by
  obtain ⟨v, σ', τ', e1, e2, hR'⟩ := m_odds (fu := 50000) (fu' := 50000) (by decide) (by decide) (xs (i + 1)) (xs (i + 2)) (xs (i + 3)) (xs (i + 4)) σ τ hR
  refine g_aload_n H.1 2 dL_law_1004 rfl ?_
  refine g_arg H (q := 1) (by omega) (by decide) dL_law_1005 dL_law_1006 dL_law_1007 dL_law_1008 dL_law_1009 ?_
  refine g_arg H (q := 2) (by omega) (by decide) dL_law_1010 dL_law_1011 dL_law_1012 dL_law_1013 dL_law_1014 ?_
  refine g_arg H (q := 3) (by omega) (by decide) dL_law_1015 dL_law_1016 dL_law_1017 dL_law_1018 dL_law_1019 ?_
  refine g_arg H (q := 4) (by omega) (by decide) dL_law_1020 dL_law_1021 dL_law_1022 dL_law_1023 dL_law_1024 ?_
  refine g_cC H (v := some (.long v)) (n' := 8) (As := [.int (xs (i + 1)), .int (xs (i + 2)), .int (xs (i + 3)), .int (xs (i + 4))]) vb_X11_odds (c11_odds _ e1) rfl ⟨Nat.le_of_ble_eq_true rfl, Nat.le_of_ble_eq_true rfl⟩ wd_983 dL_law_1025 ?_
  refine g_aload_n H.1 1 dL_law_1028 rfl ?_
  refine g_arg H (q := 1) (by omega) (by decide) dL_law_1029 dL_law_1030 dL_law_1031 dL_law_1032 dL_law_1033 ?_
  refine g_arg H (q := 2) (by omega) (by decide) dL_law_1034 dL_law_1035 dL_law_1036 dL_law_1037 dL_law_1038 ?_
  refine g_arg H (q := 3) (by omega) (by decide) dL_law_1039 dL_law_1040 dL_law_1041 dL_law_1042 dL_law_1043 ?_
  refine g_arg H (q := 4) (by omega) (by decide) dL_law_1044 dL_law_1045 dL_law_1046 dL_law_1047 dL_law_1048 ?_
  refine g_cM H (v := some (.long v)) (n' := 9) (As := [.int (xs (i + 1)), .int (xs (i + 2)), .int (xs (i + 3)), .int (xs (i + 4))]) vb_X12_odds (c12_odds _ e2) rfl rfl ⟨Nat.le_of_ble_eq_true rfl, Nat.le_of_ble_eq_true rfl⟩ wd_1432 dL_law_1049 ?_
  refine g_lcmp H.1 dL_law_1052 ?_
  exact g_if_eq H.1 dL_law_1053 (tgt := 1319) rfl (fun _ => kk σ' τ' hR') (fun h => absurd (lcmp_self v) h)
theorem law_image (H : LwH γ A κ k n b Ln xs adc adm) (hi : i + 7 ≤ Ln) (hR : R σ τ) (kk : ∀ σ' τ', R σ' τ' → G γ A κ Q 4 k n 1319 (Lc b adc adm i) [] (W2 γ adc adm σ' τ')) : G γ A κ Q 4 k n 1058 (Lc b adc adm i) [] (W2 γ adc adm σ τ) := by
  obtain ⟨v, σ', τ', e1, e2, hR'⟩ := m_image (fu := 50000) (fu' := 50000) (by decide) (by decide) σ τ hR
  refine g_aload_n H.1 2 dL_law_1058 rfl ?_
  refine g_cC H (v := some (.int v)) (n' := 3) (As := []) vb_X11_image (c11_image _ e1) rfl ⟨Nat.le_of_ble_eq_true rfl, Nat.le_of_ble_eq_true rfl⟩ wd_991 dL_law_1059 ?_
  refine g_aload_n H.1 1 dL_law_1062 rfl ?_
  refine g_cM H (v := some (.int v)) (n' := 1) (As := []) vb_X12_image (c12_image _ e2) rfl rfl ⟨Nat.le_of_ble_eq_true rfl, Nat.le_of_ble_eq_true rfl⟩ wd_1440 dL_law_1063 ?_
  exact g_icmp_eq H.1 dL_law_1066 (tgt := 1319) rfl (fun _ => kk σ' τ' hR') (fun h => absurd rfl h)
theorem law_back (H : LwH γ A κ k n b Ln xs adc adm) (hi : i + 7 ≤ Ln) (hR : R σ τ) (kk : ∀ σ' τ', R σ' τ' → G γ A κ Q 4 k n 1319 (Lc b adc adm i) [] (W2 γ adc adm σ' τ')) : G γ A κ Q 4 k n 1071 (Lc b adc adm i) [] (W2 γ adc adm σ τ) := by
  obtain ⟨v, σ', τ', e1, e2, hR'⟩ := m_back (fu := 50000) (fu' := 50000) (by decide) (by decide) σ τ hR
  refine g_aload_n H.1 2 dL_law_1071 rfl ?_
  refine g_cC H (v := some (.int v)) (n' := 3) (As := []) vb_X11_back (c11_back _ e1) rfl ⟨Nat.le_of_ble_eq_true rfl, Nat.le_of_ble_eq_true rfl⟩ wd_1005 dL_law_1072 ?_
  refine g_aload_n H.1 1 dL_law_1075 rfl ?_
  refine g_cM H (v := some (.int v)) (n' := 1) (As := []) vb_X12_back (c12_back _ e2) rfl rfl ⟨Nat.le_of_ble_eq_true rfl, Nat.le_of_ble_eq_true rfl⟩ wd_1444 dL_law_1076 ?_
  exact g_icmp_eq H.1 dL_law_1079 (tgt := 1319) rfl (fun _ => kk σ' τ' hR') (fun h => absurd rfl h)
theorem law_sheet (H : LwH γ A κ k n b Ln xs adc adm) (hi : i + 7 ≤ Ln) (hR : R σ τ) (kk : ∀ σ' τ', R σ' τ' → G γ A κ Q 4 k n 1319 (Lc b adc adm i) [] (W2 γ adc adm σ' τ')) : G γ A κ Q 4 k n 1084 (Lc b adc adm i) [] (W2 γ adc adm σ τ) := by
  obtain ⟨v, σ', τ', e1, e2, hR'⟩ := m_sheet (fu := 50000) (fu' := 50000) (by decide) (by decide) (xs (i + 1)) (xs (i + 2)) (xs (i + 3)) σ τ hR
  refine g_aload_n H.1 2 dL_law_1084 rfl ?_
  refine g_arg H (q := 1) (by omega) (by decide) dL_law_1085 dL_law_1086 dL_law_1087 dL_law_1088 dL_law_1089 ?_
  refine g_arg H (q := 2) (by omega) (by decide) dL_law_1090 dL_law_1091 dL_law_1092 dL_law_1093 dL_law_1094 ?_
  refine g_arg H (q := 3) (by omega) (by decide) dL_law_1095 dL_law_1096 dL_law_1097 dL_law_1098 dL_law_1099 ?_
  refine g_cC H (v := some (.int v)) (n' := 2) (As := [.int (xs (i + 1)), .int (xs (i + 2)), .int (xs (i + 3))]) vb_X11_sheet (c11_sheet _ e1) rfl ⟨Nat.le_of_ble_eq_true rfl, Nat.le_of_ble_eq_true rfl⟩ wd_1009 dL_law_1100 ?_
  refine g_aload_n H.1 1 dL_law_1103 rfl ?_
  refine g_arg H (q := 1) (by omega) (by decide) dL_law_1104 dL_law_1105 dL_law_1106 dL_law_1107 dL_law_1108 ?_
  refine g_arg H (q := 2) (by omega) (by decide) dL_law_1109 dL_law_1110 dL_law_1111 dL_law_1112 dL_law_1113 ?_
  refine g_arg H (q := 3) (by omega) (by decide) dL_law_1114 dL_law_1115 dL_law_1116 dL_law_1117 dL_law_1118 ?_
  refine g_cM H (v := some (.int v)) (n' := 2) (As := [.int (xs (i + 1)), .int (xs (i + 2)), .int (xs (i + 3))]) vb_X12_sheet (c12_sheet _ e2) rfl rfl ⟨Nat.le_of_ble_eq_true rfl, Nat.le_of_ble_eq_true rfl⟩ wd_1448 dL_law_1119 ?_
  exact g_icmp_eq H.1 dL_law_1122 (tgt := 1319) rfl (fun _ => kk σ' τ' hR') (fun h => absurd rfl h)
theorem law_cell (H : LwH γ A κ k n b Ln xs adc adm) (hi : i + 7 ≤ Ln) (hR : R σ τ) (kk : ∀ σ' τ', R σ' τ' → G γ A κ Q 4 k n 1319 (Lc b adc adm i) [] (W2 γ adc adm σ' τ')) : G γ A κ Q 4 k n 1127 (Lc b adc adm i) [] (W2 γ adc adm σ τ) := by
  obtain ⟨v, σ', τ', e1, e2, hR'⟩ := m_cell (xs (i + 1)) (xs (i + 2)) (xs (i + 3)) σ τ hR
  refine g_aload_n H.1 2 dL_law_1127 rfl ?_
  refine g_arg H (q := 1) (by omega) (by decide) dL_law_1128 dL_law_1129 dL_law_1130 dL_law_1131 dL_law_1132 ?_
  refine g_arg H (q := 2) (by omega) (by decide) dL_law_1133 dL_law_1134 dL_law_1135 dL_law_1136 dL_law_1137 ?_
  refine g_arg H (q := 3) (by omega) (by decide) dL_law_1138 dL_law_1139 dL_law_1140 dL_law_1141 dL_law_1142 ?_
  refine g_cC H (v := some (.int v)) (n' := 3) (As := [.int (xs (i + 1)), .int (xs (i + 2)), .int (xs (i + 3))]) vb_X11_cell (c11_cell _ e1) rfl ⟨Nat.le_of_ble_eq_true rfl, Nat.le_of_ble_eq_true rfl⟩ wd_1017 dL_law_1143 ?_
  refine g_aload_n H.1 1 dL_law_1146 rfl ?_
  refine g_arg H (q := 1) (by omega) (by decide) dL_law_1147 dL_law_1148 dL_law_1149 dL_law_1150 dL_law_1151 ?_
  refine g_arg H (q := 2) (by omega) (by decide) dL_law_1152 dL_law_1153 dL_law_1154 dL_law_1155 dL_law_1156 ?_
  refine g_arg H (q := 3) (by omega) (by decide) dL_law_1157 dL_law_1158 dL_law_1159 dL_law_1160 dL_law_1161 ?_
  refine g_cM H (v := some (.int v)) (n' := 2) (As := [.int (xs (i + 1)), .int (xs (i + 2)), .int (xs (i + 3))]) vb_X12_cell (c12_cell _ e2) rfl rfl ⟨Nat.le_of_ble_eq_true rfl, Nat.le_of_ble_eq_true rfl⟩ wd_1452 dL_law_1162 ?_
  exact g_icmp_eq H.1 dL_law_1165 (tgt := 1319) rfl (fun _ => kk σ' τ' hR') (fun h => absurd rfl h)
theorem law_copy (H : LwH γ A κ k n b Ln xs adc adm) (hi : i + 7 ≤ Ln) (hR : R σ τ) (kk : ∀ σ' τ', R σ' τ' → G γ A κ Q 4 k n 1319 (Lc b adc adm i) [] (W2 γ adc adm σ' τ')) : G γ A κ Q 4 k n 1170 (Lc b adc adm i) [] (W2 γ adc adm σ τ) := by
  obtain ⟨v, σ', τ', e1, e2, hR'⟩ := m_copy (fu' := 50000) (by decide) (xs (i + 1)) (xs (i + 2)) (xs (i + 3)) (xs (i + 4)) (xs (i + 5)) σ τ hR
  refine g_aload_n H.1 2 dL_law_1170 rfl ?_
  refine g_arg H (q := 1) (by omega) (by decide) dL_law_1171 dL_law_1172 dL_law_1173 dL_law_1174 dL_law_1175 ?_
  refine g_arg H (q := 2) (by omega) (by decide) dL_law_1176 dL_law_1177 dL_law_1178 dL_law_1179 dL_law_1180 ?_
  refine g_arg H (q := 3) (by omega) (by decide) dL_law_1181 dL_law_1182 dL_law_1183 dL_law_1184 dL_law_1185 ?_
  refine g_arg H (q := 4) (by omega) (by decide) dL_law_1186 dL_law_1187 dL_law_1188 dL_law_1189 dL_law_1190 ?_
  refine g_arg H (q := 5) (by omega) (by decide) dL_law_1191 dL_law_1192 dL_law_1193 dL_law_1194 dL_law_1195 ?_
  refine g_cC H (v := some (.int v)) (n' := 2) (As := [.int (xs (i + 1)), .int (xs (i + 2)), .int (xs (i + 3)), .int (xs (i + 4)), .int (xs (i + 5))]) vb_X11_copy (c11_copy _ e1) rfl ⟨Nat.le_of_ble_eq_true rfl, Nat.le_of_ble_eq_true rfl⟩ wd_1021 dL_law_1196 ?_
  refine g_aload_n H.1 1 dL_law_1199 rfl ?_
  refine g_arg H (q := 1) (by omega) (by decide) dL_law_1200 dL_law_1201 dL_law_1202 dL_law_1203 dL_law_1204 ?_
  refine g_arg H (q := 2) (by omega) (by decide) dL_law_1205 dL_law_1206 dL_law_1207 dL_law_1208 dL_law_1209 ?_
  refine g_arg H (q := 3) (by omega) (by decide) dL_law_1210 dL_law_1211 dL_law_1212 dL_law_1213 dL_law_1214 ?_
  refine g_arg H (q := 4) (by omega) (by decide) dL_law_1215 dL_law_1216 dL_law_1217 dL_law_1218 dL_law_1219 ?_
  refine g_arg H (q := 5) (by omega) (by decide) dL_law_1220 dL_law_1221 dL_law_1222 dL_law_1223 dL_law_1224 ?_
  refine g_cM H (v := some (.int v)) (n' := 2) (As := [.int (xs (i + 1)), .int (xs (i + 2)), .int (xs (i + 3)), .int (xs (i + 4)), .int (xs (i + 5))]) vb_X12_copy (c12_copy _ e2) rfl rfl ⟨Nat.le_of_ble_eq_true rfl, Nat.le_of_ble_eq_true rfl⟩ wd_1456 dL_law_1225 ?_
  exact g_icmp_eq H.1 dL_law_1228 (tgt := 1319) rfl (fun _ => kk σ' τ' hR') (fun h => absurd rfl h)
theorem law_childrenBy (H : LwH γ A κ k n b Ln xs adc adm) (hi : i + 7 ≤ Ln) (hR : R σ τ) (kk : ∀ σ' τ', R σ' τ' → G γ A κ Q 4 k n 1319 (Lc b adc adm i) [] (W2 γ adc adm σ' τ')) : G γ A κ Q 4 k n 1233 (Lc b adc adm i) [] (W2 γ adc adm σ τ) := by
  obtain ⟨v, σ', τ', e1, e2, hR'⟩ := m_childrenBy (fu := 50000) (fu' := 50000) (by decide) (by decide) (xs (i + 1)) (xs (i + 2)) (xs (i + 3)) (xs (i + 4)) σ τ hR
  refine g_aload_n H.1 2 dL_law_1233 rfl ?_
  refine g_arg H (q := 1) (by omega) (by decide) dL_law_1234 dL_law_1235 dL_law_1236 dL_law_1237 dL_law_1238 ?_
  refine g_arg H (q := 2) (by omega) (by decide) dL_law_1239 dL_law_1240 dL_law_1241 dL_law_1242 dL_law_1243 ?_
  refine g_arg H (q := 3) (by omega) (by decide) dL_law_1244 dL_law_1245 dL_law_1246 dL_law_1247 dL_law_1248 ?_
  refine g_arg H (q := 4) (by omega) (by decide) dL_law_1249 dL_law_1250 dL_law_1251 dL_law_1252 dL_law_1253 ?_
  refine g_cC H (v := some (.int v)) (n' := 4) (As := [.int (xs (i + 1)), .int (xs (i + 2)), .int (xs (i + 3)), .int (xs (i + 4))]) vb_X11_childrenBy (c11_childrenBy _ e1) rfl ⟨Nat.le_of_ble_eq_true rfl, Nat.le_of_ble_eq_true rfl⟩ wd_1032 dL_law_1254 ?_
  refine g_aload_n H.1 1 dL_law_1257 rfl ?_
  refine g_arg H (q := 1) (by omega) (by decide) dL_law_1258 dL_law_1259 dL_law_1260 dL_law_1261 dL_law_1262 ?_
  refine g_arg H (q := 2) (by omega) (by decide) dL_law_1263 dL_law_1264 dL_law_1265 dL_law_1266 dL_law_1267 ?_
  refine g_arg H (q := 3) (by omega) (by decide) dL_law_1268 dL_law_1269 dL_law_1270 dL_law_1271 dL_law_1272 ?_
  refine g_arg H (q := 4) (by omega) (by decide) dL_law_1273 dL_law_1274 dL_law_1275 dL_law_1276 dL_law_1277 ?_
  refine g_cM H (v := some (.int v)) (n' := 3) (As := [.int (xs (i + 1)), .int (xs (i + 2)), .int (xs (i + 3)), .int (xs (i + 4))]) vb_X12_childrenBy (c12_childrenBy _ e2) rfl rfl ⟨Nat.le_of_ble_eq_true rfl, Nat.le_of_ble_eq_true rfl⟩ wd_1460 dL_law_1278 ?_
  exact g_icmp_eq H.1 dL_law_1281 (tgt := 1319) rfl (fun _ => kk σ' τ' hR') (fun h => absurd rfl h)
theorem law_taken (H : LwH γ A κ k n b Ln xs adc adm) (hi : i + 7 ≤ Ln) (hR : R σ τ) (kk : ∀ σ' τ', R σ' τ' → G γ A κ Q 4 k n 1319 (Lc b adc adm i) [] (W2 γ adc adm σ' τ')) : G γ A κ Q 4 k n 1286 (Lc b adc adm i) [] (W2 γ adc adm σ τ) := by
  obtain ⟨v, σ', τ', e1, e2, hR'⟩ := m_taken (fu := 50000) (by decide) (xs (i + 1)) (xs (i + 2)) σ τ hR
  refine g_aload_n H.1 2 dL_law_1286 rfl ?_
  refine g_arg H (q := 1) (by omega) (by decide) dL_law_1287 dL_law_1288 dL_law_1289 dL_law_1290 dL_law_1291 ?_
  refine g_arg H (q := 2) (by omega) (by decide) dL_law_1292 dL_law_1293 dL_law_1294 dL_law_1295 dL_law_1296 ?_
  refine g_cC H (v := some (.int v)) (n' := 4) (As := [.int (xs (i + 1)), .int (xs (i + 2))]) vb_X11_taken (c11_taken _ e1) rfl ⟨Nat.le_of_ble_eq_true rfl, Nat.le_of_ble_eq_true rfl⟩ wd_1037 dL_law_1297 ?_
  refine g_aload_n H.1 1 dL_law_1300 rfl ?_
  refine g_arg H (q := 1) (by omega) (by decide) dL_law_1301 dL_law_1302 dL_law_1303 dL_law_1304 dL_law_1305 ?_
  refine g_arg H (q := 2) (by omega) (by decide) dL_law_1306 dL_law_1307 dL_law_1308 dL_law_1309 dL_law_1310 ?_
  refine g_cM H (v := some (.int v)) (n' := 2) (As := [.int (xs (i + 1)), .int (xs (i + 2))]) vb_X12_taken (c12_taken _ e2) rfl rfl ⟨Nat.le_of_ble_eq_true rfl, Nat.le_of_ble_eq_true rfl⟩ wd_1465 dL_law_1311 ?_
  exact g_icmp_eq H.1 dL_law_1314 (tgt := 1319) rfl (fun _ => kk σ' τ' hR') (fun h => absurd rfl h)
end LWC
