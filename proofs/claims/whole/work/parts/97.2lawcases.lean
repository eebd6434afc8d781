/-! the law's cases -/
set_option maxHeartbeats 4000000 in
set_option maxRecDepth 100000 in
theorem law_c0 {p : Program} {l : Launch} {e : Env} {s : State} {m : MethodId} {below : List Frame} {meth : Method} {c : Code} {b Ln : Nat} {xs : Nat → Int32} {E : EV} {M : Mem} {x3 : Int32} {q : Nat} {S : Sta} (C : LX p l s m meth c b Ln xs E) (hx3 : x3 = nI q) (hq : q + 6 ≤ Ln) (hA : AC M S) (hR : AR M S) (hW : WFS S) (kk : ∀ (M1 : Mem) (S1 : Sta), AC M1 S1 → AR M1 S1 → WFS S1 → LW p l e s m below meth c b E M1 x3 1468 []) : LW p l e s m below meth c b E M x3 236 [] := by
  obtain ⟨r, S1, f, g, w⟩ := tw_person hW (xs (q + 1))
  obtain ⟨M1, e1, a1, k1⟩ := f M hA
  obtain ⟨M2, e2, a2, k2⟩ := g M1 (hR.lo k1)
  refine lw_al1 C dL_law_236 ?_
  refine lw_arg C (j := 1) hx3 hq (by decide) (by decide) dL_law_237 dL_law_238 dL_law_239 dL_law_240 dL_law_241 ?_
  refine lw_call C (st := []) (k0 := 0) (n := 1) (As := [.int (xs (q + 1))]) (by decide) (by rfl) rfl gL_law_X7_person rfl rfl rfl (by decide +kernel) ⟨Nat.le_of_ble_eq_true rfl, Nat.le_of_ble_eq_true rfl⟩ rfl rfl (Nat.le_of_ble_eq_true rfl) (mtX7_person E l (xs (q + 1)) M) e1 dL_law_242 ?_
  refine lw_al2 C dL_law_245 ?_
  refine lw_arg C (j := 1) hx3 hq (by decide) (by decide) dL_law_246 dL_law_247 dL_law_248 dL_law_249 dL_law_250 ?_
  refine lw_call C (st := [.int r]) (k0 := 57) (n := 1) (As := [.int (xs (q + 1))]) (by decide) (by rfl) rfl gL_law_X8_person rfl rfl rfl (by decide +kernel) ⟨Nat.le_of_ble_eq_true rfl, Nat.le_of_ble_eq_true rfl⟩ rfl rfl (Nat.le_of_ble_eq_true rfl) (mtX8_person E l (xs (q + 1)) M1) e2 dL_law_251 ?_
  exact lw_eq C dL_law_254 (by decide) (kk M2 S1 (a1.hi k2) a2 w)
set_option maxHeartbeats 4000000 in
set_option maxRecDepth 100000 in
theorem law_c1 {p : Program} {l : Launch} {e : Env} {s : State} {m : MethodId} {below : List Frame} {meth : Method} {c : Code} {b Ln : Nat} {xs : Nat → Int32} {E : EV} {M : Mem} {x3 : Int32} {q : Nat} {S : Sta} (C : LX p l s m meth c b Ln xs E) (hx3 : x3 = nI q) (hq : q + 6 ≤ Ln) (hA : AC M S) (hR : AR M S) (hW : WFS S) (kk : ∀ (M1 : Mem) (S1 : Sta), AC M1 S1 → AR M1 S1 → WFS S1 → LW p l e s m below meth c b E M1 x3 1468 []) : LW p l e s m below meth c b E M x3 259 [] := by
  obtain ⟨r, S1, f, g, w⟩ := tw_of hW (xs (q + 1)) (xs (q + 2))
  obtain ⟨M1, e1, a1, k1⟩ := f M hA
  obtain ⟨M2, e2, a2, k2⟩ := g M1 (hR.lo k1)
  refine lw_al1 C dL_law_259 ?_
  refine lw_arg C (j := 1) hx3 hq (by decide) (by decide) dL_law_260 dL_law_261 dL_law_262 dL_law_263 dL_law_264 ?_
  refine lw_arg C (j := 2) hx3 hq (by decide) (by decide) dL_law_265 dL_law_266 dL_law_267 dL_law_268 dL_law_269 ?_
  refine lw_call C (st := []) (k0 := 0) (n := 2) (As := [.int (xs (q + 1)), .int (xs (q + 2))]) (by decide) (by rfl) rfl gL_law_X7_of rfl rfl rfl (by decide +kernel) ⟨Nat.le_of_ble_eq_true rfl, Nat.le_of_ble_eq_true rfl⟩ rfl rfl (Nat.le_of_ble_eq_true rfl) (mtX7_of E l (xs (q + 1)) (xs (q + 2)) M) e1 dL_law_270 ?_
  refine lw_al2 C dL_law_273 ?_
  refine lw_arg C (j := 1) hx3 hq (by decide) (by decide) dL_law_274 dL_law_275 dL_law_276 dL_law_277 dL_law_278 ?_
  refine lw_arg C (j := 2) hx3 hq (by decide) (by decide) dL_law_279 dL_law_280 dL_law_281 dL_law_282 dL_law_283 ?_
  refine lw_call C (st := [.int r]) (k0 := 57) (n := 2) (As := [.int (xs (q + 1)), .int (xs (q + 2))]) (by decide) (by rfl) rfl gL_law_X8_of rfl rfl rfl (by decide +kernel) ⟨Nat.le_of_ble_eq_true rfl, Nat.le_of_ble_eq_true rfl⟩ rfl rfl (Nat.le_of_ble_eq_true rfl) (mtX8_of E l (xs (q + 1)) (xs (q + 2)) M1) e2 dL_law_284 ?_
  exact lw_eq C dL_law_287 (by decide) (kk M2 S1 (a1.hi k2) a2 w)
set_option maxHeartbeats 4000000 in
set_option maxRecDepth 100000 in
theorem law_c2 {p : Program} {l : Launch} {e : Env} {s : State} {m : MethodId} {below : List Frame} {meth : Method} {c : Code} {b Ln : Nat} {xs : Nat → Int32} {E : EV} {M : Mem} {x3 : Int32} {q : Nat} {S : Sta} (C : LX p l s m meth c b Ln xs E) (hx3 : x3 = nI q) (hq : q + 6 ≤ Ln) (hA : AC M S) (hR : AR M S) (hW : WFS S) (kk : ∀ (M1 : Mem) (S1 : Sta), AC M1 S1 → AR M1 S1 → WFS S1 → LW p l e s m below meth c b E M1 x3 1468 []) : LW p l e s m below meth c b E M x3 292 [] := by
  obtain ⟨r, S1, f, g, w⟩ := tw_change hW (xs (q + 1)) (xs (q + 2)) (xs (q + 3))
  obtain ⟨M1, e1, a1, k1⟩ := f M hA
  obtain ⟨M2, e2, a2, k2⟩ := g M1 (hR.lo k1)
  refine lw_al1 C dL_law_292 ?_
  refine lw_arg C (j := 1) hx3 hq (by decide) (by decide) dL_law_293 dL_law_294 dL_law_295 dL_law_296 dL_law_297 ?_
  refine lw_arg C (j := 2) hx3 hq (by decide) (by decide) dL_law_298 dL_law_299 dL_law_300 dL_law_301 dL_law_302 ?_
  refine lw_arg C (j := 3) hx3 hq (by decide) (by decide) dL_law_303 dL_law_304 dL_law_305 dL_law_306 dL_law_307 ?_
  refine lw_call C (st := []) (k0 := 0) (n := 3) (As := [.int (xs (q + 1)), .int (xs (q + 2)), .int (xs (q + 3))]) (by decide) (by rfl) rfl gL_law_X7_change rfl rfl rfl (by decide +kernel) ⟨Nat.le_of_ble_eq_true rfl, Nat.le_of_ble_eq_true rfl⟩ rfl rfl (Nat.le_of_ble_eq_true rfl) (mtX7_change E l (xs (q + 1)) (xs (q + 2)) (xs (q + 3)) M) e1 dL_law_308 ?_
  refine lw_al2 C dL_law_311 ?_
  refine lw_arg C (j := 1) hx3 hq (by decide) (by decide) dL_law_312 dL_law_313 dL_law_314 dL_law_315 dL_law_316 ?_
  refine lw_arg C (j := 2) hx3 hq (by decide) (by decide) dL_law_317 dL_law_318 dL_law_319 dL_law_320 dL_law_321 ?_
  refine lw_arg C (j := 3) hx3 hq (by decide) (by decide) dL_law_322 dL_law_323 dL_law_324 dL_law_325 dL_law_326 ?_
  refine lw_call C (st := [.int r]) (k0 := 57) (n := 3) (As := [.int (xs (q + 1)), .int (xs (q + 2)), .int (xs (q + 3))]) (by decide) (by rfl) rfl gL_law_X8_change rfl rfl rfl (by decide +kernel) ⟨Nat.le_of_ble_eq_true rfl, Nat.le_of_ble_eq_true rfl⟩ rfl rfl (Nat.le_of_ble_eq_true rfl) (mtX8_change E l (xs (q + 1)) (xs (q + 2)) (xs (q + 3)) M1) e2 dL_law_327 ?_
  exact lw_eq C dL_law_330 (by decide) (kk M2 S1 (a1.hi k2) a2 w)
set_option maxHeartbeats 4000000 in
set_option maxRecDepth 100000 in
theorem law_c3 {p : Program} {l : Launch} {e : Env} {s : State} {m : MethodId} {below : List Frame} {meth : Method} {c : Code} {b Ln : Nat} {xs : Nat → Int32} {E : EV} {M : Mem} {x3 : Int32} {q : Nat} {S : Sta} (C : LX p l s m meth c b Ln xs E) (hx3 : x3 = nI q) (hq : q + 6 ≤ Ln) (hA : AC M S) (hR : AR M S) (hW : WFS S) (kk : ∀ (M1 : Mem) (S1 : Sta), AC M1 S1 → AR M1 S1 → WFS S1 → LW p l e s m below meth c b E M1 x3 1468 []) : LW p l e s m below meth c b E M x3 335 [] := by
  obtain ⟨r, S1, f, g, w⟩ := tw_share hW (xs (q + 1)) (xs (q + 2))
  obtain ⟨M1, e1, a1, k1⟩ := f M hA
  obtain ⟨M2, e2, a2, k2⟩ := g M1 (hR.lo k1)
  refine lw_al1 C dL_law_335 ?_
  refine lw_arg C (j := 1) hx3 hq (by decide) (by decide) dL_law_336 dL_law_337 dL_law_338 dL_law_339 dL_law_340 ?_
  refine lw_arg C (j := 2) hx3 hq (by decide) (by decide) dL_law_341 dL_law_342 dL_law_343 dL_law_344 dL_law_345 ?_
  refine lw_call C (st := []) (k0 := 0) (n := 2) (As := [.int (xs (q + 1)), .int (xs (q + 2))]) (by decide) (by rfl) rfl gL_law_X7_share rfl rfl rfl (by decide +kernel) ⟨Nat.le_of_ble_eq_true rfl, Nat.le_of_ble_eq_true rfl⟩ rfl rfl (Nat.le_of_ble_eq_true rfl) (mtX7_share E l (xs (q + 1)) (xs (q + 2)) M) e1 dL_law_346 ?_
  refine lw_al2 C dL_law_349 ?_
  refine lw_arg C (j := 1) hx3 hq (by decide) (by decide) dL_law_350 dL_law_351 dL_law_352 dL_law_353 dL_law_354 ?_
  refine lw_arg C (j := 2) hx3 hq (by decide) (by decide) dL_law_355 dL_law_356 dL_law_357 dL_law_358 dL_law_359 ?_
  refine lw_call C (st := [.int r]) (k0 := 57) (n := 2) (As := [.int (xs (q + 1)), .int (xs (q + 2))]) (by decide) (by rfl) rfl gL_law_X8_share rfl rfl rfl (by decide +kernel) ⟨Nat.le_of_ble_eq_true rfl, Nat.le_of_ble_eq_true rfl⟩ rfl rfl (Nat.le_of_ble_eq_true rfl) (mtX8_share E l (xs (q + 1)) (xs (q + 2)) M1) e2 dL_law_360 ?_
  exact lw_eq C dL_law_363 (by decide) (kk M2 S1 (a1.hi k2) a2 w)
set_option maxHeartbeats 4000000 in
set_option maxRecDepth 100000 in
theorem law_c4 {p : Program} {l : Launch} {e : Env} {s : State} {m : MethodId} {below : List Frame} {meth : Method} {c : Code} {b Ln : Nat} {xs : Nat → Int32} {E : EV} {M : Mem} {x3 : Int32} {q : Nat} {S : Sta} (C : LX p l s m meth c b Ln xs E) (hx3 : x3 = nI q) (hq : q + 6 ≤ Ln) (hA : AC M S) (hR : AR M S) (hW : WFS S) (kk : ∀ (M1 : Mem) (S1 : Sta), AC M1 S1 → AR M1 S1 → WFS S1 → LW p l e s m below meth c b E M1 x3 1468 []) : LW p l e s m below meth c b E M x3 368 [] := by
  obtain ⟨r, S1, f, g, w⟩ := tw_part hW (xs (q + 1))
  obtain ⟨M1, e1, a1, k1⟩ := f M hA
  obtain ⟨M2, e2, a2, k2⟩ := g M1 (hR.lo k1)
  refine lw_al1 C dL_law_368 ?_
  refine lw_arg C (j := 1) hx3 hq (by decide) (by decide) dL_law_369 dL_law_370 dL_law_371 dL_law_372 dL_law_373 ?_
  refine lw_call C (st := []) (k0 := 0) (n := 1) (As := [.int (xs (q + 1))]) (by decide) (by rfl) rfl gL_law_X7_part rfl rfl rfl (by decide +kernel) ⟨Nat.le_of_ble_eq_true rfl, Nat.le_of_ble_eq_true rfl⟩ rfl rfl (Nat.le_of_ble_eq_true rfl) (mtX7_part E l (xs (q + 1)) M) e1 dL_law_374 ?_
  refine lw_al2 C dL_law_377 ?_
  refine lw_arg C (j := 1) hx3 hq (by decide) (by decide) dL_law_378 dL_law_379 dL_law_380 dL_law_381 dL_law_382 ?_
  refine lw_call C (st := [.int r]) (k0 := 57) (n := 1) (As := [.int (xs (q + 1))]) (by decide) (by rfl) rfl gL_law_X8_part rfl rfl rfl (by decide +kernel) ⟨Nat.le_of_ble_eq_true rfl, Nat.le_of_ble_eq_true rfl⟩ rfl rfl (Nat.le_of_ble_eq_true rfl) (mtX8_part E l (xs (q + 1)) M1) e2 dL_law_383 ?_
  exact lw_eq C dL_law_386 (by decide) (kk M2 S1 (a1.hi k2) a2 w)
set_option maxHeartbeats 4000000 in
set_option maxRecDepth 100000 in
theorem law_c5 {p : Program} {l : Launch} {e : Env} {s : State} {m : MethodId} {below : List Frame} {meth : Method} {c : Code} {b Ln : Nat} {xs : Nat → Int32} {E : EV} {M : Mem} {x3 : Int32} {q : Nat} {S : Sta} (C : LX p l s m meth c b Ln xs E) (hx3 : x3 = nI q) (hq : q + 6 ≤ Ln) (hA : AC M S) (hR : AR M S) (hW : WFS S) (kk : ∀ (M1 : Mem) (S1 : Sta), AC M1 S1 → AR M1 S1 → WFS S1 → LW p l e s m below meth c b E M1 x3 1468 []) : LW p l e s m below meth c b E M x3 391 [] := by
  obtain ⟨r, S1, f, g, w⟩ := tw_light hW (xs (q + 1))
  obtain ⟨M1, e1, a1, k1⟩ := f M hA
  obtain ⟨M2, e2, a2, k2⟩ := g M1 (hR.lo k1)
  refine lw_al1 C dL_law_391 ?_
  refine lw_arg C (j := 1) hx3 hq (by decide) (by decide) dL_law_392 dL_law_393 dL_law_394 dL_law_395 dL_law_396 ?_
  refine lw_call C (st := []) (k0 := 0) (n := 1) (As := [.int (xs (q + 1))]) (by decide) (by rfl) rfl gL_law_X7_light rfl rfl rfl (by decide +kernel) ⟨Nat.le_of_ble_eq_true rfl, Nat.le_of_ble_eq_true rfl⟩ rfl rfl (Nat.le_of_ble_eq_true rfl) (mtX7_light E l (xs (q + 1)) M) e1 dL_law_397 ?_
  refine lw_al2 C dL_law_400 ?_
  refine lw_arg C (j := 1) hx3 hq (by decide) (by decide) dL_law_401 dL_law_402 dL_law_403 dL_law_404 dL_law_405 ?_
  refine lw_call C (st := [.int r]) (k0 := 57) (n := 1) (As := [.int (xs (q + 1))]) (by decide) (by rfl) rfl gL_law_X8_light rfl rfl rfl (by decide +kernel) ⟨Nat.le_of_ble_eq_true rfl, Nat.le_of_ble_eq_true rfl⟩ rfl rfl (Nat.le_of_ble_eq_true rfl) (mtX8_light E l (xs (q + 1)) M1) e2 dL_law_406 ?_
  exact lw_eq C dL_law_409 (by decide) (kk M2 S1 (a1.hi k2) a2 w)
set_option maxHeartbeats 4000000 in
set_option maxRecDepth 100000 in
theorem law_c6 {p : Program} {l : Launch} {e : Env} {s : State} {m : MethodId} {below : List Frame} {meth : Method} {c : Code} {b Ln : Nat} {xs : Nat → Int32} {E : EV} {M : Mem} {x3 : Int32} {q : Nat} {S : Sta} (C : LX p l s m meth c b Ln xs E) (hx3 : x3 = nI q) (hq : q + 6 ≤ Ln) (hA : AC M S) (hR : AR M S) (hW : WFS S) (kk : ∀ (M1 : Mem) (S1 : Sta), AC M1 S1 → AR M1 S1 → WFS S1 → LW p l e s m below meth c b E M1 x3 1468 []) : LW p l e s m below meth c b E M x3 414 [] := by
  obtain ⟨r, S1, f, g, w⟩ := tw_claim hW (xs (q + 1)) (xs (q + 2))
  obtain ⟨M1, e1, a1, k1⟩ := f M hA
  obtain ⟨M2, e2, a2, k2⟩ := g M1 (hR.lo k1)
  refine lw_al1 C dL_law_414 ?_
  refine lw_arg C (j := 1) hx3 hq (by decide) (by decide) dL_law_415 dL_law_416 dL_law_417 dL_law_418 dL_law_419 ?_
  refine lw_arg C (j := 2) hx3 hq (by decide) (by decide) dL_law_420 dL_law_421 dL_law_422 dL_law_423 dL_law_424 ?_
  refine lw_call C (st := []) (k0 := 0) (n := 2) (As := [.int (xs (q + 1)), .int (xs (q + 2))]) (by decide) (by rfl) rfl gL_law_X7_claim rfl rfl rfl (by decide +kernel) ⟨Nat.le_of_ble_eq_true rfl, Nat.le_of_ble_eq_true rfl⟩ rfl rfl (Nat.le_of_ble_eq_true rfl) (mtX7_claim E l (xs (q + 1)) (xs (q + 2)) M) e1 dL_law_425 ?_
  refine lw_al2 C dL_law_428 ?_
  refine lw_arg C (j := 1) hx3 hq (by decide) (by decide) dL_law_429 dL_law_430 dL_law_431 dL_law_432 dL_law_433 ?_
  refine lw_arg C (j := 2) hx3 hq (by decide) (by decide) dL_law_434 dL_law_435 dL_law_436 dL_law_437 dL_law_438 ?_
  refine lw_call C (st := [.int r]) (k0 := 57) (n := 2) (As := [.int (xs (q + 1)), .int (xs (q + 2))]) (by decide) (by rfl) rfl gL_law_X8_claim rfl rfl rfl (by decide +kernel) ⟨Nat.le_of_ble_eq_true rfl, Nat.le_of_ble_eq_true rfl⟩ rfl rfl (Nat.le_of_ble_eq_true rfl) (mtX8_claim E l (xs (q + 1)) (xs (q + 2)) M1) e2 dL_law_439 ?_
  exact lw_eq C dL_law_442 (by decide) (kk M2 S1 (a1.hi k2) a2 w)
set_option maxHeartbeats 4000000 in
set_option maxRecDepth 100000 in
theorem law_c7 {p : Program} {l : Launch} {e : Env} {s : State} {m : MethodId} {below : List Frame} {meth : Method} {c : Code} {b Ln : Nat} {xs : Nat → Int32} {E : EV} {M : Mem} {x3 : Int32} {q : Nat} {S : Sta} (C : LX p l s m meth c b Ln xs E) (hx3 : x3 = nI q) (hq : q + 6 ≤ Ln) (hA : AC M S) (hR : AR M S) (hW : WFS S) (kk : ∀ (M1 : Mem) (S1 : Sta), AC M1 S1 → AR M1 S1 → WFS S1 → LW p l e s m below meth c b E M1 x3 1468 []) : LW p l e s m below meth c b E M x3 447 [] := by
  obtain ⟨r, S1, f, g, w⟩ := tw_go hW (xs (q + 1))
  obtain ⟨M1, e1, a1, k1⟩ := f M hA
  obtain ⟨M2, e2, a2, k2⟩ := g M1 (hR.lo k1)
  refine lw_al1 C dL_law_447 ?_
  refine lw_arg C (j := 1) hx3 hq (by decide) (by decide) dL_law_448 dL_law_449 dL_law_450 dL_law_451 dL_law_452 ?_
  refine lw_call C (st := []) (k0 := 0) (n := 1) (As := [.int (xs (q + 1))]) (by decide) (by rfl) rfl gL_law_X7_go rfl rfl rfl (by decide +kernel) ⟨Nat.le_of_ble_eq_true rfl, Nat.le_of_ble_eq_true rfl⟩ rfl rfl (Nat.le_of_ble_eq_true rfl) (mtX7_go E l (xs (q + 1)) M) e1 dL_law_453 ?_
  refine lw_al2 C dL_law_456 ?_
  refine lw_arg C (j := 1) hx3 hq (by decide) (by decide) dL_law_457 dL_law_458 dL_law_459 dL_law_460 dL_law_461 ?_
  refine lw_call C (st := [.int r]) (k0 := 57) (n := 1) (As := [.int (xs (q + 1))]) (by decide) (by rfl) rfl gL_law_X8_go rfl rfl rfl (by decide +kernel) ⟨Nat.le_of_ble_eq_true rfl, Nat.le_of_ble_eq_true rfl⟩ rfl rfl (Nat.le_of_ble_eq_true rfl) (mtX8_go E l (xs (q + 1)) M1) e2 dL_law_462 ?_
  exact lw_eq C dL_law_465 (by decide) (kk M2 S1 (a1.hi k2) a2 w)
set_option maxHeartbeats 4000000 in
set_option maxRecDepth 100000 in
theorem law_c8 {p : Program} {l : Launch} {e : Env} {s : State} {m : MethodId} {below : List Frame} {meth : Method} {c : Code} {b Ln : Nat} {xs : Nat → Int32} {E : EV} {M : Mem} {x3 : Int32} {q : Nat} {S : Sta} (C : LX p l s m meth c b Ln xs E) (hx3 : x3 = nI q) (hq : q + 6 ≤ Ln) (hA : AC M S) (hR : AR M S) (hW : WFS S) (kk : ∀ (M1 : Mem) (S1 : Sta), AC M1 S1 → AR M1 S1 → WFS S1 → LW p l e s m below meth c b E M1 x3 1468 []) : LW p l e s m below meth c b E M x3 470 [] := by
  obtain ⟨r, S1, f, g, w⟩ := tw_at hW (xs (q + 1))
  obtain ⟨M1, e1, a1, k1⟩ := f M hA
  obtain ⟨M2, e2, a2, k2⟩ := g M1 (hR.lo k1)
  refine lw_al1 C dL_law_470 ?_
  refine lw_arg C (j := 1) hx3 hq (by decide) (by decide) dL_law_471 dL_law_472 dL_law_473 dL_law_474 dL_law_475 ?_
  refine lw_call C (st := []) (k0 := 0) (n := 1) (As := [.int (xs (q + 1))]) (by decide) (by rfl) rfl gL_law_X7_at rfl rfl rfl (by decide +kernel) ⟨Nat.le_of_ble_eq_true rfl, Nat.le_of_ble_eq_true rfl⟩ rfl rfl (Nat.le_of_ble_eq_true rfl) (mtX7_at E l (xs (q + 1)) M) e1 dL_law_476 ?_
  refine lw_al2 C dL_law_479 ?_
  refine lw_arg C (j := 1) hx3 hq (by decide) (by decide) dL_law_480 dL_law_481 dL_law_482 dL_law_483 dL_law_484 ?_
  refine lw_call C (st := [.int r]) (k0 := 57) (n := 1) (As := [.int (xs (q + 1))]) (by decide) (by rfl) rfl gL_law_X8_at_ rfl rfl rfl (by decide +kernel) ⟨Nat.le_of_ble_eq_true rfl, Nat.le_of_ble_eq_true rfl⟩ rfl rfl (Nat.le_of_ble_eq_true rfl) (mtX8_at_ E l (xs (q + 1)) M1) e2 dL_law_485 ?_
  exact lw_eq C dL_law_488 (by decide) (kk M2 S1 (a1.hi k2) a2 w)
set_option maxHeartbeats 4000000 in
set_option maxRecDepth 100000 in
theorem law_c9 {p : Program} {l : Launch} {e : Env} {s : State} {m : MethodId} {below : List Frame} {meth : Method} {c : Code} {b Ln : Nat} {xs : Nat → Int32} {E : EV} {M : Mem} {x3 : Int32} {q : Nat} {S : Sta} (C : LX p l s m meth c b Ln xs E) (hx3 : x3 = nI q) (hq : q + 6 ≤ Ln) (hA : AC M S) (hR : AR M S) (hW : WFS S) (kk : ∀ (M1 : Mem) (S1 : Sta), AC M1 S1 → AR M1 S1 → WFS S1 → LW p l e s m below meth c b E M1 x3 1468 []) : LW p l e s m below meth c b E M x3 493 [] := by
  obtain ⟨r, S1, f, g, w⟩ := tw_now hW (xs (q + 1))
  obtain ⟨M1, e1, a1, k1⟩ := f M hA
  obtain ⟨M2, e2, a2, k2⟩ := g M1 (hR.lo k1)
  refine lw_al1 C dL_law_493 ?_
  refine lw_arg C (j := 1) hx3 hq (by decide) (by decide) dL_law_494 dL_law_495 dL_law_496 dL_law_497 dL_law_498 ?_
  refine lw_call C (st := []) (k0 := 0) (n := 1) (As := [.int (xs (q + 1))]) (by decide) (by rfl) rfl gL_law_X7_now rfl rfl rfl (by decide +kernel) ⟨Nat.le_of_ble_eq_true rfl, Nat.le_of_ble_eq_true rfl⟩ rfl rfl (Nat.le_of_ble_eq_true rfl) (mtX7_now E l (xs (q + 1)) M) e1 dL_law_499 ?_
  refine lw_al2 C dL_law_502 ?_
  refine lw_arg C (j := 1) hx3 hq (by decide) (by decide) dL_law_503 dL_law_504 dL_law_505 dL_law_506 dL_law_507 ?_
  refine lw_call C (st := [.int r]) (k0 := 57) (n := 1) (As := [.int (xs (q + 1))]) (by decide) (by rfl) rfl gL_law_X8_now rfl rfl rfl (by decide +kernel) ⟨Nat.le_of_ble_eq_true rfl, Nat.le_of_ble_eq_true rfl⟩ rfl rfl (Nat.le_of_ble_eq_true rfl) (mtX8_now E l (xs (q + 1)) M1) e2 dL_law_508 ?_
  exact lw_eq C dL_law_511 (by decide) (kk M2 S1 (a1.hi k2) a2 w)
set_option maxHeartbeats 4000000 in
set_option maxRecDepth 100000 in
theorem law_c10 {p : Program} {l : Launch} {e : Env} {s : State} {m : MethodId} {below : List Frame} {meth : Method} {c : Code} {b Ln : Nat} {xs : Nat → Int32} {E : EV} {M : Mem} {x3 : Int32} {q : Nat} {S : Sta} (C : LX p l s m meth c b Ln xs E) (hx3 : x3 = nI q) (hq : q + 6 ≤ Ln) (hA : AC M S) (hR : AR M S) (hW : WFS S) (kk : ∀ (M1 : Mem) (S1 : Sta), AC M1 S1 → AR M1 S1 → WFS S1 → LW p l e s m below meth c b E M1 x3 1468 []) : LW p l e s m below meth c b E M x3 516 [] := by
  obtain ⟨r, S1, f, g, w⟩ := tw_met hW (xs (q + 1))
  obtain ⟨M1, e1, a1, k1⟩ := f M hA
  obtain ⟨M2, e2, a2, k2⟩ := g M1 (hR.lo k1)
  refine lw_al1 C dL_law_516 ?_
  refine lw_arg C (j := 1) hx3 hq (by decide) (by decide) dL_law_517 dL_law_518 dL_law_519 dL_law_520 dL_law_521 ?_
  refine lw_call C (st := []) (k0 := 0) (n := 1) (As := [.int (xs (q + 1))]) (by decide) (by rfl) rfl gL_law_X7_met rfl rfl rfl (by decide +kernel) ⟨Nat.le_of_ble_eq_true rfl, Nat.le_of_ble_eq_true rfl⟩ rfl rfl (Nat.le_of_ble_eq_true rfl) (mtX7_met E l (xs (q + 1)) M) e1 dL_law_522 ?_
  refine lw_al2 C dL_law_525 ?_
  refine lw_arg C (j := 1) hx3 hq (by decide) (by decide) dL_law_526 dL_law_527 dL_law_528 dL_law_529 dL_law_530 ?_
  refine lw_call C (st := [.int r]) (k0 := 57) (n := 1) (As := [.int (xs (q + 1))]) (by decide) (by rfl) rfl gL_law_X8_met rfl rfl rfl (by decide +kernel) ⟨Nat.le_of_ble_eq_true rfl, Nat.le_of_ble_eq_true rfl⟩ rfl rfl (Nat.le_of_ble_eq_true rfl) (mtX8_met E l (xs (q + 1)) M1) e2 dL_law_531 ?_
  exact lw_eq C dL_law_534 (by decide) (kk M2 S1 (a1.hi k2) a2 w)
set_option maxHeartbeats 4000000 in
set_option maxRecDepth 100000 in
theorem law_c11 {p : Program} {l : Launch} {e : Env} {s : State} {m : MethodId} {below : List Frame} {meth : Method} {c : Code} {b Ln : Nat} {xs : Nat → Int32} {E : EV} {M : Mem} {x3 : Int32} {q : Nat} {S : Sta} (C : LX p l s m meth c b Ln xs E) (hx3 : x3 = nI q) (hq : q + 6 ≤ Ln) (hA : AC M S) (hR : AR M S) (hW : WFS S) (kk : ∀ (M1 : Mem) (S1 : Sta), AC M1 S1 → AR M1 S1 → WFS S1 → LW p l e s m below meth c b E M1 x3 1468 []) : LW p l e s m below meth c b E M x3 539 [] := by
  obtain ⟨r, S1, f, g, w⟩ := tw_cold hW (xs (q + 1))
  obtain ⟨M1, e1, a1, k1⟩ := f M hA
  obtain ⟨M2, e2, a2, k2⟩ := g M1 (hR.lo k1)
  refine lw_al1 C dL_law_539 ?_
  refine lw_arg C (j := 1) hx3 hq (by decide) (by decide) dL_law_540 dL_law_541 dL_law_542 dL_law_543 dL_law_544 ?_
  refine lw_call C (st := []) (k0 := 0) (n := 1) (As := [.int (xs (q + 1))]) (by decide) (by rfl) rfl gL_law_X7_cold rfl rfl rfl (by decide +kernel) ⟨Nat.le_of_ble_eq_true rfl, Nat.le_of_ble_eq_true rfl⟩ rfl rfl (Nat.le_of_ble_eq_true rfl) (mtX7_cold E l (xs (q + 1)) M) e1 dL_law_545 ?_
  refine lw_al2 C dL_law_548 ?_
  refine lw_arg C (j := 1) hx3 hq (by decide) (by decide) dL_law_549 dL_law_550 dL_law_551 dL_law_552 dL_law_553 ?_
  refine lw_call C (st := [.int r]) (k0 := 57) (n := 1) (As := [.int (xs (q + 1))]) (by decide) (by rfl) rfl gL_law_X8_cold rfl rfl rfl (by decide +kernel) ⟨Nat.le_of_ble_eq_true rfl, Nat.le_of_ble_eq_true rfl⟩ rfl rfl (Nat.le_of_ble_eq_true rfl) (mtX8_cold E l (xs (q + 1)) M1) e2 dL_law_554 ?_
  exact lw_eq C dL_law_557 (by decide) (kk M2 S1 (a1.hi k2) a2 w)
set_option maxHeartbeats 4000000 in
set_option maxRecDepth 100000 in
theorem law_c12 {p : Program} {l : Launch} {e : Env} {s : State} {m : MethodId} {below : List Frame} {meth : Method} {c : Code} {b Ln : Nat} {xs : Nat → Int32} {E : EV} {M : Mem} {x3 : Int32} {q : Nat} {S : Sta} (C : LX p l s m meth c b Ln xs E) (hx3 : x3 = nI q) (hq : q + 6 ≤ Ln) (hA : AC M S) (hR : AR M S) (hW : WFS S) (kk : ∀ (M1 : Mem) (S1 : Sta), AC M1 S1 → AR M1 S1 → WFS S1 → LW p l e s m below meth c b E M1 x3 1468 []) : LW p l e s m below meth c b E M x3 562 [] := by
  obtain ⟨r, S1, f, g, w⟩ := tw_shade hW (xs (q + 1))
  obtain ⟨M1, e1, a1, k1⟩ := f M hA
  obtain ⟨M2, e2, a2, k2⟩ := g M1 (hR.lo k1)
  refine lw_al1 C dL_law_562 ?_
  refine lw_arg C (j := 1) hx3 hq (by decide) (by decide) dL_law_563 dL_law_564 dL_law_565 dL_law_566 dL_law_567 ?_
  refine lw_call C (st := []) (k0 := 0) (n := 1) (As := [.int (xs (q + 1))]) (by decide) (by rfl) rfl gL_law_X7_shade rfl rfl rfl (by decide +kernel) ⟨Nat.le_of_ble_eq_true rfl, Nat.le_of_ble_eq_true rfl⟩ rfl rfl (Nat.le_of_ble_eq_true rfl) (mtX7_shade E l (xs (q + 1)) M) e1 dL_law_568 ?_
  refine lw_al2 C dL_law_571 ?_
  refine lw_arg C (j := 1) hx3 hq (by decide) (by decide) dL_law_572 dL_law_573 dL_law_574 dL_law_575 dL_law_576 ?_
  refine lw_call C (st := [.int r]) (k0 := 57) (n := 1) (As := [.int (xs (q + 1))]) (by decide) (by rfl) rfl gL_law_X8_shade rfl rfl rfl (by decide +kernel) ⟨Nat.le_of_ble_eq_true rfl, Nat.le_of_ble_eq_true rfl⟩ rfl rfl (Nat.le_of_ble_eq_true rfl) (mtX8_shade E l (xs (q + 1)) M1) e2 dL_law_577 ?_
  exact lw_eq C dL_law_580 (by decide) (kk M2 S1 (a1.hi k2) a2 w)
set_option maxHeartbeats 4000000 in
set_option maxRecDepth 100000 in
theorem law_c13 {p : Program} {l : Launch} {e : Env} {s : State} {m : MethodId} {below : List Frame} {meth : Method} {c : Code} {b Ln : Nat} {xs : Nat → Int32} {E : EV} {M : Mem} {x3 : Int32} {q : Nat} {S : Sta} (C : LX p l s m meth c b Ln xs E) (hx3 : x3 = nI q) (hq : q + 6 ≤ Ln) (hA : AC M S) (hR : AR M S) (hW : WFS S) (kk : ∀ (M1 : Mem) (S1 : Sta), AC M1 S1 → AR M1 S1 → WFS S1 → LW p l e s m below meth c b E M1 x3 1468 []) : LW p l e s m below meth c b E M x3 585 [] := by
  obtain ⟨r, S1, f, g, w⟩ := tw_all hW
  obtain ⟨M1, e1, a1, k1⟩ := f M hA
  obtain ⟨M2, e2, a2, k2⟩ := g M1 (hR.lo k1)
  refine lw_al1 C dL_law_585 ?_
  refine lw_call C (st := []) (k0 := 0) (n := 0) (As := []) (by decide) (by rfl) rfl gL_law_X7_all rfl rfl rfl (by decide +kernel) ⟨Nat.le_of_ble_eq_true rfl, Nat.le_of_ble_eq_true rfl⟩ rfl rfl (Nat.le_of_ble_eq_true rfl) (mtX7_all E l  M) e1 dL_law_586 ?_
  refine lw_al2 C dL_law_589 ?_
  refine lw_call C (st := [.int r]) (k0 := 57) (n := 0) (As := []) (by decide) (by rfl) rfl gL_law_X8_all rfl rfl rfl (by decide +kernel) ⟨Nat.le_of_ble_eq_true rfl, Nat.le_of_ble_eq_true rfl⟩ rfl rfl (Nat.le_of_ble_eq_true rfl) (mtX8_all E l  M1) e2 dL_law_590 ?_
  exact lw_eq C dL_law_593 (by decide) (kk M2 S1 (a1.hi k2) a2 w)
set_option maxHeartbeats 4000000 in
set_option maxRecDepth 100000 in
theorem law_c14 {p : Program} {l : Launch} {e : Env} {s : State} {m : MethodId} {below : List Frame} {meth : Method} {c : Code} {b Ln : Nat} {xs : Nat → Int32} {E : EV} {M : Mem} {x3 : Int32} {q : Nat} {S : Sta} (C : LX p l s m meth c b Ln xs E) (hx3 : x3 = nI q) (hq : q + 6 ≤ Ln) (hA : AC M S) (hR : AR M S) (hW : WFS S) (kk : ∀ (M1 : Mem) (S1 : Sta), AC M1 S1 → AR M1 S1 → WFS S1 → LW p l e s m below meth c b E M1 x3 1468 []) : LW p l e s m below meth c b E M x3 598 [] := by
  obtain ⟨r, S1, f, g, w⟩ := tw_tan hW (xs (q + 1))
  obtain ⟨M1, e1, a1, k1⟩ := f M hA
  obtain ⟨M2, e2, a2, k2⟩ := g M1 (hR.lo k1)
  refine lw_al1 C dL_law_598 ?_
  refine lw_arg C (j := 1) hx3 hq (by decide) (by decide) dL_law_599 dL_law_600 dL_law_601 dL_law_602 dL_law_603 ?_
  refine lw_call C (st := []) (k0 := 0) (n := 1) (As := [.int (xs (q + 1))]) (by decide) (by rfl) rfl gL_law_X7_tan rfl rfl rfl (by decide +kernel) ⟨Nat.le_of_ble_eq_true rfl, Nat.le_of_ble_eq_true rfl⟩ rfl rfl (Nat.le_of_ble_eq_true rfl) (mtX7_tan E l (xs (q + 1)) M) e1 dL_law_604 ?_
  refine lw_al2 C dL_law_607 ?_
  refine lw_arg C (j := 1) hx3 hq (by decide) (by decide) dL_law_608 dL_law_609 dL_law_610 dL_law_611 dL_law_612 ?_
  refine lw_call C (st := [.int r]) (k0 := 57) (n := 1) (As := [.int (xs (q + 1))]) (by decide) (by rfl) rfl gL_law_X8_tan rfl rfl rfl (by decide +kernel) ⟨Nat.le_of_ble_eq_true rfl, Nat.le_of_ble_eq_true rfl⟩ rfl rfl (Nat.le_of_ble_eq_true rfl) (mtX8_tan E l (xs (q + 1)) M1) e2 dL_law_613 ?_
  exact lw_eq C dL_law_616 (by decide) (kk M2 S1 (a1.hi k2) a2 w)
set_option maxHeartbeats 4000000 in
set_option maxRecDepth 100000 in
theorem law_c15 {p : Program} {l : Launch} {e : Env} {s : State} {m : MethodId} {below : List Frame} {meth : Method} {c : Code} {b Ln : Nat} {xs : Nat → Int32} {E : EV} {M : Mem} {x3 : Int32} {q : Nat} {S : Sta} (C : LX p l s m meth c b Ln xs E) (hx3 : x3 = nI q) (hq : q + 6 ≤ Ln) (hA : AC M S) (hR : AR M S) (hW : WFS S) (kk : ∀ (M1 : Mem) (S1 : Sta), AC M1 S1 → AR M1 S1 → WFS S1 → LW p l e s m below meth c b E M1 x3 1468 []) : LW p l e s m below meth c b E M x3 621 [] := by
  obtain ⟨r, S1, f, g, w⟩ := tw_strong hW (xs (q + 1))
  obtain ⟨M1, e1, a1, k1⟩ := f M hA
  obtain ⟨M2, e2, a2, k2⟩ := g M1 (hR.lo k1)
  refine lw_al1 C dL_law_621 ?_
  refine lw_arg C (j := 1) hx3 hq (by decide) (by decide) dL_law_622 dL_law_623 dL_law_624 dL_law_625 dL_law_626 ?_
  refine lw_call C (st := []) (k0 := 0) (n := 1) (As := [.int (xs (q + 1))]) (by decide) (by rfl) rfl gL_law_X7_strong rfl rfl rfl (by decide +kernel) ⟨Nat.le_of_ble_eq_true rfl, Nat.le_of_ble_eq_true rfl⟩ rfl rfl (Nat.le_of_ble_eq_true rfl) (mtX7_strong E l (xs (q + 1)) M) e1 dL_law_627 ?_
  refine lw_al2 C dL_law_630 ?_
  refine lw_arg C (j := 1) hx3 hq (by decide) (by decide) dL_law_631 dL_law_632 dL_law_633 dL_law_634 dL_law_635 ?_
  refine lw_call C (st := [.int r]) (k0 := 57) (n := 1) (As := [.int (xs (q + 1))]) (by decide) (by rfl) rfl gL_law_X8_strong rfl rfl rfl (by decide +kernel) ⟨Nat.le_of_ble_eq_true rfl, Nat.le_of_ble_eq_true rfl⟩ rfl rfl (Nat.le_of_ble_eq_true rfl) (mtX8_strong E l (xs (q + 1)) M1) e2 dL_law_636 ?_
  exact lw_eq C dL_law_639 (by decide) (kk M2 S1 (a1.hi k2) a2 w)
set_option maxHeartbeats 4000000 in
set_option maxRecDepth 100000 in
theorem law_c16 {p : Program} {l : Launch} {e : Env} {s : State} {m : MethodId} {below : List Frame} {meth : Method} {c : Code} {b Ln : Nat} {xs : Nat → Int32} {E : EV} {M : Mem} {x3 : Int32} {q : Nat} {S : Sta} (C : LX p l s m meth c b Ln xs E) (hx3 : x3 = nI q) (hq : q + 6 ≤ Ln) (hA : AC M S) (hR : AR M S) (hW : WFS S) (kk : ∀ (M1 : Mem) (S1 : Sta), AC M1 S1 → AR M1 S1 → WFS S1 → LW p l e s m below meth c b E M1 x3 1468 []) : LW p l e s m below meth c b E M x3 644 [] := by
  obtain ⟨r, S1, f, g, w⟩ := tw_kindFor hW (xs (q + 1))
  obtain ⟨M1, e1, a1, k1⟩ := f M hA
  obtain ⟨M2, e2, a2, k2⟩ := g M1 (hR.lo k1)
  refine lw_al1 C dL_law_644 ?_
  refine lw_arg C (j := 1) hx3 hq (by decide) (by decide) dL_law_645 dL_law_646 dL_law_647 dL_law_648 dL_law_649 ?_
  refine lw_call C (st := []) (k0 := 0) (n := 1) (As := [.int (xs (q + 1))]) (by decide) (by rfl) rfl gL_law_X7_kindFor rfl rfl rfl (by decide +kernel) ⟨Nat.le_of_ble_eq_true rfl, Nat.le_of_ble_eq_true rfl⟩ rfl rfl (Nat.le_of_ble_eq_true rfl) (mtX7_kindFor E l (xs (q + 1)) M) e1 dL_law_650 ?_
  refine lw_al2 C dL_law_653 ?_
  refine lw_arg C (j := 1) hx3 hq (by decide) (by decide) dL_law_654 dL_law_655 dL_law_656 dL_law_657 dL_law_658 ?_
  refine lw_call C (st := [.int r]) (k0 := 57) (n := 1) (As := [.int (xs (q + 1))]) (by decide) (by rfl) rfl gL_law_X8_kindFor rfl rfl rfl (by decide +kernel) ⟨Nat.le_of_ble_eq_true rfl, Nat.le_of_ble_eq_true rfl⟩ rfl rfl (Nat.le_of_ble_eq_true rfl) (mtX8_kindFor E l (xs (q + 1)) M1) e2 dL_law_659 ?_
  exact lw_eq C dL_law_662 (by decide) (kk M2 S1 (a1.hi k2) a2 w)
set_option maxHeartbeats 4000000 in
set_option maxRecDepth 100000 in
theorem law_c17 {p : Program} {l : Launch} {e : Env} {s : State} {m : MethodId} {below : List Frame} {meth : Method} {c : Code} {b Ln : Nat} {xs : Nat → Int32} {E : EV} {M : Mem} {x3 : Int32} {q : Nat} {S : Sta} (C : LX p l s m meth c b Ln xs E) (hx3 : x3 = nI q) (hq : q + 6 ≤ Ln) (hA : AC M S) (hR : AR M S) (hW : WFS S) (kk : ∀ (M1 : Mem) (S1 : Sta), AC M1 S1 → AR M1 S1 → WFS S1 → LW p l e s m below meth c b E M1 x3 1468 []) : LW p l e s m below meth c b E M x3 667 [] := by
  obtain ⟨r, S1, f, g, w⟩ := tw_cloud hW
  obtain ⟨M1, e1, a1, k1⟩ := f M hA
  obtain ⟨M2, e2, a2, k2⟩ := g M1 (hR.lo k1)
  refine lw_al1 C dL_law_667 ?_
  refine lw_call C (st := []) (k0 := 0) (n := 0) (As := []) (by decide) (by rfl) rfl gL_law_X7_cloud rfl rfl rfl (by decide +kernel) ⟨Nat.le_of_ble_eq_true rfl, Nat.le_of_ble_eq_true rfl⟩ rfl rfl (Nat.le_of_ble_eq_true rfl) (mtX7_cloud E l  M) e1 dL_law_668 ?_
  refine lw_al2 C dL_law_671 ?_
  refine lw_call C (st := [.int r]) (k0 := 57) (n := 0) (As := []) (by decide) (by rfl) rfl gL_law_X8_cloud rfl rfl rfl (by decide +kernel) ⟨Nat.le_of_ble_eq_true rfl, Nat.le_of_ble_eq_true rfl⟩ rfl rfl (Nat.le_of_ble_eq_true rfl) (mtX8_cloud E l  M1) e2 dL_law_672 ?_
  exact lw_eq C dL_law_675 (by decide) (kk M2 S1 (a1.hi k2) a2 w)
set_option maxHeartbeats 4000000 in
set_option maxRecDepth 100000 in
theorem law_c18 {p : Program} {l : Launch} {e : Env} {s : State} {m : MethodId} {below : List Frame} {meth : Method} {c : Code} {b Ln : Nat} {xs : Nat → Int32} {E : EV} {M : Mem} {x3 : Int32} {q : Nat} {S : Sta} (C : LX p l s m meth c b Ln xs E) (hx3 : x3 = nI q) (hq : q + 6 ≤ Ln) (hA : AC M S) (hR : AR M S) (hW : WFS S) (kk : ∀ (M1 : Mem) (S1 : Sta), AC M1 S1 → AR M1 S1 → WFS S1 → LW p l e s m below meth c b E M1 x3 1468 []) : LW p l e s m below meth c b E M x3 680 [] := by
  obtain ⟨r, S1, f, g, w⟩ := tw_agree hW (xs (q + 1)) (xs (q + 2))
  obtain ⟨M1, e1, a1, k1⟩ := f M hA
  obtain ⟨M2, e2, a2, k2⟩ := g M1 (hR.lo k1)
  refine lw_al1 C dL_law_680 ?_
  refine lw_arg C (j := 1) hx3 hq (by decide) (by decide) dL_law_681 dL_law_682 dL_law_683 dL_law_684 dL_law_685 ?_
  refine lw_arg C (j := 2) hx3 hq (by decide) (by decide) dL_law_686 dL_law_687 dL_law_688 dL_law_689 dL_law_690 ?_
  refine lw_call C (st := []) (k0 := 0) (n := 2) (As := [.int (xs (q + 1)), .int (xs (q + 2))]) (by decide) (by rfl) rfl gL_law_X7_agree rfl rfl rfl (by decide +kernel) ⟨Nat.le_of_ble_eq_true rfl, Nat.le_of_ble_eq_true rfl⟩ rfl rfl (Nat.le_of_ble_eq_true rfl) (mtX7_agree E l (xs (q + 1)) (xs (q + 2)) M) e1 dL_law_691 ?_
  refine lw_al2 C dL_law_694 ?_
  refine lw_arg C (j := 1) hx3 hq (by decide) (by decide) dL_law_695 dL_law_696 dL_law_697 dL_law_698 dL_law_699 ?_
  refine lw_arg C (j := 2) hx3 hq (by decide) (by decide) dL_law_700 dL_law_701 dL_law_702 dL_law_703 dL_law_704 ?_
  refine lw_call C (st := [.int r]) (k0 := 57) (n := 2) (As := [.int (xs (q + 1)), .int (xs (q + 2))]) (by decide) (by rfl) rfl gL_law_X8_agree rfl rfl rfl (by decide +kernel) ⟨Nat.le_of_ble_eq_true rfl, Nat.le_of_ble_eq_true rfl⟩ rfl rfl (Nat.le_of_ble_eq_true rfl) (mtX8_agree E l (xs (q + 1)) (xs (q + 2)) M1) e2 dL_law_705 ?_
  exact lw_eq C dL_law_708 (by decide) (kk M2 S1 (a1.hi k2) a2 w)
set_option maxHeartbeats 4000000 in
set_option maxRecDepth 100000 in
theorem law_c19 {p : Program} {l : Launch} {e : Env} {s : State} {m : MethodId} {below : List Frame} {meth : Method} {c : Code} {b Ln : Nat} {xs : Nat → Int32} {E : EV} {M : Mem} {x3 : Int32} {q : Nat} {S : Sta} (C : LX p l s m meth c b Ln xs E) (hx3 : x3 = nI q) (hq : q + 6 ≤ Ln) (hA : AC M S) (hR : AR M S) (hW : WFS S) (kk : ∀ (M1 : Mem) (S1 : Sta), AC M1 S1 → AR M1 S1 → WFS S1 → LW p l e s m below meth c b E M1 x3 1468 []) : LW p l e s m below meth c b E M x3 713 [] := by
  obtain ⟨r, S1, f, g, w⟩ := tw_changes hW (xs (q + 1)) (xs (q + 2))
  obtain ⟨M1, e1, a1, k1⟩ := f M hA
  obtain ⟨M2, e2, a2, k2⟩ := g M1 (hR.lo k1)
  refine lw_al1 C dL_law_713 ?_
  refine lw_arg C (j := 1) hx3 hq (by decide) (by decide) dL_law_714 dL_law_715 dL_law_716 dL_law_717 dL_law_718 ?_
  refine lw_arg C (j := 2) hx3 hq (by decide) (by decide) dL_law_719 dL_law_720 dL_law_721 dL_law_722 dL_law_723 ?_
  refine lw_call C (st := []) (k0 := 0) (n := 2) (As := [.int (xs (q + 1)), .int (xs (q + 2))]) (by decide) (by rfl) rfl gL_law_X7_changes rfl rfl rfl (by decide +kernel) ⟨Nat.le_of_ble_eq_true rfl, Nat.le_of_ble_eq_true rfl⟩ rfl rfl (Nat.le_of_ble_eq_true rfl) (mtX7_changes E l (xs (q + 1)) (xs (q + 2)) M) e1 dL_law_724 ?_
  refine lw_al2 C dL_law_727 ?_
  refine lw_arg C (j := 1) hx3 hq (by decide) (by decide) dL_law_728 dL_law_729 dL_law_730 dL_law_731 dL_law_732 ?_
  refine lw_arg C (j := 2) hx3 hq (by decide) (by decide) dL_law_733 dL_law_734 dL_law_735 dL_law_736 dL_law_737 ?_
  refine lw_call C (st := [.int r]) (k0 := 57) (n := 2) (As := [.int (xs (q + 1)), .int (xs (q + 2))]) (by decide) (by rfl) rfl gL_law_X8_changes rfl rfl rfl (by decide +kernel) ⟨Nat.le_of_ble_eq_true rfl, Nat.le_of_ble_eq_true rfl⟩ rfl rfl (Nat.le_of_ble_eq_true rfl) (mtX8_changes E l (xs (q + 1)) (xs (q + 2)) M1) e2 dL_law_738 ?_
  exact lw_eq C dL_law_741 (by decide) (kk M2 S1 (a1.hi k2) a2 w)
set_option maxHeartbeats 4000000 in
set_option maxRecDepth 100000 in
theorem law_c20 {p : Program} {l : Launch} {e : Env} {s : State} {m : MethodId} {below : List Frame} {meth : Method} {c : Code} {b Ln : Nat} {xs : Nat → Int32} {E : EV} {M : Mem} {x3 : Int32} {q : Nat} {S : Sta} (C : LX p l s m meth c b Ln xs E) (hx3 : x3 = nI q) (hq : q + 6 ≤ Ln) (hA : AC M S) (hR : AR M S) (hW : WFS S) (kk : ∀ (M1 : Mem) (S1 : Sta), AC M1 S1 → AR M1 S1 → WFS S1 → LW p l e s m below meth c b E M1 x3 1468 []) : LW p l e s m below meth c b E M x3 746 [] := by
  obtain ⟨r, S1, f, g, w⟩ := tw_holder hW (xs (q + 1)) (xs (q + 2)) (xs (q + 3))
  obtain ⟨M1, e1, a1, k1⟩ := f M hA
  obtain ⟨M2, e2, a2, k2⟩ := g M1 (hR.lo k1)
  refine lw_al1 C dL_law_746 ?_
  refine lw_arg C (j := 1) hx3 hq (by decide) (by decide) dL_law_747 dL_law_748 dL_law_749 dL_law_750 dL_law_751 ?_
  refine lw_arg C (j := 2) hx3 hq (by decide) (by decide) dL_law_752 dL_law_753 dL_law_754 dL_law_755 dL_law_756 ?_
  refine lw_arg C (j := 3) hx3 hq (by decide) (by decide) dL_law_757 dL_law_758 dL_law_759 dL_law_760 dL_law_761 ?_
  refine lw_call C (st := []) (k0 := 0) (n := 3) (As := [.int (xs (q + 1)), .int (xs (q + 2)), .int (xs (q + 3))]) (by decide) (by rfl) rfl gL_law_X7_holder rfl rfl rfl (by decide +kernel) ⟨Nat.le_of_ble_eq_true rfl, Nat.le_of_ble_eq_true rfl⟩ rfl rfl (Nat.le_of_ble_eq_true rfl) (mtX7_holder E l (xs (q + 1)) (xs (q + 2)) (xs (q + 3)) M) e1 dL_law_762 ?_
  refine lw_al2 C dL_law_765 ?_
  refine lw_arg C (j := 1) hx3 hq (by decide) (by decide) dL_law_766 dL_law_767 dL_law_768 dL_law_769 dL_law_770 ?_
  refine lw_arg C (j := 2) hx3 hq (by decide) (by decide) dL_law_771 dL_law_772 dL_law_773 dL_law_774 dL_law_775 ?_
  refine lw_arg C (j := 3) hx3 hq (by decide) (by decide) dL_law_776 dL_law_777 dL_law_778 dL_law_779 dL_law_780 ?_
  refine lw_call C (st := [.int r]) (k0 := 57) (n := 3) (As := [.int (xs (q + 1)), .int (xs (q + 2)), .int (xs (q + 3))]) (by decide) (by rfl) rfl gL_law_X8_holder rfl rfl rfl (by decide +kernel) ⟨Nat.le_of_ble_eq_true rfl, Nat.le_of_ble_eq_true rfl⟩ rfl rfl (Nat.le_of_ble_eq_true rfl) (mtX8_holder E l (xs (q + 1)) (xs (q + 2)) (xs (q + 3)) M1) e2 dL_law_781 ?_
  exact lw_eq C dL_law_784 (by decide) (kk M2 S1 (a1.hi k2) a2 w)
set_option maxHeartbeats 4000000 in
set_option maxRecDepth 100000 in
theorem law_c21 {p : Program} {l : Launch} {e : Env} {s : State} {m : MethodId} {below : List Frame} {meth : Method} {c : Code} {b Ln : Nat} {xs : Nat → Int32} {E : EV} {M : Mem} {x3 : Int32} {q : Nat} {S : Sta} (C : LX p l s m meth c b Ln xs E) (hx3 : x3 = nI q) (hq : q + 6 ≤ Ln) (hA : AC M S) (hR : AR M S) (hW : WFS S) (kk : ∀ (M1 : Mem) (S1 : Sta), AC M1 S1 → AR M1 S1 → WFS S1 → LW p l e s m below meth c b E M1 x3 1468 []) : LW p l e s m below meth c b E M x3 789 [] := by
  obtain ⟨r, S1, f, g, w⟩ := tw_gain hW (xs (q + 1)) (xs (q + 2))
  obtain ⟨M1, e1, a1, k1⟩ := f M hA
  obtain ⟨M2, e2, a2, k2⟩ := g M1 (hR.lo k1)
  refine lw_al1 C dL_law_789 ?_
  refine lw_arg C (j := 1) hx3 hq (by decide) (by decide) dL_law_790 dL_law_791 dL_law_792 dL_law_793 dL_law_794 ?_
  refine lw_arg C (j := 2) hx3 hq (by decide) (by decide) dL_law_795 dL_law_796 dL_law_797 dL_law_798 dL_law_799 ?_
  refine lw_call C (st := []) (k0 := 0) (n := 2) (As := [.int (xs (q + 1)), .int (xs (q + 2))]) (by decide) (by rfl) rfl gL_law_X7_gain rfl rfl rfl (by decide +kernel) ⟨Nat.le_of_ble_eq_true rfl, Nat.le_of_ble_eq_true rfl⟩ rfl rfl (Nat.le_of_ble_eq_true rfl) (mtX7_gain E l (xs (q + 1)) (xs (q + 2)) M) e1 dL_law_800 ?_
  refine lw_al2 C dL_law_803 ?_
  refine lw_arg C (j := 1) hx3 hq (by decide) (by decide) dL_law_804 dL_law_805 dL_law_806 dL_law_807 dL_law_808 ?_
  refine lw_arg C (j := 2) hx3 hq (by decide) (by decide) dL_law_809 dL_law_810 dL_law_811 dL_law_812 dL_law_813 ?_
  refine lw_call C (st := [.int r]) (k0 := 57) (n := 2) (As := [.int (xs (q + 1)), .int (xs (q + 2))]) (by decide) (by rfl) rfl gL_law_X8_gain rfl rfl rfl (by decide +kernel) ⟨Nat.le_of_ble_eq_true rfl, Nat.le_of_ble_eq_true rfl⟩ rfl rfl (Nat.le_of_ble_eq_true rfl) (mtX8_gain E l (xs (q + 1)) (xs (q + 2)) M1) e2 dL_law_814 ?_
  exact lw_eq C dL_law_817 (by decide) (kk M2 S1 (a1.hi k2) a2 w)
set_option maxHeartbeats 4000000 in
set_option maxRecDepth 100000 in
theorem law_c22 {p : Program} {l : Launch} {e : Env} {s : State} {m : MethodId} {below : List Frame} {meth : Method} {c : Code} {b Ln : Nat} {xs : Nat → Int32} {E : EV} {M : Mem} {x3 : Int32} {q : Nat} {S : Sta} (C : LX p l s m meth c b Ln xs E) (hx3 : x3 = nI q) (hq : q + 6 ≤ Ln) (hA : AC M S) (hR : AR M S) (hW : WFS S) (kk : ∀ (M1 : Mem) (S1 : Sta), AC M1 S1 → AR M1 S1 → WFS S1 → LW p l e s m below meth c b E M1 x3 1468 []) : LW p l e s m below meth c b E M x3 822 [] := by
  obtain ⟨r, S1, f, g, w⟩ := tw_pairs hW
  obtain ⟨M1, e1, a1, k1⟩ := f M hA
  obtain ⟨M2, e2, a2, k2⟩ := g M1 (hR.lo k1)
  refine lw_al1 C dL_law_822 ?_
  refine lw_call C (st := []) (k0 := 0) (n := 0) (As := []) (by decide) (by rfl) rfl gL_law_X7_pairs rfl rfl rfl (by decide +kernel) ⟨Nat.le_of_ble_eq_true rfl, Nat.le_of_ble_eq_true rfl⟩ rfl rfl (Nat.le_of_ble_eq_true rfl) (mtX7_pairs E l  M) e1 dL_law_823 ?_
  refine lw_al2 C dL_law_826 ?_
  refine lw_call C (st := [.int r]) (k0 := 57) (n := 0) (As := []) (by decide) (by rfl) rfl gL_law_X8_pairs rfl rfl rfl (by decide +kernel) ⟨Nat.le_of_ble_eq_true rfl, Nat.le_of_ble_eq_true rfl⟩ rfl rfl (Nat.le_of_ble_eq_true rfl) (mtX8_pairs E l  M1) e2 dL_law_827 ?_
  exact lw_eq C dL_law_830 (by decide) (kk M2 S1 (a1.hi k2) a2 w)
set_option maxHeartbeats 4000000 in
set_option maxRecDepth 100000 in
theorem law_c23 {p : Program} {l : Launch} {e : Env} {s : State} {m : MethodId} {below : List Frame} {meth : Method} {c : Code} {b Ln : Nat} {xs : Nat → Int32} {E : EV} {M : Mem} {x3 : Int32} {q : Nat} {S : Sta} (C : LX p l s m meth c b Ln xs E) (hx3 : x3 = nI q) (hq : q + 6 ≤ Ln) (hA : AC M S) (hR : AR M S) (hW : WFS S) (kk : ∀ (M1 : Mem) (S1 : Sta), AC M1 S1 → AR M1 S1 → WFS S1 → LW p l e s m below meth c b E M1 x3 1468 []) : LW p l e s m below meth c b E M x3 835 [] := by
  obtain ⟨r, S1, f, g, w⟩ := tw_mate hW (xs (q + 1))
  obtain ⟨M1, e1, a1, k1⟩ := f M hA
  obtain ⟨M2, e2, a2, k2⟩ := g M1 (hR.lo k1)
  refine lw_al1 C dL_law_835 ?_
  refine lw_arg C (j := 1) hx3 hq (by decide) (by decide) dL_law_836 dL_law_837 dL_law_838 dL_law_839 dL_law_840 ?_
  refine lw_call C (st := []) (k0 := 0) (n := 1) (As := [.int (xs (q + 1))]) (by decide) (by rfl) rfl gL_law_X7_mate rfl rfl rfl (by decide +kernel) ⟨Nat.le_of_ble_eq_true rfl, Nat.le_of_ble_eq_true rfl⟩ rfl rfl (Nat.le_of_ble_eq_true rfl) (mtX7_mate E l (xs (q + 1)) M) e1 dL_law_841 ?_
  refine lw_al2 C dL_law_844 ?_
  refine lw_arg C (j := 1) hx3 hq (by decide) (by decide) dL_law_845 dL_law_846 dL_law_847 dL_law_848 dL_law_849 ?_
  refine lw_call C (st := [.int r]) (k0 := 57) (n := 1) (As := [.int (xs (q + 1))]) (by decide) (by rfl) rfl gL_law_X8_mate rfl rfl rfl (by decide +kernel) ⟨Nat.le_of_ble_eq_true rfl, Nat.le_of_ble_eq_true rfl⟩ rfl rfl (Nat.le_of_ble_eq_true rfl) (mtX8_mate E l (xs (q + 1)) M1) e2 dL_law_850 ?_
  exact lw_eq C dL_law_853 (by decide) (kk M2 S1 (a1.hi k2) a2 w)
set_option maxHeartbeats 4000000 in
set_option maxRecDepth 100000 in
theorem law_c24 {p : Program} {l : Launch} {e : Env} {s : State} {m : MethodId} {below : List Frame} {meth : Method} {c : Code} {b Ln : Nat} {xs : Nat → Int32} {E : EV} {M : Mem} {x3 : Int32} {q : Nat} {S : Sta} (C : LX p l s m meth c b Ln xs E) (hx3 : x3 = nI q) (hq : q + 6 ≤ Ln) (hA : AC M S) (hR : AR M S) (hW : WFS S) (kk : ∀ (M1 : Mem) (S1 : Sta), AC M1 S1 → AR M1 S1 → WFS S1 → LW p l e s m below meth c b E M1 x3 1468 []) : LW p l e s m below meth c b E M x3 858 [] := by
  obtain ⟨r, S1, f, g, w⟩ := tw_ways hW
  obtain ⟨M1, e1, a1, k1⟩ := f M hA
  obtain ⟨M2, e2, a2, k2⟩ := g M1 (hR.lo k1)
  refine lw_al1 C dL_law_858 ?_
  refine lw_call C (st := []) (k0 := 0) (n := 0) (As := []) (by decide) (by rfl) rfl gL_law_X7_ways rfl rfl rfl (by decide +kernel) ⟨Nat.le_of_ble_eq_true rfl, Nat.le_of_ble_eq_true rfl⟩ rfl rfl (Nat.le_of_ble_eq_true rfl) (mtX7_ways E l  M) e1 dL_law_859 ?_
  refine lw_al2 C dL_law_862 ?_
  refine lw_call C (st := [.int r]) (k0 := 57) (n := 0) (As := []) (by decide) (by rfl) rfl gL_law_X8_ways rfl rfl rfl (by decide +kernel) ⟨Nat.le_of_ble_eq_true rfl, Nat.le_of_ble_eq_true rfl⟩ rfl rfl (Nat.le_of_ble_eq_true rfl) (mtX8_ways E l  M1) e2 dL_law_863 ?_
  exact lw_eq C dL_law_866 (by decide) (kk M2 S1 (a1.hi k2) a2 w)
set_option maxHeartbeats 4000000 in
set_option maxRecDepth 100000 in
theorem law_c25 {p : Program} {l : Launch} {e : Env} {s : State} {m : MethodId} {below : List Frame} {meth : Method} {c : Code} {b Ln : Nat} {xs : Nat → Int32} {E : EV} {M : Mem} {x3 : Int32} {q : Nat} {S : Sta} (C : LX p l s m meth c b Ln xs E) (hx3 : x3 = nI q) (hq : q + 6 ≤ Ln) (hA : AC M S) (hR : AR M S) (hW : WFS S) (kk : ∀ (M1 : Mem) (S1 : Sta), AC M1 S1 → AR M1 S1 → WFS S1 → LW p l e s m below meth c b E M1 x3 1468 []) : LW p l e s m below meth c b E M x3 871 [] := by
  obtain ⟨r, S1, f, g, w⟩ := tw_broken hW
  obtain ⟨M1, e1, a1, k1⟩ := f M hA
  obtain ⟨M2, e2, a2, k2⟩ := g M1 (hR.lo k1)
  refine lw_al1 C dL_law_871 ?_
  refine lw_call C (st := []) (k0 := 0) (n := 0) (As := []) (by decide) (by rfl) rfl gL_law_X7_broken rfl rfl rfl (by decide +kernel) ⟨Nat.le_of_ble_eq_true rfl, Nat.le_of_ble_eq_true rfl⟩ rfl rfl (Nat.le_of_ble_eq_true rfl) (mtX7_broken E l  M) e1 dL_law_872 ?_
  refine lw_al2 C dL_law_875 ?_
  refine lw_call C (st := [.int r]) (k0 := 57) (n := 0) (As := []) (by decide) (by rfl) rfl gL_law_X8_broken rfl rfl rfl (by decide +kernel) ⟨Nat.le_of_ble_eq_true rfl, Nat.le_of_ble_eq_true rfl⟩ rfl rfl (Nat.le_of_ble_eq_true rfl) (mtX8_broken E l  M1) e2 dL_law_876 ?_
  exact lw_eq C dL_law_879 (by decide) (kk M2 S1 (a1.hi k2) a2 w)
set_option maxHeartbeats 4000000 in
set_option maxRecDepth 100000 in
theorem law_c26 {p : Program} {l : Launch} {e : Env} {s : State} {m : MethodId} {below : List Frame} {meth : Method} {c : Code} {b Ln : Nat} {xs : Nat → Int32} {E : EV} {M : Mem} {x3 : Int32} {q : Nat} {S : Sta} (C : LX p l s m meth c b Ln xs E) (hx3 : x3 = nI q) (hq : q + 6 ≤ Ln) (hA : AC M S) (hR : AR M S) (hW : WFS S) (kk : ∀ (M1 : Mem) (S1 : Sta), AC M1 S1 → AR M1 S1 → WFS S1 → LW p l e s m below meth c b E M1 x3 1468 []) : LW p l e s m below meth c b E M x3 884 [] := by
  obtain ⟨r, S1, f, g, w⟩ := tw_fits hW (xs (q + 1))
  obtain ⟨M1, e1, a1, k1⟩ := f M hA
  obtain ⟨M2, e2, a2, k2⟩ := g M1 (hR.lo k1)
  refine lw_al1 C dL_law_884 ?_
  refine lw_arg C (j := 1) hx3 hq (by decide) (by decide) dL_law_885 dL_law_886 dL_law_887 dL_law_888 dL_law_889 ?_
  refine lw_call C (st := []) (k0 := 0) (n := 1) (As := [.int (xs (q + 1))]) (by decide) (by rfl) rfl gL_law_X7_fits rfl rfl rfl (by decide +kernel) ⟨Nat.le_of_ble_eq_true rfl, Nat.le_of_ble_eq_true rfl⟩ rfl rfl (Nat.le_of_ble_eq_true rfl) (mtX7_fits E l (xs (q + 1)) M) e1 dL_law_890 ?_
  refine lw_al2 C dL_law_893 ?_
  refine lw_arg C (j := 1) hx3 hq (by decide) (by decide) dL_law_894 dL_law_895 dL_law_896 dL_law_897 dL_law_898 ?_
  refine lw_call C (st := [.int r]) (k0 := 57) (n := 1) (As := [.int (xs (q + 1))]) (by decide) (by rfl) rfl gL_law_X8_fits rfl rfl rfl (by decide +kernel) ⟨Nat.le_of_ble_eq_true rfl, Nat.le_of_ble_eq_true rfl⟩ rfl rfl (Nat.le_of_ble_eq_true rfl) (mtX8_fits E l (xs (q + 1)) M1) e2 dL_law_899 ?_
  exact lw_eq C dL_law_902 (by decide) (kk M2 S1 (a1.hi k2) a2 w)
set_option maxHeartbeats 4000000 in
set_option maxRecDepth 100000 in
theorem law_c27 {p : Program} {l : Launch} {e : Env} {s : State} {m : MethodId} {below : List Frame} {meth : Method} {c : Code} {b Ln : Nat} {xs : Nat → Int32} {E : EV} {M : Mem} {x3 : Int32} {q : Nat} {S : Sta} (C : LX p l s m meth c b Ln xs E) (hx3 : x3 = nI q) (hq : q + 6 ≤ Ln) (hA : AC M S) (hR : AR M S) (hW : WFS S) (kk : ∀ (M1 : Mem) (S1 : Sta), AC M1 S1 → AR M1 S1 → WFS S1 → LW p l e s m below meth c b E M1 x3 1468 []) : LW p l e s m below meth c b E M x3 907 [] := by
  obtain ⟨r, S1, f, g, w⟩ := tw_may hW (xs (q + 1)) (xs (q + 2))
  obtain ⟨M1, e1, a1, k1⟩ := f M hA
  obtain ⟨M2, e2, a2, k2⟩ := g M1 (hR.lo k1)
  refine lw_al1 C dL_law_907 ?_
  refine lw_arg C (j := 1) hx3 hq (by decide) (by decide) dL_law_908 dL_law_909 dL_law_910 dL_law_911 dL_law_912 ?_
  refine lw_arg C (j := 2) hx3 hq (by decide) (by decide) dL_law_913 dL_law_914 dL_law_915 dL_law_916 dL_law_917 ?_
  refine lw_call C (st := []) (k0 := 0) (n := 2) (As := [.int (xs (q + 1)), .int (xs (q + 2))]) (by decide) (by rfl) rfl gL_law_X7_may rfl rfl rfl (by decide +kernel) ⟨Nat.le_of_ble_eq_true rfl, Nat.le_of_ble_eq_true rfl⟩ rfl rfl (Nat.le_of_ble_eq_true rfl) (mtX7_may E l (xs (q + 1)) (xs (q + 2)) M) e1 dL_law_918 ?_
  refine lw_al2 C dL_law_921 ?_
  refine lw_arg C (j := 1) hx3 hq (by decide) (by decide) dL_law_922 dL_law_923 dL_law_924 dL_law_925 dL_law_926 ?_
  refine lw_arg C (j := 2) hx3 hq (by decide) (by decide) dL_law_927 dL_law_928 dL_law_929 dL_law_930 dL_law_931 ?_
  refine lw_call C (st := [.int r]) (k0 := 57) (n := 2) (As := [.int (xs (q + 1)), .int (xs (q + 2))]) (by decide) (by rfl) rfl gL_law_X8_may rfl rfl rfl (by decide +kernel) ⟨Nat.le_of_ble_eq_true rfl, Nat.le_of_ble_eq_true rfl⟩ rfl rfl (Nat.le_of_ble_eq_true rfl) (mtX8_may E l (xs (q + 1)) (xs (q + 2)) M1) e2 dL_law_932 ?_
  exact lw_eq C dL_law_935 (by decide) (kk M2 S1 (a1.hi k2) a2 w)
set_option maxHeartbeats 4000000 in
set_option maxRecDepth 100000 in
theorem law_c28 {p : Program} {l : Launch} {e : Env} {s : State} {m : MethodId} {below : List Frame} {meth : Method} {c : Code} {b Ln : Nat} {xs : Nat → Int32} {E : EV} {M : Mem} {x3 : Int32} {q : Nat} {S : Sta} (C : LX p l s m meth c b Ln xs E) (hx3 : x3 = nI q) (hq : q + 6 ≤ Ln) (hA : AC M S) (hR : AR M S) (hW : WFS S) (kk : ∀ (M1 : Mem) (S1 : Sta), AC M1 S1 → AR M1 S1 → WFS S1 → LW p l e s m below meth c b E M1 x3 1468 []) : LW p l e s m below meth c b E M x3 940 [] := by
  obtain ⟨r, S1, f, g, w⟩ := tw_duel hW (xs (q + 1)) (xs (q + 2))
  obtain ⟨M1, e1, a1, k1⟩ := f M hA
  obtain ⟨M2, e2, a2, k2⟩ := g M1 (hR.lo k1)
  refine lw_al1 C dL_law_940 ?_
  refine lw_arg C (j := 1) hx3 hq (by decide) (by decide) dL_law_941 dL_law_942 dL_law_943 dL_law_944 dL_law_945 ?_
  refine lw_arg C (j := 2) hx3 hq (by decide) (by decide) dL_law_946 dL_law_947 dL_law_948 dL_law_949 dL_law_950 ?_
  refine lw_call C (st := []) (k0 := 0) (n := 2) (As := [.int (xs (q + 1)), .int (xs (q + 2))]) (by decide) (by rfl) rfl gL_law_X7_duel rfl rfl rfl (by decide +kernel) ⟨Nat.le_of_ble_eq_true rfl, Nat.le_of_ble_eq_true rfl⟩ rfl rfl (Nat.le_of_ble_eq_true rfl) (mtX7_duel E l (xs (q + 1)) (xs (q + 2)) M) e1 dL_law_951 ?_
  refine lw_al2 C dL_law_954 ?_
  refine lw_arg C (j := 1) hx3 hq (by decide) (by decide) dL_law_955 dL_law_956 dL_law_957 dL_law_958 dL_law_959 ?_
  refine lw_arg C (j := 2) hx3 hq (by decide) (by decide) dL_law_960 dL_law_961 dL_law_962 dL_law_963 dL_law_964 ?_
  refine lw_call C (st := [.int r]) (k0 := 57) (n := 2) (As := [.int (xs (q + 1)), .int (xs (q + 2))]) (by decide) (by rfl) rfl gL_law_X8_duel rfl rfl rfl (by decide +kernel) ⟨Nat.le_of_ble_eq_true rfl, Nat.le_of_ble_eq_true rfl⟩ rfl rfl (Nat.le_of_ble_eq_true rfl) (mtX8_duel E l (xs (q + 1)) (xs (q + 2)) M1) e2 dL_law_965 ?_
  exact lw_eq C dL_law_968 (by decide) (kk M2 S1 (a1.hi k2) a2 w)
set_option maxHeartbeats 4000000 in
set_option maxRecDepth 100000 in
theorem law_c29 {p : Program} {l : Launch} {e : Env} {s : State} {m : MethodId} {below : List Frame} {meth : Method} {c : Code} {b Ln : Nat} {xs : Nat → Int32} {E : EV} {M : Mem} {x3 : Int32} {q : Nat} {S : Sta} (C : LX p l s m meth c b Ln xs E) (hx3 : x3 = nI q) (hq : q + 6 ≤ Ln) (hA : AC M S) (hR : AR M S) (hW : WFS S) (kk : ∀ (M1 : Mem) (S1 : Sta), AC M1 S1 → AR M1 S1 → WFS S1 → LW p l e s m below meth c b E M1 x3 1468 []) : LW p l e s m below meth c b E M x3 973 [] := by
  obtain ⟨r, S1, f, g, w⟩ := tw_lanterns hW (xs (q + 1)) (xs (q + 2)) (xs (q + 3))
  obtain ⟨M1, e1, a1, k1⟩ := f M hA
  obtain ⟨M2, e2, a2, k2⟩ := g M1 (hR.lo k1)
  refine lw_al1 C dL_law_973 ?_
  refine lw_arg C (j := 1) hx3 hq (by decide) (by decide) dL_law_974 dL_law_975 dL_law_976 dL_law_977 dL_law_978 ?_
  refine lw_arg C (j := 2) hx3 hq (by decide) (by decide) dL_law_979 dL_law_980 dL_law_981 dL_law_982 dL_law_983 ?_
  refine lw_arg C (j := 3) hx3 hq (by decide) (by decide) dL_law_984 dL_law_985 dL_law_986 dL_law_987 dL_law_988 ?_
  refine lw_call C (st := []) (k0 := 0) (n := 3) (As := [.int (xs (q + 1)), .int (xs (q + 2)), .int (xs (q + 3))]) (by decide) (by rfl) rfl gL_law_X7_lanterns rfl rfl rfl (by decide +kernel) ⟨Nat.le_of_ble_eq_true rfl, Nat.le_of_ble_eq_true rfl⟩ rfl rfl (Nat.le_of_ble_eq_true rfl) (mtX7_lanterns E l (xs (q + 1)) (xs (q + 2)) (xs (q + 3)) M) e1 dL_law_989 ?_
  refine lw_al2 C dL_law_992 ?_
  refine lw_arg C (j := 1) hx3 hq (by decide) (by decide) dL_law_993 dL_law_994 dL_law_995 dL_law_996 dL_law_997 ?_
  refine lw_arg C (j := 2) hx3 hq (by decide) (by decide) dL_law_998 dL_law_999 dL_law_1000 dL_law_1001 dL_law_1002 ?_
  refine lw_arg C (j := 3) hx3 hq (by decide) (by decide) dL_law_1003 dL_law_1004 dL_law_1005 dL_law_1006 dL_law_1007 ?_
  refine lw_call C (st := [.long r]) (k0 := 57) (n := 3) (As := [.int (xs (q + 1)), .int (xs (q + 2)), .int (xs (q + 3))]) (by decide) (by rfl) rfl gL_law_X8_lanterns rfl rfl rfl (by decide +kernel) ⟨Nat.le_of_ble_eq_true rfl, Nat.le_of_ble_eq_true rfl⟩ rfl rfl (Nat.le_of_ble_eq_true rfl) (mtX8_lanterns E l (xs (q + 1)) (xs (q + 2)) (xs (q + 3)) M1) e2 dL_law_1008 ?_
  exact lw_eql C dL_law_1011 dL_law_1012 (by decide) (kk M2 S1 (a1.hi k2) a2 w)
set_option maxHeartbeats 4000000 in
set_option maxRecDepth 100000 in
theorem law_c30 {p : Program} {l : Launch} {e : Env} {s : State} {m : MethodId} {below : List Frame} {meth : Method} {c : Code} {b Ln : Nat} {xs : Nat → Int32} {E : EV} {M : Mem} {x3 : Int32} {q : Nat} {S : Sta} (C : LX p l s m meth c b Ln xs E) (hx3 : x3 = nI q) (hq : q + 6 ≤ Ln) (hA : AC M S) (hR : AR M S) (hW : WFS S) (kk : ∀ (M1 : Mem) (S1 : Sta), AC M1 S1 → AR M1 S1 → WFS S1 → LW p l e s m below meth c b E M1 x3 1468 []) : LW p l e s m below meth c b E M x3 1017 [] := by
  obtain ⟨r, S1, f, g, w⟩ := tw_days hW (xs (q + 1))
  obtain ⟨M1, e1, a1, k1⟩ := f M hA
  obtain ⟨M2, e2, a2, k2⟩ := g M1 (hR.lo k1)
  refine lw_al1 C dL_law_1017 ?_
  refine lw_arg C (j := 1) hx3 hq (by decide) (by decide) dL_law_1018 dL_law_1019 dL_law_1020 dL_law_1021 dL_law_1022 ?_
  refine lw_call C (st := []) (k0 := 0) (n := 1) (As := [.int (xs (q + 1))]) (by decide) (by rfl) rfl gL_law_X7_days rfl rfl rfl (by decide +kernel) ⟨Nat.le_of_ble_eq_true rfl, Nat.le_of_ble_eq_true rfl⟩ rfl rfl (Nat.le_of_ble_eq_true rfl) (mtX7_days E l (xs (q + 1)) M) e1 dL_law_1023 ?_
  refine lw_al2 C dL_law_1026 ?_
  refine lw_arg C (j := 1) hx3 hq (by decide) (by decide) dL_law_1027 dL_law_1028 dL_law_1029 dL_law_1030 dL_law_1031 ?_
  refine lw_call C (st := [.int r]) (k0 := 57) (n := 1) (As := [.int (xs (q + 1))]) (by decide) (by rfl) rfl gL_law_X8_days rfl rfl rfl (by decide +kernel) ⟨Nat.le_of_ble_eq_true rfl, Nat.le_of_ble_eq_true rfl⟩ rfl rfl (Nat.le_of_ble_eq_true rfl) (mtX8_days E l (xs (q + 1)) M1) e2 dL_law_1032 ?_
  exact lw_eq C dL_law_1035 (by decide) (kk M2 S1 (a1.hi k2) a2 w)
set_option maxHeartbeats 4000000 in
set_option maxRecDepth 100000 in
theorem law_c31 {p : Program} {l : Launch} {e : Env} {s : State} {m : MethodId} {below : List Frame} {meth : Method} {c : Code} {b Ln : Nat} {xs : Nat → Int32} {E : EV} {M : Mem} {x3 : Int32} {q : Nat} {S : Sta} (C : LX p l s m meth c b Ln xs E) (hx3 : x3 = nI q) (hq : q + 6 ≤ Ln) (hA : AC M S) (hR : AR M S) (hW : WFS S) (kk : ∀ (M1 : Mem) (S1 : Sta), AC M1 S1 → AR M1 S1 → WFS S1 → LW p l e s m below meth c b E M1 x3 1468 []) : LW p l e s m below meth c b E M x3 1040 [] := by
  obtain ⟨r, S1, f, g, w⟩ := tw_seed hW (xs (q + 1))
  obtain ⟨M1, e1, a1, k1⟩ := f M hA
  obtain ⟨M2, e2, a2, k2⟩ := g M1 (hR.lo k1)
  refine lw_al1 C dL_law_1040 ?_
  refine lw_arg C (j := 1) hx3 hq (by decide) (by decide) dL_law_1041 dL_law_1042 dL_law_1043 dL_law_1044 dL_law_1045 ?_
  refine lw_call C (st := []) (k0 := 0) (n := 1) (As := [.int (xs (q + 1))]) (by decide) (by rfl) rfl gL_law_X7_seed rfl rfl rfl (by decide +kernel) ⟨Nat.le_of_ble_eq_true rfl, Nat.le_of_ble_eq_true rfl⟩ rfl rfl (Nat.le_of_ble_eq_true rfl) (mtX7_seed E l (xs (q + 1)) M) e1 dL_law_1046 ?_
  refine lw_al2 C dL_law_1049 ?_
  refine lw_arg C (j := 1) hx3 hq (by decide) (by decide) dL_law_1050 dL_law_1051 dL_law_1052 dL_law_1053 dL_law_1054 ?_
  refine lw_call C (st := [.int r]) (k0 := 57) (n := 1) (As := [.int (xs (q + 1))]) (by decide) (by rfl) rfl gL_law_X8_seed rfl rfl rfl (by decide +kernel) ⟨Nat.le_of_ble_eq_true rfl, Nat.le_of_ble_eq_true rfl⟩ rfl rfl (Nat.le_of_ble_eq_true rfl) (mtX8_seed E l (xs (q + 1)) M1) e2 dL_law_1055 ?_
  exact lw_eq C dL_law_1058 (by decide) (kk M2 S1 (a1.hi k2) a2 w)
set_option maxHeartbeats 4000000 in
set_option maxRecDepth 100000 in
theorem law_c32 {p : Program} {l : Launch} {e : Env} {s : State} {m : MethodId} {below : List Frame} {meth : Method} {c : Code} {b Ln : Nat} {xs : Nat → Int32} {E : EV} {M : Mem} {x3 : Int32} {q : Nat} {S : Sta} (C : LX p l s m meth c b Ln xs E) (hx3 : x3 = nI q) (hq : q + 6 ≤ Ln) (hA : AC M S) (hR : AR M S) (hW : WFS S) (kk : ∀ (M1 : Mem) (S1 : Sta), AC M1 S1 → AR M1 S1 → WFS S1 → LW p l e s m below meth c b E M1 x3 1468 []) : LW p l e s m below meth c b E M x3 1063 [] := by
  obtain ⟨r, S1, f, g, w⟩ := tw_feed hW (xs (q + 1)) (xs (q + 2))
  obtain ⟨M1, e1, a1, k1⟩ := f M hA
  obtain ⟨M2, e2, a2, k2⟩ := g M1 (hR.lo k1)
  refine lw_al1 C dL_law_1063 ?_
  refine lw_arg C (j := 1) hx3 hq (by decide) (by decide) dL_law_1064 dL_law_1065 dL_law_1066 dL_law_1067 dL_law_1068 ?_
  refine lw_arg C (j := 2) hx3 hq (by decide) (by decide) dL_law_1069 dL_law_1070 dL_law_1071 dL_law_1072 dL_law_1073 ?_
  refine lw_call C (st := []) (k0 := 0) (n := 2) (As := [.int (xs (q + 1)), .int (xs (q + 2))]) (by decide) (by rfl) rfl gL_law_X7_feed rfl rfl rfl (by decide +kernel) ⟨Nat.le_of_ble_eq_true rfl, Nat.le_of_ble_eq_true rfl⟩ rfl rfl (Nat.le_of_ble_eq_true rfl) (mtX7_feed E l (xs (q + 1)) (xs (q + 2)) M) e1 dL_law_1074 ?_
  refine lw_al2 C dL_law_1077 ?_
  refine lw_arg C (j := 1) hx3 hq (by decide) (by decide) dL_law_1078 dL_law_1079 dL_law_1080 dL_law_1081 dL_law_1082 ?_
  refine lw_arg C (j := 2) hx3 hq (by decide) (by decide) dL_law_1083 dL_law_1084 dL_law_1085 dL_law_1086 dL_law_1087 ?_
  refine lw_call C (st := [.int r]) (k0 := 57) (n := 2) (As := [.int (xs (q + 1)), .int (xs (q + 2))]) (by decide) (by rfl) rfl gL_law_X8_feed rfl rfl rfl (by decide +kernel) ⟨Nat.le_of_ble_eq_true rfl, Nat.le_of_ble_eq_true rfl⟩ rfl rfl (Nat.le_of_ble_eq_true rfl) (mtX8_feed E l (xs (q + 1)) (xs (q + 2)) M1) e2 dL_law_1088 ?_
  exact lw_eq C dL_law_1091 (by decide) (kk M2 S1 (a1.hi k2) a2 w)
set_option maxHeartbeats 4000000 in
set_option maxRecDepth 100000 in
theorem law_c33 {p : Program} {l : Launch} {e : Env} {s : State} {m : MethodId} {below : List Frame} {meth : Method} {c : Code} {b Ln : Nat} {xs : Nat → Int32} {E : EV} {M : Mem} {x3 : Int32} {q : Nat} {S : Sta} (C : LX p l s m meth c b Ln xs E) (hx3 : x3 = nI q) (hq : q + 6 ≤ Ln) (hA : AC M S) (hR : AR M S) (hW : WFS S) (kk : ∀ (M1 : Mem) (S1 : Sta), AC M1 S1 → AR M1 S1 → WFS S1 → LW p l e s m below meth c b E M1 x3 1468 []) : LW p l e s m below meth c b E M x3 1096 [] := by
  obtain ⟨r, S1, f, g, w⟩ := tw_wipe hW
  obtain ⟨M1, e1, a1, k1⟩ := f M hA
  obtain ⟨M2, e2, a2, k2⟩ := g M1 (hR.lo k1)
  refine lw_al1 C dL_law_1096 ?_
  refine lw_call C (st := []) (k0 := 0) (n := 0) (As := []) (by decide) (by rfl) rfl gL_law_X7_wipe rfl rfl rfl (by decide +kernel) ⟨Nat.le_of_ble_eq_true rfl, Nat.le_of_ble_eq_true rfl⟩ rfl rfl (Nat.le_of_ble_eq_true rfl) (mtX7_wipe E l  M) e1 dL_law_1097 ?_
  refine lw_al2 C dL_law_1100 ?_
  refine lw_call C (st := [.int r]) (k0 := 57) (n := 0) (As := []) (by decide) (by rfl) rfl gL_law_X8_wipe rfl rfl rfl (by decide +kernel) ⟨Nat.le_of_ble_eq_true rfl, Nat.le_of_ble_eq_true rfl⟩ rfl rfl (Nat.le_of_ble_eq_true rfl) (mtX8_wipe E l  M1) e2 dL_law_1101 ?_
  exact lw_eq C dL_law_1104 (by decide) (kk M2 S1 (a1.hi k2) a2 w)
set_option maxHeartbeats 4000000 in
set_option maxRecDepth 100000 in
theorem law_c34 {p : Program} {l : Launch} {e : Env} {s : State} {m : MethodId} {below : List Frame} {meth : Method} {c : Code} {b Ln : Nat} {xs : Nat → Int32} {E : EV} {M : Mem} {x3 : Int32} {q : Nat} {S : Sta} (C : LX p l s m meth c b Ln xs E) (hx3 : x3 = nI q) (hq : q + 6 ≤ Ln) (hA : AC M S) (hR : AR M S) (hW : WFS S) (kk : ∀ (M1 : Mem) (S1 : Sta), AC M1 S1 → AR M1 S1 → WFS S1 → LW p l e s m below meth c b E M1 x3 1468 []) : LW p l e s m below meth c b E M x3 1109 [] := by
  obtain ⟨r, S1, f, g, w⟩ := tw_text hW
  obtain ⟨M1, e1, a1, k1⟩ := f M hA
  obtain ⟨M2, e2, a2, k2⟩ := g M1 (hR.lo k1)
  refine lw_al1 C dL_law_1109 ?_
  refine lw_call C (st := []) (k0 := 0) (n := 0) (As := []) (by decide) (by rfl) rfl gL_law_X7_text rfl rfl rfl (by decide +kernel) ⟨Nat.le_of_ble_eq_true rfl, Nat.le_of_ble_eq_true rfl⟩ rfl rfl (Nat.le_of_ble_eq_true rfl) (mtX7_text E l  M) e1 dL_law_1110 ?_
  refine lw_al2 C dL_law_1113 ?_
  refine lw_call C (st := [.int r]) (k0 := 57) (n := 0) (As := []) (by decide) (by rfl) rfl gL_law_X8_text rfl rfl rfl (by decide +kernel) ⟨Nat.le_of_ble_eq_true rfl, Nat.le_of_ble_eq_true rfl⟩ rfl rfl (Nat.le_of_ble_eq_true rfl) (mtX8_text E l  M1) e2 dL_law_1114 ?_
  exact lw_eq C dL_law_1117 (by decide) (kk M2 S1 (a1.hi k2) a2 w)
set_option maxHeartbeats 4000000 in
set_option maxRecDepth 100000 in
theorem law_c35 {p : Program} {l : Launch} {e : Env} {s : State} {m : MethodId} {below : List Frame} {meth : Method} {c : Code} {b Ln : Nat} {xs : Nat → Int32} {E : EV} {M : Mem} {x3 : Int32} {q : Nat} {S : Sta} (C : LX p l s m meth c b Ln xs E) (hx3 : x3 = nI q) (hq : q + 6 ≤ Ln) (hA : AC M S) (hR : AR M S) (hW : WFS S) (kk : ∀ (M1 : Mem) (S1 : Sta), AC M1 S1 → AR M1 S1 → WFS S1 → LW p l e s m below meth c b E M1 x3 1468 []) : LW p l e s m below meth c b E M x3 1122 [] := by
  obtain ⟨r, S1, f, g, w⟩ := tw_hold hW (xs (q + 1)) (xs (q + 2))
  obtain ⟨M1, e1, a1, k1⟩ := f M hA
  obtain ⟨M2, e2, a2, k2⟩ := g M1 (hR.lo k1)
  refine lw_al1 C dL_law_1122 ?_
  refine lw_arg C (j := 1) hx3 hq (by decide) (by decide) dL_law_1123 dL_law_1124 dL_law_1125 dL_law_1126 dL_law_1127 ?_
  refine lw_arg C (j := 2) hx3 hq (by decide) (by decide) dL_law_1128 dL_law_1129 dL_law_1130 dL_law_1131 dL_law_1132 ?_
  refine lw_call C (st := []) (k0 := 0) (n := 2) (As := [.int (xs (q + 1)), .int (xs (q + 2))]) (by decide) (by rfl) rfl gL_law_X7_hold rfl rfl rfl (by decide +kernel) ⟨Nat.le_of_ble_eq_true rfl, Nat.le_of_ble_eq_true rfl⟩ rfl rfl (Nat.le_of_ble_eq_true rfl) (mtX7_hold E l (xs (q + 1)) (xs (q + 2)) M) e1 dL_law_1133 ?_
  refine lw_al2 C dL_law_1136 ?_
  refine lw_arg C (j := 1) hx3 hq (by decide) (by decide) dL_law_1137 dL_law_1138 dL_law_1139 dL_law_1140 dL_law_1141 ?_
  refine lw_arg C (j := 2) hx3 hq (by decide) (by decide) dL_law_1142 dL_law_1143 dL_law_1144 dL_law_1145 dL_law_1146 ?_
  refine lw_call C (st := [.int r]) (k0 := 57) (n := 2) (As := [.int (xs (q + 1)), .int (xs (q + 2))]) (by decide) (by rfl) rfl gL_law_X8_hold rfl rfl rfl (by decide +kernel) ⟨Nat.le_of_ble_eq_true rfl, Nat.le_of_ble_eq_true rfl⟩ rfl rfl (Nat.le_of_ble_eq_true rfl) (mtX8_hold E l (xs (q + 1)) (xs (q + 2)) M1) e2 dL_law_1147 ?_
  exact lw_eq C dL_law_1150 (by decide) (kk M2 S1 (a1.hi k2) a2 w)
set_option maxHeartbeats 4000000 in
set_option maxRecDepth 100000 in
theorem law_c36 {p : Program} {l : Launch} {e : Env} {s : State} {m : MethodId} {below : List Frame} {meth : Method} {c : Code} {b Ln : Nat} {xs : Nat → Int32} {E : EV} {M : Mem} {x3 : Int32} {q : Nat} {S : Sta} (C : LX p l s m meth c b Ln xs E) (hx3 : x3 = nI q) (hq : q + 6 ≤ Ln) (hA : AC M S) (hR : AR M S) (hW : WFS S) (kk : ∀ (M1 : Mem) (S1 : Sta), AC M1 S1 → AR M1 S1 → WFS S1 → LW p l e s m below meth c b E M1 x3 1468 []) : LW p l e s m below meth c b E M x3 1155 [] := by
  obtain ⟨r, S1, f, g, w⟩ := tw_as hW (xs (q + 1)) (xs (q + 2))
  obtain ⟨M1, e1, a1, k1⟩ := f M hA
  obtain ⟨M2, e2, a2, k2⟩ := g M1 (hR.lo k1)
  refine lw_al1 C dL_law_1155 ?_
  refine lw_arg C (j := 1) hx3 hq (by decide) (by decide) dL_law_1156 dL_law_1157 dL_law_1158 dL_law_1159 dL_law_1160 ?_
  refine lw_arg C (j := 2) hx3 hq (by decide) (by decide) dL_law_1161 dL_law_1162 dL_law_1163 dL_law_1164 dL_law_1165 ?_
  refine lw_call C (st := []) (k0 := 0) (n := 2) (As := [.int (xs (q + 1)), .int (xs (q + 2))]) (by decide) (by rfl) rfl gL_law_X7_as rfl rfl rfl (by decide +kernel) ⟨Nat.le_of_ble_eq_true rfl, Nat.le_of_ble_eq_true rfl⟩ rfl rfl (Nat.le_of_ble_eq_true rfl) (mtX7_as E l (xs (q + 1)) (xs (q + 2)) M) e1 dL_law_1166 ?_
  refine lw_al2 C dL_law_1169 ?_
  refine lw_arg C (j := 1) hx3 hq (by decide) (by decide) dL_law_1170 dL_law_1171 dL_law_1172 dL_law_1173 dL_law_1174 ?_
  refine lw_arg C (j := 2) hx3 hq (by decide) (by decide) dL_law_1175 dL_law_1176 dL_law_1177 dL_law_1178 dL_law_1179 ?_
  refine lw_call C (st := [.int r]) (k0 := 57) (n := 2) (As := [.int (xs (q + 1)), .int (xs (q + 2))]) (by decide) (by rfl) rfl gL_law_X8_as rfl rfl rfl (by decide +kernel) ⟨Nat.le_of_ble_eq_true rfl, Nat.le_of_ble_eq_true rfl⟩ rfl rfl (Nat.le_of_ble_eq_true rfl) (mtX8_as E l (xs (q + 1)) (xs (q + 2)) M1) e2 dL_law_1180 ?_
  exact lw_eq C dL_law_1183 (by decide) (kk M2 S1 (a1.hi k2) a2 w)
set_option maxHeartbeats 4000000 in
set_option maxRecDepth 100000 in
theorem law_c37 {p : Program} {l : Launch} {e : Env} {s : State} {m : MethodId} {below : List Frame} {meth : Method} {c : Code} {b Ln : Nat} {xs : Nat → Int32} {E : EV} {M : Mem} {x3 : Int32} {q : Nat} {S : Sta} (C : LX p l s m meth c b Ln xs E) (hx3 : x3 = nI q) (hq : q + 6 ≤ Ln) (hA : AC M S) (hR : AR M S) (hW : WFS S) (kk : ∀ (M1 : Mem) (S1 : Sta), AC M1 S1 → AR M1 S1 → WFS S1 → LW p l e s m below meth c b E M1 x3 1468 []) : LW p l e s m below meth c b E M x3 1188 [] := by
  obtain ⟨r, S1, f, g, w⟩ := tw_sheet hW (xs (q + 1)) (xs (q + 2)) (xs (q + 3))
  obtain ⟨M1, e1, a1, k1⟩ := f M hA
  obtain ⟨M2, e2, a2, k2⟩ := g M1 (hR.lo k1)
  refine lw_al1 C dL_law_1188 ?_
  refine lw_arg C (j := 1) hx3 hq (by decide) (by decide) dL_law_1189 dL_law_1190 dL_law_1191 dL_law_1192 dL_law_1193 ?_
  refine lw_arg C (j := 2) hx3 hq (by decide) (by decide) dL_law_1194 dL_law_1195 dL_law_1196 dL_law_1197 dL_law_1198 ?_
  refine lw_arg C (j := 3) hx3 hq (by decide) (by decide) dL_law_1199 dL_law_1200 dL_law_1201 dL_law_1202 dL_law_1203 ?_
  refine lw_call C (st := []) (k0 := 0) (n := 3) (As := [.int (xs (q + 1)), .int (xs (q + 2)), .int (xs (q + 3))]) (by decide) (by rfl) rfl gL_law_X7_sheet rfl rfl rfl (by decide +kernel) ⟨Nat.le_of_ble_eq_true rfl, Nat.le_of_ble_eq_true rfl⟩ rfl rfl (Nat.le_of_ble_eq_true rfl) (mtX7_sheet E l (xs (q + 1)) (xs (q + 2)) (xs (q + 3)) M) e1 dL_law_1204 ?_
  refine lw_al2 C dL_law_1207 ?_
  refine lw_arg C (j := 1) hx3 hq (by decide) (by decide) dL_law_1208 dL_law_1209 dL_law_1210 dL_law_1211 dL_law_1212 ?_
  refine lw_arg C (j := 2) hx3 hq (by decide) (by decide) dL_law_1213 dL_law_1214 dL_law_1215 dL_law_1216 dL_law_1217 ?_
  refine lw_arg C (j := 3) hx3 hq (by decide) (by decide) dL_law_1218 dL_law_1219 dL_law_1220 dL_law_1221 dL_law_1222 ?_
  refine lw_call C (st := [.int r]) (k0 := 57) (n := 3) (As := [.int (xs (q + 1)), .int (xs (q + 2)), .int (xs (q + 3))]) (by decide) (by rfl) rfl gL_law_X8_sheet rfl rfl rfl (by decide +kernel) ⟨Nat.le_of_ble_eq_true rfl, Nat.le_of_ble_eq_true rfl⟩ rfl rfl (Nat.le_of_ble_eq_true rfl) (mtX8_sheet E l (xs (q + 1)) (xs (q + 2)) (xs (q + 3)) M1) e2 dL_law_1223 ?_
  exact lw_eq C dL_law_1226 (by decide) (kk M2 S1 (a1.hi k2) a2 w)
set_option maxHeartbeats 4000000 in
set_option maxRecDepth 100000 in
theorem law_c38 {p : Program} {l : Launch} {e : Env} {s : State} {m : MethodId} {below : List Frame} {meth : Method} {c : Code} {b Ln : Nat} {xs : Nat → Int32} {E : EV} {M : Mem} {x3 : Int32} {q : Nat} {S : Sta} (C : LX p l s m meth c b Ln xs E) (hx3 : x3 = nI q) (hq : q + 6 ≤ Ln) (hA : AC M S) (hR : AR M S) (hW : WFS S) (kk : ∀ (M1 : Mem) (S1 : Sta), AC M1 S1 → AR M1 S1 → WFS S1 → LW p l e s m below meth c b E M1 x3 1468 []) : LW p l e s m below meth c b E M x3 1231 [] := by
  obtain ⟨r, S1, f, g, w⟩ := tw_write hW (xs (q + 1)) (xs (q + 2)) (xs (q + 3))
  obtain ⟨M1, e1, a1, k1⟩ := f M hA
  obtain ⟨M2, e2, a2, k2⟩ := g M1 (hR.lo k1)
  refine lw_al1 C dL_law_1231 ?_
  refine lw_arg C (j := 1) hx3 hq (by decide) (by decide) dL_law_1232 dL_law_1233 dL_law_1234 dL_law_1235 dL_law_1236 ?_
  refine lw_arg C (j := 2) hx3 hq (by decide) (by decide) dL_law_1237 dL_law_1238 dL_law_1239 dL_law_1240 dL_law_1241 ?_
  refine lw_arg C (j := 3) hx3 hq (by decide) (by decide) dL_law_1242 dL_law_1243 dL_law_1244 dL_law_1245 dL_law_1246 ?_
  refine lw_call C (st := []) (k0 := 0) (n := 3) (As := [.int (xs (q + 1)), .int (xs (q + 2)), .int (xs (q + 3))]) (by decide) (by rfl) rfl gL_law_X7_write rfl rfl rfl (by decide +kernel) ⟨Nat.le_of_ble_eq_true rfl, Nat.le_of_ble_eq_true rfl⟩ rfl rfl (Nat.le_of_ble_eq_true rfl) (mtX7_write E l (xs (q + 1)) (xs (q + 2)) (xs (q + 3)) M) e1 dL_law_1247 ?_
  refine lw_al2 C dL_law_1250 ?_
  refine lw_arg C (j := 1) hx3 hq (by decide) (by decide) dL_law_1251 dL_law_1252 dL_law_1253 dL_law_1254 dL_law_1255 ?_
  refine lw_arg C (j := 2) hx3 hq (by decide) (by decide) dL_law_1256 dL_law_1257 dL_law_1258 dL_law_1259 dL_law_1260 ?_
  refine lw_arg C (j := 3) hx3 hq (by decide) (by decide) dL_law_1261 dL_law_1262 dL_law_1263 dL_law_1264 dL_law_1265 ?_
  refine lw_call C (st := [.int r]) (k0 := 57) (n := 3) (As := [.int (xs (q + 1)), .int (xs (q + 2)), .int (xs (q + 3))]) (by decide) (by rfl) rfl gL_law_X8_write rfl rfl rfl (by decide +kernel) ⟨Nat.le_of_ble_eq_true rfl, Nat.le_of_ble_eq_true rfl⟩ rfl rfl (Nat.le_of_ble_eq_true rfl) (mtX8_write E l (xs (q + 1)) (xs (q + 2)) (xs (q + 3)) M1) e2 dL_law_1266 ?_
  exact lw_eq C dL_law_1269 (by decide) (kk M2 S1 (a1.hi k2) a2 w)
set_option maxHeartbeats 4000000 in
set_option maxRecDepth 100000 in
theorem law_c39 {p : Program} {l : Launch} {e : Env} {s : State} {m : MethodId} {below : List Frame} {meth : Method} {c : Code} {b Ln : Nat} {xs : Nat → Int32} {E : EV} {M : Mem} {x3 : Int32} {q : Nat} {S : Sta} (C : LX p l s m meth c b Ln xs E) (hx3 : x3 = nI q) (hq : q + 6 ≤ Ln) (hA : AC M S) (hR : AR M S) (hW : WFS S) (kk : ∀ (M1 : Mem) (S1 : Sta), AC M1 S1 → AR M1 S1 → WFS S1 → LW p l e s m below meth c b E M1 x3 1468 []) : LW p l e s m below meth c b E M x3 1274 [] := by
  obtain ⟨r, S1, f, g, w⟩ := tw_copy hW (xs (q + 1)) (xs (q + 2)) (xs (q + 3)) (xs (q + 4)) (xs (q + 5))
  obtain ⟨M1, e1, a1, k1⟩ := f M hA
  obtain ⟨M2, e2, a2, k2⟩ := g M1 (hR.lo k1)
  refine lw_al1 C dL_law_1274 ?_
  refine lw_arg C (j := 1) hx3 hq (by decide) (by decide) dL_law_1275 dL_law_1276 dL_law_1277 dL_law_1278 dL_law_1279 ?_
  refine lw_arg C (j := 2) hx3 hq (by decide) (by decide) dL_law_1280 dL_law_1281 dL_law_1282 dL_law_1283 dL_law_1284 ?_
  refine lw_arg C (j := 3) hx3 hq (by decide) (by decide) dL_law_1285 dL_law_1286 dL_law_1287 dL_law_1288 dL_law_1289 ?_
  refine lw_arg C (j := 4) hx3 hq (by decide) (by decide) dL_law_1290 dL_law_1291 dL_law_1292 dL_law_1293 dL_law_1294 ?_
  refine lw_arg C (j := 5) hx3 hq (by decide) (by decide) dL_law_1295 dL_law_1296 dL_law_1297 dL_law_1298 dL_law_1299 ?_
  refine lw_call C (st := []) (k0 := 0) (n := 5) (As := [.int (xs (q + 1)), .int (xs (q + 2)), .int (xs (q + 3)), .int (xs (q + 4)), .int (xs (q + 5))]) (by decide) (by rfl) rfl gL_law_X7_copy rfl rfl rfl (by decide +kernel) ⟨Nat.le_of_ble_eq_true rfl, Nat.le_of_ble_eq_true rfl⟩ rfl rfl (Nat.le_of_ble_eq_true rfl) (mtX7_copy E l (xs (q + 1)) (xs (q + 2)) (xs (q + 3)) (xs (q + 4)) (xs (q + 5)) M) e1 dL_law_1300 ?_
  refine lw_al2 C dL_law_1303 ?_
  refine lw_arg C (j := 1) hx3 hq (by decide) (by decide) dL_law_1304 dL_law_1305 dL_law_1306 dL_law_1307 dL_law_1308 ?_
  refine lw_arg C (j := 2) hx3 hq (by decide) (by decide) dL_law_1309 dL_law_1310 dL_law_1311 dL_law_1312 dL_law_1313 ?_
  refine lw_arg C (j := 3) hx3 hq (by decide) (by decide) dL_law_1314 dL_law_1315 dL_law_1316 dL_law_1317 dL_law_1318 ?_
  refine lw_arg C (j := 4) hx3 hq (by decide) (by decide) dL_law_1319 dL_law_1320 dL_law_1321 dL_law_1322 dL_law_1323 ?_
  refine lw_arg C (j := 5) hx3 hq (by decide) (by decide) dL_law_1324 dL_law_1325 dL_law_1326 dL_law_1327 dL_law_1328 ?_
  refine lw_call C (st := [.int r]) (k0 := 57) (n := 5) (As := [.int (xs (q + 1)), .int (xs (q + 2)), .int (xs (q + 3)), .int (xs (q + 4)), .int (xs (q + 5))]) (by decide) (by rfl) rfl gL_law_X8_copy rfl rfl rfl (by decide +kernel) ⟨Nat.le_of_ble_eq_true rfl, Nat.le_of_ble_eq_true rfl⟩ rfl rfl (Nat.le_of_ble_eq_true rfl) (mtX8_copy E l (xs (q + 1)) (xs (q + 2)) (xs (q + 3)) (xs (q + 4)) (xs (q + 5)) M1) e2 dL_law_1329 ?_
  exact lw_eq C dL_law_1332 (by decide) (kk M2 S1 (a1.hi k2) a2 w)
set_option maxHeartbeats 4000000 in
set_option maxRecDepth 100000 in
theorem law_c40 {p : Program} {l : Launch} {e : Env} {s : State} {m : MethodId} {below : List Frame} {meth : Method} {c : Code} {b Ln : Nat} {xs : Nat → Int32} {E : EV} {M : Mem} {x3 : Int32} {q : Nat} {S : Sta} (C : LX p l s m meth c b Ln xs E) (hx3 : x3 = nI q) (hq : q + 6 ≤ Ln) (hA : AC M S) (hR : AR M S) (hW : WFS S) (kk : ∀ (M1 : Mem) (S1 : Sta), AC M1 S1 → AR M1 S1 → WFS S1 → LW p l e s m below meth c b E M1 x3 1468 []) : LW p l e s m below meth c b E M x3 1337 [] := by
  obtain ⟨r, S1, f, g, w⟩ := tw_load hW (xs (q + 1))
  obtain ⟨M1, e1, a1, k1⟩ := f M hA
  obtain ⟨M2, e2, a2, k2⟩ := g M1 (hR.lo k1)
  refine lw_al1 C dL_law_1337 ?_
  refine lw_arg C (j := 1) hx3 hq (by decide) (by decide) dL_law_1338 dL_law_1339 dL_law_1340 dL_law_1341 dL_law_1342 ?_
  refine lw_call C (st := []) (k0 := 0) (n := 1) (As := [.int (xs (q + 1))]) (by decide) (by rfl) rfl gL_law_X7_load rfl rfl rfl (by decide +kernel) ⟨Nat.le_of_ble_eq_true rfl, Nat.le_of_ble_eq_true rfl⟩ rfl rfl (Nat.le_of_ble_eq_true rfl) (mtX7_load E l (xs (q + 1)) M) e1 dL_law_1343 ?_
  refine lw_al2 C dL_law_1346 ?_
  refine lw_arg C (j := 1) hx3 hq (by decide) (by decide) dL_law_1347 dL_law_1348 dL_law_1349 dL_law_1350 dL_law_1351 ?_
  refine lw_call C (st := [.int r]) (k0 := 57) (n := 1) (As := [.int (xs (q + 1))]) (by decide) (by rfl) rfl gL_law_X8_load rfl rfl rfl (by decide +kernel) ⟨Nat.le_of_ble_eq_true rfl, Nat.le_of_ble_eq_true rfl⟩ rfl rfl (Nat.le_of_ble_eq_true rfl) (mtX8_load E l (xs (q + 1)) M1) e2 dL_law_1352 ?_
  exact lw_eq C dL_law_1355 (by decide) (kk M2 S1 (a1.hi k2) a2 w)
set_option maxHeartbeats 4000000 in
set_option maxRecDepth 100000 in
theorem law_c41 {p : Program} {l : Launch} {e : Env} {s : State} {m : MethodId} {below : List Frame} {meth : Method} {c : Code} {b Ln : Nat} {xs : Nat → Int32} {E : EV} {M : Mem} {x3 : Int32} {q : Nat} {S : Sta} (C : LX p l s m meth c b Ln xs E) (hx3 : x3 = nI q) (hq : q + 6 ≤ Ln) (hA : AC M S) (hR : AR M S) (hW : WFS S) (kk : ∀ (M1 : Mem) (S1 : Sta), AC M1 S1 → AR M1 S1 → WFS S1 → LW p l e s m below meth c b E M1 x3 1468 []) : LW p l e s m below meth c b E M x3 1360 [] := by
  obtain ⟨r, S1, f, g, w⟩ := tw_judge hW (xs (q + 1))
  obtain ⟨M1, e1, a1, k1⟩ := f M hA
  obtain ⟨M2, e2, a2, k2⟩ := g M1 (hR.lo k1)
  refine lw_al1 C dL_law_1360 ?_
  refine lw_arg C (j := 1) hx3 hq (by decide) (by decide) dL_law_1361 dL_law_1362 dL_law_1363 dL_law_1364 dL_law_1365 ?_
  refine lw_call C (st := []) (k0 := 0) (n := 1) (As := [.int (xs (q + 1))]) (by decide) (by rfl) rfl gL_law_X7_judge rfl rfl rfl (by decide +kernel) ⟨Nat.le_of_ble_eq_true rfl, Nat.le_of_ble_eq_true rfl⟩ rfl rfl (Nat.le_of_ble_eq_true rfl) (mtX7_judge E l (xs (q + 1)) M) e1 dL_law_1366 ?_
  refine lw_al2 C dL_law_1369 ?_
  refine lw_arg C (j := 1) hx3 hq (by decide) (by decide) dL_law_1370 dL_law_1371 dL_law_1372 dL_law_1373 dL_law_1374 ?_
  refine lw_call C (st := [.int r]) (k0 := 57) (n := 1) (As := [.int (xs (q + 1))]) (by decide) (by rfl) rfl gL_law_X8_judge rfl rfl rfl (by decide +kernel) ⟨Nat.le_of_ble_eq_true rfl, Nat.le_of_ble_eq_true rfl⟩ rfl rfl (Nat.le_of_ble_eq_true rfl) (mtX8_judge E l (xs (q + 1)) M1) e2 dL_law_1375 ?_
  exact lw_eq C dL_law_1378 (by decide) (kk M2 S1 (a1.hi k2) a2 w)
set_option maxHeartbeats 4000000 in
set_option maxRecDepth 100000 in
theorem law_c42 {p : Program} {l : Launch} {e : Env} {s : State} {m : MethodId} {below : List Frame} {meth : Method} {c : Code} {b Ln : Nat} {xs : Nat → Int32} {E : EV} {M : Mem} {x3 : Int32} {q : Nat} {S : Sta} (C : LX p l s m meth c b Ln xs E) (hx3 : x3 = nI q) (hq : q + 6 ≤ Ln) (hA : AC M S) (hR : AR M S) (hW : WFS S) (kk : ∀ (M1 : Mem) (S1 : Sta), AC M1 S1 → AR M1 S1 → WFS S1 → LW p l e s m below meth c b E M1 x3 1468 []) : LW p l e s m below meth c b E M x3 1383 [] := by
  obtain ⟨r, S1, f, g, w⟩ := tw_image hW
  obtain ⟨M1, e1, a1, k1⟩ := f M hA
  obtain ⟨M2, e2, a2, k2⟩ := g M1 (hR.lo k1)
  refine lw_al1 C dL_law_1383 ?_
  refine lw_call C (st := []) (k0 := 0) (n := 0) (As := []) (by decide) (by rfl) rfl gL_law_X7_image rfl rfl rfl (by decide +kernel) ⟨Nat.le_of_ble_eq_true rfl, Nat.le_of_ble_eq_true rfl⟩ rfl rfl (Nat.le_of_ble_eq_true rfl) (mtX7_image E l  M) e1 dL_law_1384 ?_
  refine lw_al2 C dL_law_1387 ?_
  refine lw_call C (st := [.int r]) (k0 := 57) (n := 0) (As := []) (by decide) (by rfl) rfl gL_law_X8_image rfl rfl rfl (by decide +kernel) ⟨Nat.le_of_ble_eq_true rfl, Nat.le_of_ble_eq_true rfl⟩ rfl rfl (Nat.le_of_ble_eq_true rfl) (mtX8_image E l  M1) e2 dL_law_1388 ?_
  exact lw_eq C dL_law_1391 (by decide) (kk M2 S1 (a1.hi k2) a2 w)
set_option maxHeartbeats 4000000 in
set_option maxRecDepth 100000 in
theorem law_c43 {p : Program} {l : Launch} {e : Env} {s : State} {m : MethodId} {below : List Frame} {meth : Method} {c : Code} {b Ln : Nat} {xs : Nat → Int32} {E : EV} {M : Mem} {x3 : Int32} {q : Nat} {S : Sta} (C : LX p l s m meth c b Ln xs E) (hx3 : x3 = nI q) (hq : q + 6 ≤ Ln) (hA : AC M S) (hR : AR M S) (hW : WFS S) (kk : ∀ (M1 : Mem) (S1 : Sta), AC M1 S1 → AR M1 S1 → WFS S1 → LW p l e s m below meth c b E M1 x3 1468 []) : LW p l e s m below meth c b E M x3 1396 [] := by
  obtain ⟨r, S1, f, g, w⟩ := tw_undo hW
  obtain ⟨M1, e1, a1, k1⟩ := f M hA
  obtain ⟨M2, e2, a2, k2⟩ := g M1 (hR.lo k1)
  refine lw_al1 C dL_law_1396 ?_
  refine lw_call C (st := []) (k0 := 0) (n := 0) (As := []) (by decide) (by rfl) rfl gL_law_X7_undo rfl rfl rfl (by decide +kernel) ⟨Nat.le_of_ble_eq_true rfl, Nat.le_of_ble_eq_true rfl⟩ rfl rfl (Nat.le_of_ble_eq_true rfl) (mtX7_undo E l  M) e1 dL_law_1397 ?_
  refine lw_al2 C dL_law_1400 ?_
  refine lw_call C (st := [.int r]) (k0 := 57) (n := 0) (As := []) (by decide) (by rfl) rfl gL_law_X8_undo rfl rfl rfl (by decide +kernel) ⟨Nat.le_of_ble_eq_true rfl, Nat.le_of_ble_eq_true rfl⟩ rfl rfl (Nat.le_of_ble_eq_true rfl) (mtX8_undo E l  M1) e2 dL_law_1401 ?_
  exact lw_eq C dL_law_1404 (by decide) (kk M2 S1 (a1.hi k2) a2 w)
set_option maxHeartbeats 4000000 in
set_option maxRecDepth 100000 in
theorem law_c44 {p : Program} {l : Launch} {e : Env} {s : State} {m : MethodId} {below : List Frame} {meth : Method} {c : Code} {b Ln : Nat} {xs : Nat → Int32} {E : EV} {M : Mem} {x3 : Int32} {q : Nat} {S : Sta} (C : LX p l s m meth c b Ln xs E) (hx3 : x3 = nI q) (hq : q + 6 ≤ Ln) (hA : AC M S) (hR : AR M S) (hW : WFS S) (kk : ∀ (M1 : Mem) (S1 : Sta), AC M1 S1 → AR M1 S1 → WFS S1 → LW p l e s m below meth c b E M1 x3 1468 []) : LW p l e s m below meth c b E M x3 1409 [] := by
  obtain ⟨r, S1, f, g, w⟩ := tw_tear hW
  obtain ⟨M1, e1, a1, k1⟩ := f M hA
  obtain ⟨M2, e2, a2, k2⟩ := g M1 (hR.lo k1)
  refine lw_al1 C dL_law_1409 ?_
  refine lw_call C (st := []) (k0 := 0) (n := 0) (As := []) (by decide) (by rfl) rfl gL_law_X7_tear rfl rfl rfl (by decide +kernel) ⟨Nat.le_of_ble_eq_true rfl, Nat.le_of_ble_eq_true rfl⟩ rfl rfl (Nat.le_of_ble_eq_true rfl) (mtX7_tear E l  M) e1 dL_law_1410 ?_
  refine lw_al2 C dL_law_1413 ?_
  refine lw_call C (st := [.int r]) (k0 := 57) (n := 0) (As := []) (by decide) (by rfl) rfl gL_law_X8_tear rfl rfl rfl (by decide +kernel) ⟨Nat.le_of_ble_eq_true rfl, Nat.le_of_ble_eq_true rfl⟩ rfl rfl (Nat.le_of_ble_eq_true rfl) (mtX8_tear E l  M1) e2 dL_law_1414 ?_
  exact lw_eq C dL_law_1417 (by decide) (kk M2 S1 (a1.hi k2) a2 w)
set_option maxHeartbeats 4000000 in
set_option maxRecDepth 100000 in
theorem law_c45 {p : Program} {l : Launch} {e : Env} {s : State} {m : MethodId} {below : List Frame} {meth : Method} {c : Code} {b Ln : Nat} {xs : Nat → Int32} {E : EV} {M : Mem} {x3 : Int32} {q : Nat} {S : Sta} (C : LX p l s m meth c b Ln xs E) (hx3 : x3 = nI q) (hq : q + 6 ≤ Ln) (hA : AC M S) (hR : AR M S) (hW : WFS S) (kk : ∀ (M1 : Mem) (S1 : Sta), AC M1 S1 → AR M1 S1 → WFS S1 → LW p l e s m below meth c b E M1 x3 1468 []) : LW p l e s m below meth c b E M x3 1422 [] := by
  obtain ⟨r, S1, f, g, w⟩ := tw_count hW (xs (q + 1))
  obtain ⟨M1, e1, a1, k1⟩ := f M hA
  obtain ⟨M2, e2, a2, k2⟩ := g M1 (hR.lo k1)
  refine lw_al1 C dL_law_1422 ?_
  refine lw_arg C (j := 1) hx3 hq (by decide) (by decide) dL_law_1423 dL_law_1424 dL_law_1425 dL_law_1426 dL_law_1427 ?_
  refine lw_call C (st := []) (k0 := 0) (n := 1) (As := [.int (xs (q + 1))]) (by decide) (by rfl) rfl gL_law_X7_count rfl rfl rfl (by decide +kernel) ⟨Nat.le_of_ble_eq_true rfl, Nat.le_of_ble_eq_true rfl⟩ rfl rfl (Nat.le_of_ble_eq_true rfl) (mtX7_count E l (xs (q + 1)) M) e1 dL_law_1428 ?_
  refine lw_al2 C dL_law_1431 ?_
  refine lw_arg C (j := 1) hx3 hq (by decide) (by decide) dL_law_1432 dL_law_1433 dL_law_1434 dL_law_1435 dL_law_1436 ?_
  refine lw_call C (st := [.int r]) (k0 := 57) (n := 1) (As := [.int (xs (q + 1))]) (by decide) (by rfl) rfl gL_law_X8_count rfl rfl rfl (by decide +kernel) ⟨Nat.le_of_ble_eq_true rfl, Nat.le_of_ble_eq_true rfl⟩ rfl rfl (Nat.le_of_ble_eq_true rfl) (mtX8_count E l (xs (q + 1)) M1) e2 dL_law_1437 ?_
  exact lw_eq C dL_law_1440 (by decide) (kk M2 S1 (a1.hi k2) a2 w)
set_option maxHeartbeats 4000000 in
set_option maxRecDepth 100000 in
theorem law_c46 {p : Program} {l : Launch} {e : Env} {s : State} {m : MethodId} {below : List Frame} {meth : Method} {c : Code} {b Ln : Nat} {xs : Nat → Int32} {E : EV} {M : Mem} {x3 : Int32} {q : Nat} {S : Sta} (C : LX p l s m meth c b Ln xs E) (hx3 : x3 = nI q) (hq : q + 6 ≤ Ln) (hA : AC M S) (hR : AR M S) (hW : WFS S) (kk : ∀ (M1 : Mem) (S1 : Sta), AC M1 S1 → AR M1 S1 → WFS S1 → LW p l e s m below meth c b E M1 x3 1468 []) : LW p l e s m below meth c b E M x3 1445 [] := by
  obtain ⟨r, S1, f, g, w⟩ := tw_status hW (xs (q + 1))
  obtain ⟨M1, e1, a1, k1⟩ := f M hA
  obtain ⟨M2, e2, a2, k2⟩ := g M1 (hR.lo k1)
  refine lw_al1 C dL_law_1445 ?_
  refine lw_arg C (j := 1) hx3 hq (by decide) (by decide) dL_law_1446 dL_law_1447 dL_law_1448 dL_law_1449 dL_law_1450 ?_
  refine lw_call C (st := []) (k0 := 0) (n := 1) (As := [.int (xs (q + 1))]) (by decide) (by rfl) rfl gL_law_X7_status rfl rfl rfl (by decide +kernel) ⟨Nat.le_of_ble_eq_true rfl, Nat.le_of_ble_eq_true rfl⟩ rfl rfl (Nat.le_of_ble_eq_true rfl) (mtX7_status E l (xs (q + 1)) M) e1 dL_law_1451 ?_
  refine lw_al2 C dL_law_1454 ?_
  refine lw_arg C (j := 1) hx3 hq (by decide) (by decide) dL_law_1455 dL_law_1456 dL_law_1457 dL_law_1458 dL_law_1459 ?_
  refine lw_call C (st := [.int r]) (k0 := 57) (n := 1) (As := [.int (xs (q + 1))]) (by decide) (by rfl) rfl gL_law_X8_status rfl rfl rfl (by decide +kernel) ⟨Nat.le_of_ble_eq_true rfl, Nat.le_of_ble_eq_true rfl⟩ rfl rfl (Nat.le_of_ble_eq_true rfl) (mtX8_status E l (xs (q + 1)) M1) e2 dL_law_1460 ?_
  exact lw_eq C dL_law_1463 (by decide) (kk M2 S1 (a1.hi k2) a2 w)
