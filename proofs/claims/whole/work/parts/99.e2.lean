/-! The law's blocks, with what is thrown (printed by wip/gen/gen_l2.py) -/
set_option maxRecDepth 100000 in
set_option maxHeartbeats 4000000 in
theorem lb_record {p : Program} {l : Launch} {e : Env} {s : State} {m : MethodId} {below : List Frame} {meth : Method} {c : Code} {b L : Nat} {xs : Nat → Int32} {D : va_G} {ca : Nat → ClassId} {ad adm : Nat → Nat} {H : Heap} {locs : List Loc} {t : Nat} {ls : Array Slot} {M F Q6 T1 : Nat} (hM : M = 64) (hF : F = 40) (h6 : Q6 = 6) (hT1 : T1 = 1000) (C0 : lC p l s m c b L xs D ca ad adm) (ht : 5 * t + 5 ≤ L) (hNX : lNX p l e s m below meth c b D ca ad adm t) {st : xS} {o : Nat → Int64} {w : mS} (hPd : va_P D clsAll (uw 166 ad (kG ca ad (st, o))) H) (hPm : va_P D clsAll (uw 22 adm (mG ca adm w)) H) (hS : va_S (lA s) s.heap H locs) (hr : rel st w) (hl : lv_has ls 7 (lV ad adm b t)) : lW p l e s m below meth c b H locs (188 + 2 * t) (12101 + 12 * t) 333 ls [] := by
  obtain ⟨v, π⟩ := st
  obtain ⟨n, σ, hb, ho⟩ := rel_get hr
  have C1 := C0
  obtain ⟨S, hlf, hK, hN, hTK, hNC, hap, hX, hbl, hL⟩ := C1
  have hU : ∀ w ∈ uWS, w ∈ lw_tbl := fun w h => uWS_in h
  have ht5 : t ≤ 512 := by omega
  have hJ5 : uJ 165 ad := fun i j hi hj => hap.1 i j (by omega) (by omega)
  refine lv_aload_n S.1 S.2.1 d_L_law_333 rfl (lv_at hl 3 rfl) ?_
  refine l_arg C0 hl hS 1 (by omega) (by decide) d_L_law_334 d_L_law_335 d_L_law_337 d_L_law_338 d_L_law_339 ?_
  refine l_arg C0 hl hS 2 (by omega) (by decide) d_L_law_340 d_L_law_341 d_L_law_343 d_L_law_344 d_L_law_345 ?_
  refine l_arg C0 hl hS 3 (by omega) (by decide) d_L_law_346 d_L_law_347 d_L_law_349 d_L_law_350 d_L_law_351 ?_
  refine l_bool C0 359 d_L_law_352 d_L_law_355 d_L_law_356 d_L_law_359 rfl ?_
  refine lv_aload_n S.1 S.2.1 d_L_law_360 rfl (lv_at hl 1 rfl) ?_
  refine lSi (n := 5) (As := [.ref (ad 0), .int (xs (5 * t + 1)), .int (xs (5 * t + 2)), .int (bz (xs (5 * t + 3))), .ref (ad 165)]) (rest := []) S hK hN hTK hNC hap hPd hPm hS (c_L_record hlf hap.1 v π M hM n hb.bk _ _ _ o) hU t2_40 t2_38 t1_0 t2_39 (by decide +kernel) (by decide) (by decide) rfl hl.1 rfl (Nat.le_of_ble_eq_true rfl) d_L_law_361 (by show 188 + 2 * t + 1 ≤ 601024; omega) (by show 12101 + 12 * t + 6 ≤ 7293033; omega) (fun k z H locs hp hPd hPm hS => ?_)
  obtain ⟨u, o1⟩ := z
  refine lv_istore (lv' := [(5, .int k), (4, .int (nI (5 * t))), (3, .ref (ad 165)), (2, .ref (adm 0)), (1, .ref (ad 0)), (0, .ref b)]) S.1 S.2.1 d_L_law_364 hl (by decide) rfl (fun ls hl => ?_)
  have hlV : lv_has ls 7 (lV ad adm b t) := lv_sub hl [1, 2, 3, 4, 5] rfl
  refine lv_aload_n S.1 S.2.1 d_L_law_366 rfl (lv_at hl 3 rfl) ?_
  refine l_arg C0 hlV hS 1 (by omega) (by decide) d_L_law_367 d_L_law_368 d_L_law_370 d_L_law_371 d_L_law_372 ?_
  refine l_arg C0 hlV hS 2 (by omega) (by decide) d_L_law_373 d_L_law_374 d_L_law_376 d_L_law_377 d_L_law_378 ?_
  refine l_arg C0 hlV hS 3 (by omega) (by decide) d_L_law_379 d_L_law_380 d_L_law_382 d_L_law_383 d_L_law_384 ?_
  refine l_bool C0 392 d_L_law_385 d_L_law_388 d_L_law_389 d_L_law_392 rfl ?_
  refine lMi (n := 3) (As := [.int (xs (5 * t + 1)), .int (xs (5 * t + 2)), .int (bz (xs (5 * t + 3)))]) (rest := []) S hK hN hap hPd hPm hS (c_M_record hap.2.1 w M hM F hF _ _ _) ⟨hU, t4_27, t4_24, t1_8, by decide +kernel, by decide, by decide⟩ t4_25 t4_26 mg_obj rfl rfl rfl hl.1 rfl (Nat.le_of_ble_eq_true rfl) d_L_law_393 ⟨by show 188 + 2 * t + 1 ≤ 601024; omega, by show 12101 + 12 * t + 6 ≤ 7293033; omega⟩ (fun r1 w1 H locs hq hPd hPm hS => ?_)
  refine lv_istore (lv' := [(6, .int r1), (5, .int k), (4, .int (nI (5 * t))), (3, .ref (ad 165)), (2, .ref (adm 0)), (1, .ref (ad 0)), (0, .ref b)]) S.1 S.2.1 d_L_law_396 hl (by decide) rfl (fun ls hl => ?_)
  have hfin : w1 0 0 = k ∧ (k = 0 → o1 0 = r1.toInt64) ∧ rel u w1 := by
    rcases hp with ⟨rfl, r0, ⟨h1, h2, h3⟩, ho0⟩ | ⟨rfl, hT⟩ | ⟨rfl, hT⟩
    · have h := op_record_0 hb ho hF hM h1 h2 h3 hq
      exact ⟨h.1, fun _ => by rw [← h.2.1]; exact ho0, h.2.2⟩
    · rcases hT with ⟨h1, h2, -⟩ | ⟨-, -, h3⟩
      · have h := op_record_1 hb ho h1 hq
        have hz : u = (v, π) := h2
        exact ⟨h.1, fun z => absurd z (by decide), by rw [hz]; exact h.2⟩
      · exact absurd h3 (by decide)
    · rcases hT with ⟨-, -, h3⟩ | ⟨h1, h2, -⟩
      · exact absurd h3 (by decide)
      · have h := op_record_2 hb ho hF hM h1 h2 hq
        exact ⟨h.1, fun z => absurd z (by decide), h.2⟩
  exact l_tail (z := (u, o1)) C0 hNX hPd hPm hS hfin hl (by omega) (by omega) ht5 d_L_law_398 d_L_law_399 d_L_law_402 d_L_law_404 d_L_law_409 d_L_law_411 d_L_law_414 d_L_law_415 d_L_law_416 d_L_law_417 d_L_law_419 d_L_law_420 d_L_law_421 d_L_law_426 (by decide)

set_option maxRecDepth 100000 in
set_option maxHeartbeats 4000000 in
theorem lb_update {p : Program} {l : Launch} {e : Env} {s : State} {m : MethodId} {below : List Frame} {meth : Method} {c : Code} {b L : Nat} {xs : Nat → Int32} {D : va_G} {ca : Nat → ClassId} {ad adm : Nat → Nat} {H : Heap} {locs : List Loc} {t : Nat} {ls : Array Slot} {M F Q6 T1 : Nat} (hM : M = 64) (hF : F = 40) (h6 : Q6 = 6) (hT1 : T1 = 1000) (C0 : lC p l s m c b L xs D ca ad adm) (ht : 5 * t + 5 ≤ L) (hNX : lNX p l e s m below meth c b D ca ad adm t) {st : xS} {o : Nat → Int64} {w : mS} (hPd : va_P D clsAll (uw 166 ad (kG ca ad (st, o))) H) (hPm : va_P D clsAll (uw 22 adm (mG ca adm w)) H) (hS : va_S (lA s) s.heap H locs) (hr : rel st w) (hl : lv_has ls 7 (lV ad adm b t)) : lW p l e s m below meth c b H locs (188 + 2 * t) (12101 + 12 * t) 429 ls [] := by
  obtain ⟨v, π⟩ := st
  obtain ⟨n, σ, hb, ho⟩ := rel_get hr
  have C1 := C0
  obtain ⟨S, hlf, hK, hN, hTK, hNC, hap, hX, hbl, hL⟩ := C1
  have hU : ∀ w ∈ uWS, w ∈ lw_tbl := fun w h => uWS_in h
  have ht5 : t ≤ 512 := by omega
  have hJ5 : uJ 165 ad := fun i j hi hj => hap.1 i j (by omega) (by omega)
  refine lv_aload_n S.1 S.2.1 d_L_law_429 rfl (lv_at hl 3 rfl) ?_
  refine l_arg C0 hl hS 1 (by omega) (by decide) d_L_law_430 d_L_law_431 d_L_law_433 d_L_law_434 d_L_law_435 ?_
  refine l_arg C0 hl hS 2 (by omega) (by decide) d_L_law_436 d_L_law_437 d_L_law_439 d_L_law_440 d_L_law_441 ?_
  refine lv_aload_n S.1 S.2.1 d_L_law_442 rfl (lv_at hl 1 rfl) ?_
  refine lSi (n := 4) (As := [.ref (ad 0), .int (xs (5 * t + 1)), .int (xs (5 * t + 2)), .ref (ad 165)]) (rest := []) S hK hN hTK hNC hap hPd hPm hS (c_L_update hlf hap.1 v π M hM n hb.bk _ _ o) hU t2_189 t2_187 t1_0 t2_188 (by decide +kernel) (by decide) (by decide) rfl hl.1 rfl (Nat.le_of_ble_eq_true rfl) d_L_law_443 (by show 188 + 2 * t + 2 ≤ 601024; omega) (by show 12101 + 12 * t + 12 ≤ 7293033; omega) (fun k z H locs hp hPd hPm hS => ?_)
  obtain ⟨u, o1⟩ := z
  refine lv_istore (lv' := [(5, .int k), (4, .int (nI (5 * t))), (3, .ref (ad 165)), (2, .ref (adm 0)), (1, .ref (ad 0)), (0, .ref b)]) S.1 S.2.1 d_L_law_446 hl (by decide) rfl (fun ls hl => ?_)
  have hlV : lv_has ls 7 (lV ad adm b t) := lv_sub hl [1, 2, 3, 4, 5] rfl
  refine lv_aload_n S.1 S.2.1 d_L_law_448 rfl (lv_at hl 3 rfl) ?_
  refine l_arg C0 hlV hS 1 (by omega) (by decide) d_L_law_449 d_L_law_450 d_L_law_452 d_L_law_453 d_L_law_454 ?_
  refine l_arg C0 hlV hS 2 (by omega) (by decide) d_L_law_455 d_L_law_456 d_L_law_458 d_L_law_459 d_L_law_460 ?_
  refine lMi (n := 2) (As := [.int (xs (5 * t + 1)), .int (xs (5 * t + 2))]) (rest := []) S hK hN hap hPd hPm hS (c_M_update hap.2.1 w M hM F hF _ _) ⟨hU, t4_87, t4_84, t1_8, by decide +kernel, by decide, by decide⟩ t4_85 t4_86 mg_obj rfl rfl rfl hl.1 rfl (Nat.le_of_ble_eq_true rfl) d_L_law_461 ⟨by show 188 + 2 * t + 2 ≤ 601024; omega, by show 12101 + 12 * t + 12 ≤ 7293033; omega⟩ (fun r1 w1 H locs hq hPd hPm hS => ?_)
  refine lv_istore (lv' := [(6, .int r1), (5, .int k), (4, .int (nI (5 * t))), (3, .ref (ad 165)), (2, .ref (adm 0)), (1, .ref (ad 0)), (0, .ref b)]) S.1 S.2.1 d_L_law_464 hl (by decide) rfl (fun ls hl => ?_)
  have hfin : w1 0 0 = k ∧ (k = 0 → o1 0 = r1.toInt64) ∧ rel u w1 := by
    rcases hp with ⟨rfl, r0, ⟨q, h1, h2, h3⟩, ho0⟩ | ⟨rfl, hT⟩ | ⟨rfl, hT⟩
    · have h := op_update_0 hb ho hF hM h1 h2 h3 hq
      exact ⟨h.1, fun _ => by rw [← h.2.1]; exact ho0, h.2.2⟩
    · rcases hT with ⟨h2, h1, -⟩ | ⟨q, -, -, h3⟩
      · have h := op_update_1 hb ho hF h1 hq
        have hz : u = (v, π) := h2
        exact ⟨h.1, fun z => absurd z (by decide), by rw [hz]; exact h.2⟩
      · exact absurd h3 (by decide)
    · rcases hT with ⟨-, -, h3⟩ | ⟨q, h1, h2, -⟩
      · exact absurd h3 (by decide)
      · have h := op_update_2 hb ho hF hM h1 h2 hq
        exact ⟨h.1, fun z => absurd z (by decide), h.2⟩
  exact l_tail (z := (u, o1)) C0 hNX hPd hPm hS hfin hl (by omega) (by omega) ht5 d_L_law_466 d_L_law_467 d_L_law_470 d_L_law_472 d_L_law_477 d_L_law_479 d_L_law_482 d_L_law_483 d_L_law_484 d_L_law_485 d_L_law_487 d_L_law_488 d_L_law_489 d_L_law_494 (by decide)

set_option maxRecDepth 100000 in
set_option maxHeartbeats 4000000 in
theorem lb_delete {p : Program} {l : Launch} {e : Env} {s : State} {m : MethodId} {below : List Frame} {meth : Method} {c : Code} {b L : Nat} {xs : Nat → Int32} {D : va_G} {ca : Nat → ClassId} {ad adm : Nat → Nat} {H : Heap} {locs : List Loc} {t : Nat} {ls : Array Slot} {M F Q6 T1 : Nat} (hM : M = 64) (hF : F = 40) (h6 : Q6 = 6) (hT1 : T1 = 1000) (C0 : lC p l s m c b L xs D ca ad adm) (ht : 5 * t + 5 ≤ L) (hNX : lNX p l e s m below meth c b D ca ad adm t) {st : xS} {o : Nat → Int64} {w : mS} (hPd : va_P D clsAll (uw 166 ad (kG ca ad (st, o))) H) (hPm : va_P D clsAll (uw 22 adm (mG ca adm w)) H) (hS : va_S (lA s) s.heap H locs) (hr : rel st w) (hl : lv_has ls 7 (lV ad adm b t)) : lW p l e s m below meth c b H locs (188 + 2 * t) (12101 + 12 * t) 497 ls [] := by
  obtain ⟨v, π⟩ := st
  obtain ⟨n, σ, hb, ho⟩ := rel_get hr
  have C1 := C0
  obtain ⟨S, hlf, hK, hN, hTK, hNC, hap, hX, hbl, hL⟩ := C1
  have hU : ∀ w ∈ uWS, w ∈ lw_tbl := fun w h => uWS_in h
  have ht5 : t ≤ 512 := by omega
  have hJ5 : uJ 165 ad := fun i j hi hj => hap.1 i j (by omega) (by omega)
  refine lv_aload_n S.1 S.2.1 d_L_law_497 rfl (lv_at hl 3 rfl) ?_
  refine l_arg C0 hl hS 1 (by omega) (by decide) d_L_law_498 d_L_law_499 d_L_law_501 d_L_law_502 d_L_law_503 ?_
  refine l_arg C0 hl hS 2 (by omega) (by decide) d_L_law_504 d_L_law_505 d_L_law_507 d_L_law_508 d_L_law_509 ?_
  refine l_arg C0 hl hS 3 (by omega) (by decide) d_L_law_510 d_L_law_511 d_L_law_513 d_L_law_514 d_L_law_515 ?_
  refine l_bool C0 523 d_L_law_516 d_L_law_519 d_L_law_520 d_L_law_523 rfl ?_
  refine lv_aload_n S.1 S.2.1 d_L_law_524 rfl (lv_at hl 1 rfl) ?_
  refine lSi (n := 5) (As := [.ref (ad 0), .int (xs (5 * t + 1)), .int (xs (5 * t + 2)), .int (bz (xs (5 * t + 3))), .ref (ad 165)]) (rest := []) S hK hN hTK hNC hap hPd hPm hS (c_L_delete hlf hap.1 v π M hM n hb.bk _ _ _ o) hU t2_228 t2_226 t1_0 t2_227 (by decide +kernel) (by decide) (by decide) rfl hl.1 rfl (Nat.le_of_ble_eq_true rfl) d_L_law_525 (by show 188 + 2 * t + 1 ≤ 601024; omega) (by show 12101 + 12 * t + 6 ≤ 7293033; omega) (fun k z H locs hp hPd hPm hS => ?_)
  obtain ⟨u, o1⟩ := z
  refine lv_istore (lv' := [(5, .int k), (4, .int (nI (5 * t))), (3, .ref (ad 165)), (2, .ref (adm 0)), (1, .ref (ad 0)), (0, .ref b)]) S.1 S.2.1 d_L_law_528 hl (by decide) rfl (fun ls hl => ?_)
  have hlV : lv_has ls 7 (lV ad adm b t) := lv_sub hl [1, 2, 3, 4, 5] rfl
  refine lv_aload_n S.1 S.2.1 d_L_law_530 rfl (lv_at hl 3 rfl) ?_
  refine l_arg C0 hlV hS 1 (by omega) (by decide) d_L_law_531 d_L_law_532 d_L_law_534 d_L_law_535 d_L_law_536 ?_
  refine l_arg C0 hlV hS 2 (by omega) (by decide) d_L_law_537 d_L_law_538 d_L_law_540 d_L_law_541 d_L_law_542 ?_
  refine l_arg C0 hlV hS 3 (by omega) (by decide) d_L_law_543 d_L_law_544 d_L_law_546 d_L_law_547 d_L_law_548 ?_
  refine l_bool C0 556 d_L_law_549 d_L_law_552 d_L_law_553 d_L_law_556 rfl ?_
  refine lMi (n := 3) (As := [.int (xs (5 * t + 1)), .int (xs (5 * t + 2)), .int (bz (xs (5 * t + 3)))]) (rest := []) S hK hN hap hPd hPm hS (c_M_delete hap.2.1 w M hM F hF _ _ _) ⟨hU, t4_95, t4_92, t1_8, by decide +kernel, by decide, by decide⟩ t4_93 t4_94 mg_obj rfl rfl rfl hl.1 rfl (Nat.le_of_ble_eq_true rfl) d_L_law_557 ⟨by show 188 + 2 * t + 1 ≤ 601024; omega, by show 12101 + 12 * t + 6 ≤ 7293033; omega⟩ (fun r1 w1 H locs hq hPd hPm hS => ?_)
  refine lv_istore (lv' := [(6, .int r1), (5, .int k), (4, .int (nI (5 * t))), (3, .ref (ad 165)), (2, .ref (adm 0)), (1, .ref (ad 0)), (0, .ref b)]) S.1 S.2.1 d_L_law_560 hl (by decide) rfl (fun ls hl => ?_)
  have hfin : w1 0 0 = k ∧ (k = 0 → o1 0 = r1.toInt64) ∧ rel u w1 := by
    rcases hp with ⟨rfl, r0, ⟨q, h1, h2⟩, ho0⟩ | ⟨rfl, hT⟩ | ⟨rfl, hT⟩
    · have h := op_delete_0 hb ho hF hM h1 h2 hq
      exact ⟨h.1, fun _ => by rw [← h.2.1]; exact ho0, h.2.2⟩
    · rcases hT with ⟨h2, h1, -⟩ | h3
      · have h := op_delete_1 hb ho hF h1 hq
        have hz : u = (v, π) := h2
        exact ⟨h.1, fun z => absurd z (by decide), by rw [hz]; exact h.2⟩
      · exact h3.elim
    · rcases hT with ⟨-, -, h3⟩ | h3
      · exact absurd h3 (by decide)
      · exact h3.elim
  exact l_tail (z := (u, o1)) C0 hNX hPd hPm hS hfin hl (by omega) (by omega) ht5 d_L_law_562 d_L_law_563 d_L_law_566 d_L_law_568 d_L_law_573 d_L_law_575 d_L_law_578 d_L_law_579 d_L_law_580 d_L_law_581 d_L_law_583 d_L_law_584 d_L_law_585 d_L_law_590 (by decide)

set_option maxRecDepth 100000 in
set_option maxHeartbeats 4000000 in
theorem lb_block {p : Program} {l : Launch} {e : Env} {s : State} {m : MethodId} {below : List Frame} {meth : Method} {c : Code} {b L : Nat} {xs : Nat → Int32} {D : va_G} {ca : Nat → ClassId} {ad adm : Nat → Nat} {H : Heap} {locs : List Loc} {t : Nat} {ls : Array Slot} {M F Q6 T1 : Nat} (hM : M = 64) (hF : F = 40) (h6 : Q6 = 6) (hT1 : T1 = 1000) (C0 : lC p l s m c b L xs D ca ad adm) (ht : 5 * t + 5 ≤ L) (hNX : lNX p l e s m below meth c b D ca ad adm t) {st : xS} {o : Nat → Int64} {w : mS} (hPd : va_P D clsAll (uw 166 ad (kG ca ad (st, o))) H) (hPm : va_P D clsAll (uw 22 adm (mG ca adm w)) H) (hS : va_S (lA s) s.heap H locs) (hr : rel st w) (hl : lv_has ls 7 (lV ad adm b t)) : lW p l e s m below meth c b H locs (188 + 2 * t) (12101 + 12 * t) 593 ls [] := by
  obtain ⟨v, π⟩ := st
  obtain ⟨n, σ, hb, ho⟩ := rel_get hr
  have C1 := C0
  obtain ⟨S, hlf, hK, hN, hTK, hNC, hap, hX, hbl, hL⟩ := C1
  have hU : ∀ w ∈ uWS, w ∈ lw_tbl := fun w h => uWS_in h
  have ht5 : t ≤ 512 := by omega
  have hJ5 : uJ 165 ad := fun i j hi hj => hap.1 i j (by omega) (by omega)
  refine lv_aload_n S.1 S.2.1 d_L_law_593 rfl (lv_at hl 3 rfl) ?_
  refine l_arg C0 hl hS 1 (by omega) (by decide) d_L_law_594 d_L_law_595 d_L_law_597 d_L_law_598 d_L_law_599 ?_
  refine l_arg C0 hl hS 2 (by omega) (by decide) d_L_law_600 d_L_law_601 d_L_law_603 d_L_law_604 d_L_law_605 ?_
  refine l_arg C0 hl hS 3 (by omega) (by decide) d_L_law_606 d_L_law_607 d_L_law_609 d_L_law_610 d_L_law_611 ?_
  refine l_bool C0 619 d_L_law_612 d_L_law_615 d_L_law_616 d_L_law_619 rfl ?_
  refine lv_aload_n S.1 S.2.1 d_L_law_620 rfl (lv_at hl 1 rfl) ?_
  refine lSi (n := 5) (As := [.ref (ad 0), .int (xs (5 * t + 1)), .int (xs (5 * t + 2)), .int (bz (xs (5 * t + 3))), .ref (ad 165)]) (rest := []) S hK hN hTK hNC hap hPd hPm hS (c_L_block hlf hap.1 v π M hM n hb.bk _ _ _ o) hU t3_3 t3_1 t1_0 t3_2 (by decide +kernel) (by decide) (by decide) rfl hl.1 rfl (Nat.le_of_ble_eq_true rfl) d_L_law_621 (by show 188 + 2 * t + 2 ≤ 601024; omega) (by show 12101 + 12 * t + 12 ≤ 7293033; omega) (fun k z H locs hp hPd hPm hS => ?_)
  obtain ⟨u, o1⟩ := z
  refine lv_istore (lv' := [(5, .int k), (4, .int (nI (5 * t))), (3, .ref (ad 165)), (2, .ref (adm 0)), (1, .ref (ad 0)), (0, .ref b)]) S.1 S.2.1 d_L_law_624 hl (by decide) rfl (fun ls hl => ?_)
  have hlV : lv_has ls 7 (lV ad adm b t) := lv_sub hl [1, 2, 3, 4, 5] rfl
  refine lv_aload_n S.1 S.2.1 d_L_law_626 rfl (lv_at hl 3 rfl) ?_
  refine l_arg C0 hlV hS 1 (by omega) (by decide) d_L_law_627 d_L_law_628 d_L_law_630 d_L_law_631 d_L_law_632 ?_
  refine l_arg C0 hlV hS 2 (by omega) (by decide) d_L_law_633 d_L_law_634 d_L_law_636 d_L_law_637 d_L_law_638 ?_
  refine l_arg C0 hlV hS 3 (by omega) (by decide) d_L_law_639 d_L_law_640 d_L_law_642 d_L_law_643 d_L_law_644 ?_
  refine l_bool C0 652 d_L_law_645 d_L_law_648 d_L_law_649 d_L_law_652 rfl ?_
  refine lMi (n := 3) (As := [.int (xs (5 * t + 1)), .int (xs (5 * t + 2)), .int (bz (xs (5 * t + 3)))]) (rest := []) S hK hN hap hPd hPm hS (c_M_block hap.2.1 w M hM F hF _ _ _) ⟨hU, t4_99, t4_96, t1_8, by decide +kernel, by decide, by decide⟩ t4_97 t4_98 mg_obj rfl rfl rfl hl.1 rfl (Nat.le_of_ble_eq_true rfl) d_L_law_653 ⟨by show 188 + 2 * t + 2 ≤ 601024; omega, by show 12101 + 12 * t + 12 ≤ 7293033; omega⟩ (fun r1 w1 H locs hq hPd hPm hS => ?_)
  refine lv_istore (lv' := [(6, .int r1), (5, .int k), (4, .int (nI (5 * t))), (3, .ref (ad 165)), (2, .ref (adm 0)), (1, .ref (ad 0)), (0, .ref b)]) S.1 S.2.1 d_L_law_656 hl (by decide) rfl (fun ls hl => ?_)
  have hfin : w1 0 0 = k ∧ (k = 0 → o1 0 = r1.toInt64) ∧ rel u w1 := by
    rcases hp with ⟨rfl, r0, ⟨q, h1, h2, h3⟩, ho0⟩ | ⟨rfl, hT⟩ | ⟨rfl, hT⟩
    · have h := op_block_0 hb ho hF hM h1 h2 h3 hq
      exact ⟨h.1, fun _ => by rw [← h.2.1]; exact ho0, h.2.2⟩
    · rcases hT with ⟨h2, h1, -⟩ | ⟨q, -, -, h3⟩
      · have h := op_block_1 hb ho hF h1 hq
        have hz : u = (v, π) := h2
        exact ⟨h.1, fun z => absurd z (by decide), by rw [hz]; exact h.2⟩
      · exact absurd h3 (by decide)
    · rcases hT with ⟨-, -, h3⟩ | ⟨q, h1, h2, -⟩
      · exact absurd h3 (by decide)
      · have h := op_block_2 hb ho hF hM h1 h2 hq
        exact ⟨h.1, fun z => absurd z (by decide), h.2⟩
  exact l_tail (z := (u, o1)) C0 hNX hPd hPm hS hfin hl (by omega) (by omega) ht5 d_L_law_658 d_L_law_659 d_L_law_662 d_L_law_664 d_L_law_669 d_L_law_671 d_L_law_674 d_L_law_675 d_L_law_676 d_L_law_677 d_L_law_679 d_L_law_680 d_L_law_681 d_L_law_686 (by decide)

set_option maxRecDepth 100000 in
set_option maxHeartbeats 4000000 in
theorem lb_look {p : Program} {l : Launch} {e : Env} {s : State} {m : MethodId} {below : List Frame} {meth : Method} {c : Code} {b L : Nat} {xs : Nat → Int32} {D : va_G} {ca : Nat → ClassId} {ad adm : Nat → Nat} {H : Heap} {locs : List Loc} {t : Nat} {ls : Array Slot} {M F Q6 T1 : Nat} (hM : M = 64) (hF : F = 40) (h6 : Q6 = 6) (hT1 : T1 = 1000) (C0 : lC p l s m c b L xs D ca ad adm) (ht : 5 * t + 5 ≤ L) (hNX : lNX p l e s m below meth c b D ca ad adm t) {st : xS} {o : Nat → Int64} {w : mS} (hPd : va_P D clsAll (uw 166 ad (kG ca ad (st, o))) H) (hPm : va_P D clsAll (uw 22 adm (mG ca adm w)) H) (hS : va_S (lA s) s.heap H locs) (hr : rel st w) (hl : lv_has ls 7 (lV ad adm b t)) : lW p l e s m below meth c b H locs (188 + 2 * t) (12101 + 12 * t) 811 ls [] := by
  obtain ⟨v, π⟩ := st
  obtain ⟨n, σ, hb, ho⟩ := rel_get hr
  have C1 := C0
  obtain ⟨S, hlf, hK, hN, hTK, hNC, hap, hX, hbl, hL⟩ := C1
  have hU : ∀ w ∈ uWS, w ∈ lw_tbl := fun w h => uWS_in h
  have ht5 : t ≤ 512 := by omega
  have hJ5 : uJ 165 ad := fun i j hi hj => hap.1 i j (by omega) (by omega)
  refine lv_aload_n S.1 S.2.1 d_L_law_811 rfl (lv_at hl 3 rfl) ?_
  refine l_arg C0 hl hS 1 (by omega) (by decide) d_L_law_812 d_L_law_813 d_L_law_815 d_L_law_816 d_L_law_817 ?_
  refine l_arg C0 hl hS 2 (by omega) (by decide) d_L_law_818 d_L_law_819 d_L_law_821 d_L_law_822 d_L_law_823 ?_
  refine l_arg C0 hl hS 3 (by omega) (by decide) d_L_law_824 d_L_law_825 d_L_law_827 d_L_law_828 d_L_law_829 ?_
  refine lv_aload_n S.1 S.2.1 d_L_law_830 rfl (lv_at hl 1 rfl) ?_
  refine lSi (n := 5) (As := [.ref (ad 0), .int (xs (5 * t + 1)), .int (xs (5 * t + 2)), .int (xs (5 * t + 3)), .ref (ad 165)]) (rest := []) S hK hN hTK hNC hap hPd hPm hS (c_L_look hlf hap.1 v π n hb.bk _ _ _ o) hU t3_23 t3_21 t1_0 t3_22 (by decide +kernel) (by decide) (by decide) rfl hl.1 rfl (Nat.le_of_ble_eq_true rfl) d_L_law_831 (by show 188 + 2 * t + 2 ≤ 601024; omega) (by show 12101 + 12 * t + 12 ≤ 7293033; omega) (fun k z H locs hp hPd hPm hS => ?_)
  obtain ⟨u, o1⟩ := z
  refine lv_istore (lv' := [(5, .int k), (4, .int (nI (5 * t))), (3, .ref (ad 165)), (2, .ref (adm 0)), (1, .ref (ad 0)), (0, .ref b)]) S.1 S.2.1 d_L_law_834 hl (by decide) rfl (fun ls hl => ?_)
  have hlV : lv_has ls 7 (lV ad adm b t) := lv_sub hl [1, 2, 3, 4, 5] rfl
  refine lv_aload_n S.1 S.2.1 d_L_law_836 rfl (lv_at hl 3 rfl) ?_
  refine l_arg C0 hlV hS 1 (by omega) (by decide) d_L_law_837 d_L_law_838 d_L_law_840 d_L_law_841 d_L_law_842 ?_
  refine l_arg C0 hlV hS 2 (by omega) (by decide) d_L_law_843 d_L_law_844 d_L_law_846 d_L_law_847 d_L_law_848 ?_
  refine l_arg C0 hlV hS 3 (by omega) (by decide) d_L_law_849 d_L_law_850 d_L_law_852 d_L_law_853 d_L_law_854 ?_
  refine lMi (n := 3) (As := [.int (xs (5 * t + 1)), .int (xs (5 * t + 2)), .int (xs (5 * t + 3))]) (rest := []) S hK hN hap hPd hPm hS (c_M_look hap.2.1 w F hF hb.mv _ _ _) ⟨hU, t4_114, t4_111, t1_8, by decide +kernel, by decide, by decide⟩ t4_112 t4_113 mg_obj rfl rfl rfl hl.1 rfl (Nat.le_of_ble_eq_true rfl) d_L_law_855 ⟨by show 188 + 2 * t + 2 ≤ 601024; omega, by show 12101 + 12 * t + 12 ≤ 7293033; omega⟩ (fun r1 w1 H locs hq hPd hPm hS => ?_)
  refine lv_istore (lv' := [(6, .int r1), (5, .int k), (4, .int (nI (5 * t))), (3, .ref (ad 165)), (2, .ref (adm 0)), (1, .ref (ad 0)), (0, .ref b)]) S.1 S.2.1 d_L_law_858 hl (by decide) rfl (fun ls hl => ?_)
  have hfin : w1 0 0 = k ∧ (k = 0 → o1 0 = r1.toInt64) ∧ rel u w1 := by
    rcases hp with ⟨rfl, r0, ⟨h2, q, h1, h3, h4⟩, ho0⟩ | ⟨rfl, hT⟩ | ⟨rfl, hT⟩
    · have h := op_look_0 hb ho hF h1 h3 hq
      have hz : u = (v, π) := h2
      exact ⟨h.1, fun _ => by rw [← h.2.1, ← h4]; exact ho0, by rw [hz]; exact h.2.2⟩
    · rcases hT with ⟨h2, h1, -⟩ | ⟨-, -, -, h3⟩
      · have h := op_look_1 hb ho hF h1 hq
        have hz : u = (v, π) := h2
        exact ⟨h.1, fun z => absurd z (by decide), by rw [hz]; exact h.2⟩
      · exact absurd h3 (by decide)
    · rcases hT with ⟨-, -, h3⟩ | ⟨h2, ⟨q, h1⟩, h3, -⟩
      · exact absurd h3 (by decide)
      · have h := op_look_2 hb ho hF h1 h3 hq
        have hz : u = (v, π) := h2
        exact ⟨h.1, fun z => absurd z (by decide), by rw [hz]; exact h.2⟩
  exact l_tail (z := (u, o1)) C0 hNX hPd hPm hS hfin hl (by omega) (by omega) ht5 d_L_law_860 d_L_law_861 d_L_law_864 d_L_law_866 d_L_law_871 d_L_law_873 d_L_law_876 d_L_law_877 d_L_law_878 d_L_law_879 d_L_law_881 d_L_law_882 d_L_law_883 d_L_law_888 (by decide)

set_option maxRecDepth 100000 in
set_option maxHeartbeats 4000000 in
theorem lb_source {p : Program} {l : Launch} {e : Env} {s : State} {m : MethodId} {below : List Frame} {meth : Method} {c : Code} {b L : Nat} {xs : Nat → Int32} {D : va_G} {ca : Nat → ClassId} {ad adm : Nat → Nat} {H : Heap} {locs : List Loc} {t : Nat} {ls : Array Slot} {M F Q6 T1 : Nat} (hM : M = 64) (hF : F = 40) (h6 : Q6 = 6) (hT1 : T1 = 1000) (C0 : lC p l s m c b L xs D ca ad adm) (ht : 5 * t + 5 ≤ L) (hNX : lNX p l e s m below meth c b D ca ad adm t) {st : xS} {o : Nat → Int64} {w : mS} (hPd : va_P D clsAll (uw 166 ad (kG ca ad (st, o))) H) (hPm : va_P D clsAll (uw 22 adm (mG ca adm w)) H) (hS : va_S (lA s) s.heap H locs) (hr : rel st w) (hl : lv_has ls 7 (lV ad adm b t)) : lW p l e s m below meth c b H locs (188 + 2 * t) (12101 + 12 * t) 891 ls [] := by
  obtain ⟨v, π⟩ := st
  obtain ⟨n, σ, hb, ho⟩ := rel_get hr
  have C1 := C0
  obtain ⟨S, hlf, hK, hN, hTK, hNC, hap, hX, hbl, hL⟩ := C1
  have hU : ∀ w ∈ uWS, w ∈ lw_tbl := fun w h => uWS_in h
  have ht5 : t ≤ 512 := by omega
  have hJ5 : uJ 165 ad := fun i j hi hj => hap.1 i j (by omega) (by omega)
  refine lv_aload_n S.1 S.2.1 d_L_law_891 rfl (lv_at hl 3 rfl) ?_
  refine l_arg C0 hl hS 1 (by omega) (by decide) d_L_law_892 d_L_law_893 d_L_law_895 d_L_law_896 d_L_law_897 ?_
  refine l_arg C0 hl hS 2 (by omega) (by decide) d_L_law_898 d_L_law_899 d_L_law_901 d_L_law_902 d_L_law_903 ?_
  refine l_arg C0 hl hS 3 (by omega) (by decide) d_L_law_904 d_L_law_905 d_L_law_907 d_L_law_908 d_L_law_909 ?_
  refine lv_aload_n S.1 S.2.1 d_L_law_910 rfl (lv_at hl 1 rfl) ?_
  refine lSi (n := 5) (As := [.ref (ad 0), .int (xs (5 * t + 1)), .int (xs (5 * t + 2)), .int (xs (5 * t + 3)), .ref (ad 165)]) (rest := []) S hK hN hTK hNC hap hPd hPm hS (c_L_source hlf hap.1 v π n hb.bk _ _ _ o) hU t3_52 t3_50 t1_0 t3_51 (by decide +kernel) (by decide) (by decide) rfl hl.1 rfl (Nat.le_of_ble_eq_true rfl) d_L_law_911 (by show 188 + 2 * t + 2 ≤ 601024; omega) (by show 12101 + 12 * t + 12 ≤ 7293033; omega) (fun k z H locs hp hPd hPm hS => ?_)
  obtain ⟨u, o1⟩ := z
  refine lv_istore (lv' := [(5, .int k), (4, .int (nI (5 * t))), (3, .ref (ad 165)), (2, .ref (adm 0)), (1, .ref (ad 0)), (0, .ref b)]) S.1 S.2.1 d_L_law_914 hl (by decide) rfl (fun ls hl => ?_)
  have hlV : lv_has ls 7 (lV ad adm b t) := lv_sub hl [1, 2, 3, 4, 5] rfl
  refine lv_aload_n S.1 S.2.1 d_L_law_916 rfl (lv_at hl 3 rfl) ?_
  refine l_arg C0 hlV hS 1 (by omega) (by decide) d_L_law_917 d_L_law_918 d_L_law_920 d_L_law_921 d_L_law_922 ?_
  refine l_arg C0 hlV hS 2 (by omega) (by decide) d_L_law_923 d_L_law_924 d_L_law_926 d_L_law_927 d_L_law_928 ?_
  refine l_arg C0 hlV hS 3 (by omega) (by decide) d_L_law_929 d_L_law_930 d_L_law_932 d_L_law_933 d_L_law_934 ?_
  refine lMi (n := 3) (As := [.int (xs (5 * t + 1)), .int (xs (5 * t + 2)), .int (xs (5 * t + 3))]) (rest := []) S hK hN hap hPd hPm hS (c_M_source hap.2.1 w F hF _ _ _) ⟨hU, t4_126, t4_123, t1_8, by decide +kernel, by decide, by decide⟩ t4_124 t4_125 mg_obj rfl rfl rfl hl.1 rfl (Nat.le_of_ble_eq_true rfl) d_L_law_935 ⟨by show 188 + 2 * t + 2 ≤ 601024; omega, by show 12101 + 12 * t + 12 ≤ 7293033; omega⟩ (fun r1 w1 H locs hq hPd hPm hS => ?_)
  refine lv_istore (lv' := [(6, .int r1), (5, .int k), (4, .int (nI (5 * t))), (3, .ref (ad 165)), (2, .ref (adm 0)), (1, .ref (ad 0)), (0, .ref b)]) S.1 S.2.1 d_L_law_938 hl (by decide) rfl (fun ls hl => ?_)
  have hfin : w1 0 0 = k ∧ (k = 0 → o1 0 = r1.toInt64) ∧ rel u w1 := by
    rcases hp with ⟨rfl, r0, ⟨h2, q, h1, h3, h4⟩, ho0⟩ | ⟨rfl, hT⟩ | ⟨rfl, hT⟩
    · have h := op_source_0 hb ho hF h1 h3 hq
      have hz : u = (v, π) := h2
      exact ⟨h.1, fun _ => by rw [← h.2.1, ← h4]; exact ho0, by rw [hz]; exact h.2.2⟩
    · rcases hT with ⟨h2, h1, -⟩ | ⟨-, -, -, h3⟩
      · have h := op_source_1 hb ho hF h1 hq
        have hz : u = (v, π) := h2
        exact ⟨h.1, fun z => absurd z (by decide), by rw [hz]; exact h.2⟩
      · exact absurd h3 (by decide)
    · rcases hT with ⟨-, -, h3⟩ | ⟨h2, ⟨q, h1⟩, h3, -⟩
      · exact absurd h3 (by decide)
      · have h := op_source_2 hb ho hF h1 h3 hq
        have hz : u = (v, π) := h2
        exact ⟨h.1, fun z => absurd z (by decide), by rw [hz]; exact h.2⟩
  exact l_tail (z := (u, o1)) C0 hNX hPd hPm hS hfin hl (by omega) (by omega) ht5 d_L_law_940 d_L_law_941 d_L_law_944 d_L_law_946 d_L_law_951 d_L_law_953 d_L_law_956 d_L_law_957 d_L_law_958 d_L_law_959 d_L_law_961 d_L_law_962 d_L_law_963 d_L_law_968 (by decide)

set_option maxRecDepth 100000 in
set_option maxHeartbeats 4000000 in
theorem lb_cue {p : Program} {l : Launch} {e : Env} {s : State} {m : MethodId} {below : List Frame} {meth : Method} {c : Code} {b L : Nat} {xs : Nat → Int32} {D : va_G} {ca : Nat → ClassId} {ad adm : Nat → Nat} {H : Heap} {locs : List Loc} {t : Nat} {ls : Array Slot} {M F Q6 T1 : Nat} (hM : M = 64) (hF : F = 40) (h6 : Q6 = 6) (hT1 : T1 = 1000) (C0 : lC p l s m c b L xs D ca ad adm) (ht : 5 * t + 5 ≤ L) (hNX : lNX p l e s m below meth c b D ca ad adm t) {st : xS} {o : Nat → Int64} {w : mS} (hPd : va_P D clsAll (uw 166 ad (kG ca ad (st, o))) H) (hPm : va_P D clsAll (uw 22 adm (mG ca adm w)) H) (hS : va_S (lA s) s.heap H locs) (hr : rel st w) (hl : lv_has ls 7 (lV ad adm b t)) : lW p l e s m below meth c b H locs (188 + 2 * t) (12101 + 12 * t) 971 ls [] := by
  obtain ⟨v, π⟩ := st
  obtain ⟨n, σ, hb, ho⟩ := rel_get hr
  have C1 := C0
  obtain ⟨S, hlf, hK, hN, hTK, hNC, hap, hX, hbl, hL⟩ := C1
  have hU : ∀ w ∈ uWS, w ∈ lw_tbl := fun w h => uWS_in h
  have ht5 : t ≤ 512 := by omega
  have hJ5 : uJ 165 ad := fun i j hi hj => hap.1 i j (by omega) (by omega)
  refine lv_aload_n S.1 S.2.1 d_L_law_971 rfl (lv_at hl 3 rfl) ?_
  refine l_arg C0 hl hS 1 (by omega) (by decide) d_L_law_972 d_L_law_973 d_L_law_975 d_L_law_976 d_L_law_977 ?_
  refine l_arg C0 hl hS 2 (by omega) (by decide) d_L_law_978 d_L_law_979 d_L_law_981 d_L_law_982 d_L_law_983 ?_
  refine l_arg C0 hl hS 3 (by omega) (by decide) d_L_law_984 d_L_law_985 d_L_law_987 d_L_law_988 d_L_law_989 ?_
  refine lv_aload_n S.1 S.2.1 d_L_law_990 rfl (lv_at hl 1 rfl) ?_
  refine lSi (n := 5) (As := [.ref (ad 0), .int (xs (5 * t + 1)), .int (xs (5 * t + 2)), .int (xs (5 * t + 3)), .ref (ad 165)]) (rest := []) S hK hN hTK hNC hap hPd hPm hS (c_L_cue hlf hap.1 v π n hb.bk _ _ _ o) hU t3_60 t3_58 t1_0 t3_59 (by decide +kernel) (by decide) (by decide) rfl hl.1 rfl (Nat.le_of_ble_eq_true rfl) d_L_law_991 (by show 188 + 2 * t + 1 ≤ 601024; omega) (by show 12101 + 12 * t + 6 ≤ 7293033; omega) (fun k z H locs hp hPd hPm hS => ?_)
  obtain ⟨u, o1⟩ := z
  refine lv_istore (lv' := [(5, .int k), (4, .int (nI (5 * t))), (3, .ref (ad 165)), (2, .ref (adm 0)), (1, .ref (ad 0)), (0, .ref b)]) S.1 S.2.1 d_L_law_994 hl (by decide) rfl (fun ls hl => ?_)
  have hlV : lv_has ls 7 (lV ad adm b t) := lv_sub hl [1, 2, 3, 4, 5] rfl
  refine lv_aload_n S.1 S.2.1 d_L_law_996 rfl (lv_at hl 3 rfl) ?_
  refine l_arg C0 hlV hS 1 (by omega) (by decide) d_L_law_997 d_L_law_998 d_L_law_1000 d_L_law_1001 d_L_law_1002 ?_
  refine l_arg C0 hlV hS 2 (by omega) (by decide) d_L_law_1003 d_L_law_1004 d_L_law_1006 d_L_law_1007 d_L_law_1008 ?_
  refine l_arg C0 hlV hS 3 (by omega) (by decide) d_L_law_1009 d_L_law_1010 d_L_law_1012 d_L_law_1013 d_L_law_1014 ?_
  refine lMi (n := 3) (As := [.int (xs (5 * t + 1)), .int (xs (5 * t + 2)), .int (xs (5 * t + 3))]) (rest := []) S hK hN hap hPd hPm hS (c_M_cue hap.2.1 w M hM F hF _ _ _ (cue_cw hb hF _)) ⟨hU, t4_130, t4_127, t1_8, by decide +kernel, by decide, by decide⟩ t4_128 t4_129 mg_obj rfl rfl rfl hl.1 rfl (Nat.le_of_ble_eq_true rfl) d_L_law_1015 ⟨by show 188 + 2 * t + 1 ≤ 601024; omega, by show 12101 + 12 * t + 6 ≤ 7293033; omega⟩ (fun r1 w1 H locs hq hPd hPm hS => ?_)
  refine lv_istore (lv' := [(6, .int r1), (5, .int k), (4, .int (nI (5 * t))), (3, .ref (ad 165)), (2, .ref (adm 0)), (1, .ref (ad 0)), (0, .ref b)]) S.1 S.2.1 d_L_law_1018 hl (by decide) rfl (fun ls hl => ?_)
  have hfin : w1 0 0 = k ∧ (k = 0 → o1 0 = r1.toInt64) ∧ rel u w1 := by
    rcases hp with ⟨rfl, r0, ⟨h2, h1, h3⟩, ho0⟩ | ⟨rfl, hT⟩
    · have h := op_cue_0 hb ho hF hM h1 h3 hq
      have hz : u = (v, π) := h2
      exact ⟨h.1, fun _ => by rw [← h.2.1]; exact ho0, by rw [hz]; exact h.2.2⟩
    · obtain ⟨h2, -, h1⟩ := hT
      have h := op_cue_1 hb ho hF hM h1 hq
      have hz : u = (v, π) := h2
      exact ⟨h.1, fun z => absurd z (by decide), by rw [hz]; exact h.2⟩
  exact l_tail (z := (u, o1)) C0 hNX hPd hPm hS hfin hl (by omega) (by omega) ht5 d_L_law_1020 d_L_law_1021 d_L_law_1024 d_L_law_1026 d_L_law_1031 d_L_law_1033 d_L_law_1036 d_L_law_1037 d_L_law_1038 d_L_law_1039 d_L_law_1041 d_L_law_1042 d_L_law_1043 d_L_law_1048 (by decide)

set_option maxRecDepth 100000 in
set_option maxHeartbeats 4000000 in
theorem lb_go {p : Program} {l : Launch} {e : Env} {s : State} {m : MethodId} {below : List Frame} {meth : Method} {c : Code} {b L : Nat} {xs : Nat → Int32} {D : va_G} {ca : Nat → ClassId} {ad adm : Nat → Nat} {H : Heap} {locs : List Loc} {t : Nat} {ls : Array Slot} {M F Q6 T1 : Nat} (hM : M = 64) (hF : F = 40) (h6 : Q6 = 6) (hT1 : T1 = 1000) (C0 : lC p l s m c b L xs D ca ad adm) (ht : 5 * t + 5 ≤ L) (hNX : lNX p l e s m below meth c b D ca ad adm t) {st : xS} {o : Nat → Int64} {w : mS} (hPd : va_P D clsAll (uw 166 ad (kG ca ad (st, o))) H) (hPm : va_P D clsAll (uw 22 adm (mG ca adm w)) H) (hS : va_S (lA s) s.heap H locs) (hr : rel st w) (hl : lv_has ls 7 (lV ad adm b t)) : lW p l e s m below meth c b H locs (188 + 2 * t) (12101 + 12 * t) 1088 ls [] := by
  obtain ⟨v, π⟩ := st
  obtain ⟨n, σ, hb, ho⟩ := rel_get hr
  have C1 := C0
  obtain ⟨S, hlf, hK, hN, hTK, hNC, hap, hX, hbl, hL⟩ := C1
  have hU : ∀ w ∈ uWS, w ∈ lw_tbl := fun w h => uWS_in h
  have ht5 : t ≤ 512 := by omega
  have hJ5 : uJ 165 ad := fun i j hi hj => hap.1 i j (by omega) (by omega)
  refine lv_aload_n S.1 S.2.1 d_L_law_1088 rfl (lv_at hl 3 rfl) ?_
  refine l_arg C0 hl hS 1 (by omega) (by decide) d_L_law_1089 d_L_law_1090 d_L_law_1092 d_L_law_1093 d_L_law_1094 ?_
  refine l_arg C0 hl hS 2 (by omega) (by decide) d_L_law_1095 d_L_law_1096 d_L_law_1098 d_L_law_1099 d_L_law_1100 ?_
  refine l_bool C0 1108 d_L_law_1101 d_L_law_1104 d_L_law_1105 d_L_law_1108 rfl ?_
  refine l_arg C0 hl hS 3 (by omega) (by decide) d_L_law_1109 d_L_law_1110 d_L_law_1112 d_L_law_1113 d_L_law_1114 ?_
  refine lv_aload_n S.1 S.2.1 d_L_law_1115 rfl (lv_at hl 1 rfl) ?_
  refine lSi (n := 5) (As := [.ref (ad 0), .int (xs (5 * t + 1)), .int (bz (xs (5 * t + 2))), .int (xs (5 * t + 3)), .ref (ad 165)]) (rest := []) S hK hN hTK hNC hap hPd hPm hS (c_L_go hlf hap.1 v π M hM n hb.bk Q6 h6 T1 hT1 _ _ _ o) hU t3_82 t3_80 t1_0 t3_81 (by decide +kernel) (by decide) (by decide) rfl hl.1 rfl (Nat.le_of_ble_eq_true rfl) d_L_law_1116 (by show 188 + 2 * t + 1 ≤ 601024; omega) (by show 12101 + 12 * t + 6 ≤ 7293033; omega) (fun k z H locs hp hPd hPm hS => ?_)
  obtain ⟨u, o1⟩ := z
  refine lv_istore (lv' := [(5, .int k), (4, .int (nI (5 * t))), (3, .ref (ad 165)), (2, .ref (adm 0)), (1, .ref (ad 0)), (0, .ref b)]) S.1 S.2.1 d_L_law_1119 hl (by decide) rfl (fun ls hl => ?_)
  have hlV : lv_has ls 7 (lV ad adm b t) := lv_sub hl [1, 2, 3, 4, 5] rfl
  refine lv_aload_n S.1 S.2.1 d_L_law_1121 rfl (lv_at hl 3 rfl) ?_
  refine l_arg C0 hlV hS 1 (by omega) (by decide) d_L_law_1122 d_L_law_1123 d_L_law_1125 d_L_law_1126 d_L_law_1127 ?_
  refine l_arg C0 hlV hS 2 (by omega) (by decide) d_L_law_1128 d_L_law_1129 d_L_law_1131 d_L_law_1132 d_L_law_1133 ?_
  refine l_bool C0 1141 d_L_law_1134 d_L_law_1137 d_L_law_1138 d_L_law_1141 rfl ?_
  refine l_arg C0 hlV hS 3 (by omega) (by decide) d_L_law_1142 d_L_law_1143 d_L_law_1145 d_L_law_1146 d_L_law_1147 ?_
  obtain ⟨K, hKK, hKT, hKv, hKo, -, -⟩ := go_ask hb ho hF hM h6 hT1 (xs (5 * t + 3)) (isPb (xs (5 * t + 1)) ∧ mTick w (xs (5 * t + 3))) (fun z => z.2)
  refine lMi (n := 3) (As := [.int (xs (5 * t + 1)), .int (bz (xs (5 * t + 2))), .int (xs (5 * t + 3))]) (rest := []) S hK hN hap hPd hPm hS (c_M_go hap.2.1 w M hM F hF Q6 h6 K _ _ _ hKT hKv hKo) ⟨hU, t4_141, t4_138, t1_8, by decide +kernel, by decide, by decide⟩ t4_139 t4_140 mg_obj rfl rfl rfl hl.1 rfl (Nat.le_of_ble_eq_true rfl) d_L_law_1148 ⟨by show 188 + 2 * t + 1 ≤ 601024; omega, by show 12101 + 12 * t + 6 ≤ 7293033; omega⟩ (fun r1 w1 H locs hq hPd hPm hS => ?_)
  refine lv_istore (lv' := [(6, .int r1), (5, .int k), (4, .int (nI (5 * t))), (3, .ref (ad 165)), (2, .ref (adm 0)), (1, .ref (ad 0)), (0, .ref b)]) S.1 S.2.1 d_L_law_1151 hl (by decide) rfl (fun ls hl => ?_)
  have hfin : w1 0 0 = k ∧ (k = 0 → o1 0 = r1.toInt64) ∧ rel u w1 := by
    rcases hp with ⟨rfl, r0, ⟨h1, q, h2, h3, h4⟩, ho0⟩ | ⟨rfl, hT⟩ | ⟨rfl, hT⟩
    · have hk := hKK ⟨h1.1, (tick_iff ho _).mp h1.2⟩
      subst hk
      have h := op_go_0 hb ho hF hM h6 hT1 h1 h2 hq
      have hz : u = _ := h3
      exact ⟨h.1, fun _ => by rw [← h.2.1, ← h4]; exact ho0, by rw [hz]; exact h.2.2⟩
    · rcases hT with ⟨h1, h2, -⟩ | ⟨-, -, -, h3⟩
      · have h := op_go_1 hb ho h1 hq
        have hz : u = (v, π) := h2
        exact ⟨h.1, fun z => absurd z (by decide), by rw [hz]; exact h.2⟩
      · exact absurd h3 (by decide)
    · rcases hT with ⟨-, -, h3⟩ | ⟨h1, h2, h3, -⟩
      · exact absurd h3 (by decide)
      · have hk := hKK ⟨h1.1, (tick_iff ho _).mp h1.2⟩
        subst hk
        have h := op_go_2 hb ho hF hM h6 hT1 h1 h2 hq
        have hz : u = _ := h3
        exact ⟨h.1, fun z => absurd z (by decide), by rw [hz]; exact h.2⟩
  exact l_tail (z := (u, o1)) C0 hNX hPd hPm hS hfin hl (by omega) (by omega) ht5 d_L_law_1153 d_L_law_1154 d_L_law_1157 d_L_law_1159 d_L_law_1164 d_L_law_1166 d_L_law_1169 d_L_law_1170 d_L_law_1171 d_L_law_1172 d_L_law_1174 d_L_law_1175 d_L_law_1176 d_L_law_1181 (by decide)

set_option maxRecDepth 100000 in
set_option maxHeartbeats 4000000 in
theorem lb_out {p : Program} {l : Launch} {e : Env} {s : State} {m : MethodId} {below : List Frame} {meth : Method} {c : Code} {b L : Nat} {xs : Nat → Int32} {D : va_G} {ca : Nat → ClassId} {ad adm : Nat → Nat} {H : Heap} {locs : List Loc} {t : Nat} {ls : Array Slot} {M F Q6 T1 : Nat} (hM : M = 64) (hF : F = 40) (h6 : Q6 = 6) (hT1 : T1 = 1000) (C0 : lC p l s m c b L xs D ca ad adm) (ht : 5 * t + 5 ≤ L) (hNX : lNX p l e s m below meth c b D ca ad adm t) {st : xS} {o : Nat → Int64} {w : mS} (hPd : va_P D clsAll (uw 166 ad (kG ca ad (st, o))) H) (hPm : va_P D clsAll (uw 22 adm (mG ca adm w)) H) (hS : va_S (lA s) s.heap H locs) (hr : rel st w) (hl : lv_has ls 7 (lV ad adm b t)) : lW p l e s m below meth c b H locs (188 + 2 * t) (12101 + 12 * t) 1221 ls [] := by
  obtain ⟨v, π⟩ := st
  obtain ⟨n, σ, hb, ho⟩ := rel_get hr
  have C1 := C0
  obtain ⟨S, hlf, hK, hN, hTK, hNC, hap, hX, hbl, hL⟩ := C1
  have hU : ∀ w ∈ uWS, w ∈ lw_tbl := fun w h => uWS_in h
  have ht5 : t ≤ 512 := by omega
  have hJ5 : uJ 165 ad := fun i j hi hj => hap.1 i j (by omega) (by omega)
  refine lv_aload_n S.1 S.2.1 d_L_law_1221 rfl (lv_at hl 3 rfl) ?_
  refine l_arg C0 hl hS 1 (by omega) (by decide) d_L_law_1222 d_L_law_1223 d_L_law_1225 d_L_law_1226 d_L_law_1227 ?_
  refine l_arg C0 hl hS 2 (by omega) (by decide) d_L_law_1228 d_L_law_1229 d_L_law_1231 d_L_law_1232 d_L_law_1233 ?_
  refine lv_aload_n S.1 S.2.1 d_L_law_1234 rfl (lv_at hl 1 rfl) ?_
  refine lSi (n := 4) (As := [.ref (ad 0), .int (xs (5 * t + 1)), .int (xs (5 * t + 2)), .ref (ad 165)]) (rest := []) S hK hN hTK hNC hap hPd hPm hS (c_L_out hlf hap.1 v π M hM n hb.bk Q6 h6 T1 hT1 _ _ o) hU t3_122 t3_120 t1_0 t3_121 (by decide +kernel) (by decide) (by decide) rfl hl.1 rfl (Nat.le_of_ble_eq_true rfl) d_L_law_1235 (by show 188 + 2 * t + 1 ≤ 601024; omega) (by show 12101 + 12 * t + 6 ≤ 7293033; omega) (fun k z H locs hp hPd hPm hS => ?_)
  obtain ⟨u, o1⟩ := z
  refine lv_istore (lv' := [(5, .int k), (4, .int (nI (5 * t))), (3, .ref (ad 165)), (2, .ref (adm 0)), (1, .ref (ad 0)), (0, .ref b)]) S.1 S.2.1 d_L_law_1238 hl (by decide) rfl (fun ls hl => ?_)
  have hlV : lv_has ls 7 (lV ad adm b t) := lv_sub hl [1, 2, 3, 4, 5] rfl
  refine lv_aload_n S.1 S.2.1 d_L_law_1240 rfl (lv_at hl 3 rfl) ?_
  refine l_arg C0 hlV hS 1 (by omega) (by decide) d_L_law_1241 d_L_law_1242 d_L_law_1244 d_L_law_1245 d_L_law_1246 ?_
  refine l_arg C0 hlV hS 2 (by omega) (by decide) d_L_law_1247 d_L_law_1248 d_L_law_1250 d_L_law_1251 d_L_law_1252 ?_
  obtain ⟨K, hKK, hKT, -, -, hKv, hKo⟩ := go_ask hb ho hF hM h6 hT1 (xs (5 * t + 2)) (isCh (xs (5 * t + 1)) ∧ mTick w (xs (5 * t + 2))) (fun z => z.2)
  refine lMi (n := 2) (As := [.int (xs (5 * t + 1)), .int (xs (5 * t + 2))]) (rest := []) S hK hN hap hPd hPm hS (c_M_out hap.2.1 w M hM F hF Q6 h6 K _ _ hKT hKv hKo) ⟨hU, t4_166, t4_163, t1_8, by decide +kernel, by decide, by decide⟩ t4_164 t4_165 mg_obj rfl rfl rfl hl.1 rfl (Nat.le_of_ble_eq_true rfl) d_L_law_1253 ⟨by show 188 + 2 * t + 1 ≤ 601024; omega, by show 12101 + 12 * t + 6 ≤ 7293033; omega⟩ (fun r1 w1 H locs hq hPd hPm hS => ?_)
  refine lv_istore (lv' := [(6, .int r1), (5, .int k), (4, .int (nI (5 * t))), (3, .ref (ad 165)), (2, .ref (adm 0)), (1, .ref (ad 0)), (0, .ref b)]) S.1 S.2.1 d_L_law_1256 hl (by decide) rfl (fun ls hl => ?_)
  have hfin : w1 0 0 = k ∧ (k = 0 → o1 0 = r1.toInt64) ∧ rel u w1 := by
    rcases hp with ⟨rfl, r0, ⟨h1, h2, h3⟩, ho0⟩ | ⟨rfl, hT⟩
    · have hk := hKK ⟨h1.1, (tick_iff ho _).mp h1.2⟩
      subst hk
      have h := op_out_0 hb ho hF hM h6 hT1 h1 hq
      have hz : u = _ := h2
      exact ⟨h.1, fun _ => by rw [← h.2.1, ← h3]; exact ho0, by rw [hz]; exact h.2.2⟩
    · obtain ⟨h1, h2, -⟩ := hT
      have h := op_out_1 hb ho h1 hq
      have hz : u = (v, π) := h2
      exact ⟨h.1, fun z => absurd z (by decide), by rw [hz]; exact h.2⟩
  exact l_tail (z := (u, o1)) C0 hNX hPd hPm hS hfin hl (by omega) (by omega) ht5 d_L_law_1258 d_L_law_1259 d_L_law_1262 d_L_law_1264 d_L_law_1269 d_L_law_1271 d_L_law_1274 d_L_law_1275 d_L_law_1276 d_L_law_1277 d_L_law_1279 d_L_law_1280 d_L_law_1281 d_L_law_1286 (by decide)

set_option maxRecDepth 100000 in
set_option maxHeartbeats 4000000 in
theorem lb_playback {p : Program} {l : Launch} {e : Env} {s : State} {m : MethodId} {below : List Frame} {meth : Method} {c : Code} {b L : Nat} {xs : Nat → Int32} {D : va_G} {ca : Nat → ClassId} {ad adm : Nat → Nat} {H : Heap} {locs : List Loc} {t : Nat} {ls : Array Slot} {M F Q6 T1 : Nat} (hM : M = 64) (hF : F = 40) (h6 : Q6 = 6) (hT1 : T1 = 1000) (C0 : lC p l s m c b L xs D ca ad adm) (ht : 5 * t + 5 ≤ L) (hNX : lNX p l e s m below meth c b D ca ad adm t) {st : xS} {o : Nat → Int64} {w : mS} (hPd : va_P D clsAll (uw 166 ad (kG ca ad (st, o))) H) (hPm : va_P D clsAll (uw 22 adm (mG ca adm w)) H) (hS : va_S (lA s) s.heap H locs) (hr : rel st w) (hl : lv_has ls 7 (lV ad adm b t)) : lW p l e s m below meth c b H locs (188 + 2 * t) (12101 + 12 * t) 1289 ls [] := by
  obtain ⟨v, π⟩ := st
  obtain ⟨n, σ, hb, ho⟩ := rel_get hr
  have C1 := C0
  obtain ⟨S, hlf, hK, hN, hTK, hNC, hap, hX, hbl, hL⟩ := C1
  have hU : ∀ w ∈ uWS, w ∈ lw_tbl := fun w h => uWS_in h
  have ht5 : t ≤ 512 := by omega
  have hJ5 : uJ 165 ad := fun i j hi hj => hap.1 i j (by omega) (by omega)
  refine lv_aload_n S.1 S.2.1 d_L_law_1289 rfl (lv_at hl 3 rfl) ?_
  refine l_arg C0 hl hS 1 (by omega) (by decide) d_L_law_1290 d_L_law_1291 d_L_law_1293 d_L_law_1294 d_L_law_1295 ?_
  refine l_arg C0 hl hS 2 (by omega) (by decide) d_L_law_1296 d_L_law_1297 d_L_law_1299 d_L_law_1300 d_L_law_1301 ?_
  refine lv_aload_n S.1 S.2.1 d_L_law_1302 rfl (lv_at hl 1 rfl) ?_
  refine lSi (n := 4) (As := [.ref (ad 0), .int (xs (5 * t + 1)), .int (xs (5 * t + 2)), .ref (ad 165)]) (rest := []) S hK hN hTK hNC hap hPd hPm hS (c_L_playback hlf hap.1 v π _ _ o) hU t3_147 t3_145 t1_0 t3_146 (by decide +kernel) (by decide) (by decide) rfl hl.1 rfl (Nat.le_of_ble_eq_true rfl) d_L_law_1303 (by show 188 + 2 * t + 1 ≤ 601024; omega) (by show 12101 + 12 * t + 6 ≤ 7293033; omega) (fun k z H locs hp hPd hPm hS => ?_)
  obtain ⟨u, o1⟩ := z
  refine lv_istore (lv' := [(5, .int k), (4, .int (nI (5 * t))), (3, .ref (ad 165)), (2, .ref (adm 0)), (1, .ref (ad 0)), (0, .ref b)]) S.1 S.2.1 d_L_law_1306 hl (by decide) rfl (fun ls hl => ?_)
  have hlV : lv_has ls 7 (lV ad adm b t) := lv_sub hl [1, 2, 3, 4, 5] rfl
  refine lv_aload_n S.1 S.2.1 d_L_law_1308 rfl (lv_at hl 3 rfl) ?_
  refine l_arg C0 hlV hS 1 (by omega) (by decide) d_L_law_1309 d_L_law_1310 d_L_law_1312 d_L_law_1313 d_L_law_1314 ?_
  refine l_arg C0 hlV hS 2 (by omega) (by decide) d_L_law_1315 d_L_law_1316 d_L_law_1318 d_L_law_1319 d_L_law_1320 ?_
  refine lMi (n := 2) (As := [.int (xs (5 * t + 1)), .int (xs (5 * t + 2))]) (rest := []) S hK hN hap hPd hPm hS (c_M_playback hap.2.1 w _ _ (ho.mo _)) ⟨hU, t4_174, t4_171, t1_8, by decide +kernel, by decide, by decide⟩ t4_172 t4_173 mg_obj rfl rfl rfl hl.1 rfl (Nat.le_of_ble_eq_true rfl) d_L_law_1321 ⟨by show 188 + 2 * t + 1 ≤ 601024; omega, by show 12101 + 12 * t + 6 ≤ 7293033; omega⟩ (fun r1 w1 H locs hq hPd hPm hS => ?_)
  refine lv_istore (lv' := [(6, .int r1), (5, .int k), (4, .int (nI (5 * t))), (3, .ref (ad 165)), (2, .ref (adm 0)), (1, .ref (ad 0)), (0, .ref b)]) S.1 S.2.1 d_L_law_1324 hl (by decide) rfl (fun ls hl => ?_)
  have hfin : w1 0 0 = k ∧ (k = 0 → o1 0 = r1.toInt64) ∧ rel u w1 := by
    rcases hp with ⟨rfl, r0, ⟨h2, h1, h3⟩, ho0⟩ | ⟨rfl, hT⟩
    · have h := op_playback_0 hb ho h1 hq
      have hz : u = (v, π) := h2
      exact ⟨h.1, fun _ => by rw [← h.2.1, ← h3]; exact ho0, by rw [hz]; exact h.2.2⟩
    · obtain ⟨h2, h1, -⟩ := hT
      have h := op_playback_1 hb ho h1 hq
      have hz : u = (v, π) := h2
      exact ⟨h.1, fun z => absurd z (by decide), by rw [hz]; exact h.2⟩
  exact l_tail (z := (u, o1)) C0 hNX hPd hPm hS hfin hl (by omega) (by omega) ht5 d_L_law_1326 d_L_law_1327 d_L_law_1330 d_L_law_1332 d_L_law_1337 d_L_law_1339 d_L_law_1342 d_L_law_1343 d_L_law_1344 d_L_law_1345 d_L_law_1347 d_L_law_1348 d_L_law_1349 d_L_law_1354 (by decide)

