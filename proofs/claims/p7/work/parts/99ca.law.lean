/-! Part 99ca: cases of the law. Printed by wip/tools/genlaw.py. -/
theorem y_k0 {Γ : q_Γ} (hG : q_GG Γ) {i : Nat} (hi : i + 6 ≤ Γ.2.2.2.1) (hL : Γ.2.2.2.1 ≤ 3072) {h : q_F} (hA : q_Al 0 155 h) (J : t_J h) (E : h 1 1 = h 139 14) {cl sl : Nat} (hc : cl ≤ 3900) (hs : sl ≤ 39000) (k : y_K Γ i cl sl) : q_R Γ q_K 155 369 y_P (308, y_lo i, [], q_hp q_K 155 h, [], cl, sl) := by
  obtain ⟨S, J⟩ := J
  refine r_aload_n c369_308 rfl rfl ?_
  refine y_arg c369_309 c369_310 c369_312 c369_313 c369_314 rfl rfl rfl hi hL (by decide) ?_
  refine y_arg c369_315 c369_316 c369_318 c369_319 c369_320 rfl rfl rfl hi hL (by decide) ?_
  refine y_arg c369_321 c369_322 c369_324 c369_325 c369_326 rfl rfl rfl hi hL (by decide) ?_
  refine y_arg c369_327 c369_328 c369_330 c369_331 c369_332 rfl rfl rfl hi hL (by decide) ?_
  refine y_arg c369_333 c369_334 c369_336 c369_337 c369_338 rfl rfl rfl hi hL (by decide) ?_
  obtain ⟨v1, g1, g2, S2, e1, e2, J2⟩ := t_app (a := (Γ.1 (i + 1))) (b := (Γ.1 (i + 2))) (c := (Γ.1 (i + 3))) (d := (Γ.1 (i + 4))) (e := (Γ.1 (i + 5))) J
  refine y_cv (a := 0) (b := 0) c369_339 (by decide) rfl rfl rfl rfl (by omega) (by omega) rfl rfl (wn156 hG (hG.1 (i + 1)) (hG.1 (i + 2)) (hG.1 (i + 3)) (hG.1 (i + 4)) (hG.1 (i + 5)) hA e1) ?_
  intro i1 A1
  refine r_pop c369_342 rfl rfl ?_
  refine r_aload_n c369_343 rfl rfl ?_
  refine y_arg c369_344 c369_345 c369_347 c369_348 c369_349 rfl rfl rfl hi hL (by decide) ?_
  refine y_arg c369_350 c369_351 c369_353 c369_354 c369_355 rfl rfl rfl hi hL (by decide) ?_
  refine y_arg c369_356 c369_357 c369_359 c369_360 c369_361 rfl rfl rfl hi hL (by decide) ?_
  refine y_arg c369_362 c369_363 c369_365 c369_366 c369_367 rfl rfl rfl hi hL (by decide) ?_
  refine y_arg c369_368 c369_369 c369_371 c369_372 c369_373 rfl rfl rfl hi hL (by decide) ?_
  refine y_cv (a := 0) (b := 0) c369_374 (by decide) rfl rfl rfl rfl (by omega) (by omega) rfl rfl (wn237 hG (hG.1 (i + 1)) (hG.1 (i + 2)) (hG.1 (i + 3)) (hG.1 (i + 4)) (hG.1 (i + 5)) A1 e2) ?_
  intro i2 A2
  refine r_pop c369_377 rfl rfl ?_
  refine r_goto c369_378 ?_
  refine q_R.wk (ks := [5, 0, 1, 2, 3, 4]) (lo' := y_lo i) rfl ?_
  exact k _ _ _ A2 ⟨⟨_, J2⟩, (j_T_J J2).2⟩ (by omega) (by omega)
theorem y_k1 {Γ : q_Γ} (hG : q_GG Γ) {i : Nat} (hi : i + 6 ≤ Γ.2.2.2.1) (hL : Γ.2.2.2.1 ≤ 3072) {h : q_F} (hA : q_Al 0 155 h) (J : t_J h) (E : h 1 1 = h 139 14) {cl sl : Nat} (hc : cl ≤ 3900) (hs : sl ≤ 39000) (k : y_K Γ i cl sl) : q_R Γ q_K 155 369 y_P (381, y_lo i, [], q_hp q_K 155 h, [], cl, sl) := by
  obtain ⟨S, J⟩ := J
  refine r_aload_n c369_381 rfl rfl ?_
  refine y_arg c369_382 c369_383 c369_385 c369_386 c369_387 rfl rfl rfl hi hL (by decide) ?_
  obtain ⟨v1, g1, g2, S2, e1, e2, J2⟩ := t_tru (v := (Γ.1 (i + 1))) J
  refine y_cv (a := 0) (b := 0) c369_388 (by decide) rfl rfl rfl rfl (by omega) (by omega) rfl rfl (wn226 hG (hG.1 (i + 1)) hA e1) ?_
  intro i1 A1
  refine r_pop c369_391 rfl rfl ?_
  refine r_aload_n c369_392 rfl rfl ?_
  refine y_arg c369_393 c369_394 c369_396 c369_397 c369_398 rfl rfl rfl hi hL (by decide) ?_
  refine y_cv (a := 0) (b := 0) c369_399 (by decide) rfl rfl rfl rfl (by omega) (by omega) rfl rfl (wn358 hG (hG.1 (i + 1)) A1 e2) ?_
  intro i2 A2
  refine r_pop c369_402 rfl rfl ?_
  refine r_goto c369_403 ?_
  refine q_R.wk (ks := [5, 0, 1, 2, 3, 4]) (lo' := y_lo i) rfl ?_
  exact k _ _ _ A2 ⟨⟨_, J2⟩, (j_T_J J2).2⟩ (by omega) (by omega)
theorem y_k2 {Γ : q_Γ} (hG : q_GG Γ) {i : Nat} (hi : i + 6 ≤ Γ.2.2.2.1) (hL : Γ.2.2.2.1 ≤ 3072) {h : q_F} (hA : q_Al 0 155 h) (J : t_J h) (E : h 1 1 = h 139 14) {cl sl : Nat} (hc : cl ≤ 3900) (hs : sl ≤ 39000) (k : y_K Γ i cl sl) : q_R Γ q_K 155 369 y_P (406, y_lo i, [], q_hp q_K 155 h, [], cl, sl) := by
  obtain ⟨S, J⟩ := J
  refine r_aload_n c369_406 rfl rfl ?_
  obtain ⟨v1, g1, g2, S2, e1, e2, J2⟩ := t_load  J
  refine y_cv (a := 0) (b := 0) c369_407 (by decide) rfl rfl rfl rfl (by omega) (by omega) rfl rfl (wn187 hG  hA e1) ?_
  intro i1 A1
  refine r_pop c369_410 rfl rfl ?_
  refine r_aload_n c369_411 rfl rfl ?_
  refine y_cv (a := 0) (b := 0) c369_412 (by decide) rfl rfl rfl rfl (by omega) (by omega) rfl rfl (wn283 hG  A1 e2) ?_
  intro i2 A2
  refine r_pop c369_415 rfl rfl ?_
  refine r_goto c369_416 ?_
  refine q_R.wk (ks := [5, 0, 1, 2, 3, 4]) (lo' := y_lo i) rfl ?_
  exact k _ _ _ A2 ⟨⟨_, J2⟩, (j_T_J J2).2⟩ (by omega) (by omega)
theorem y_k3 {Γ : q_Γ} (hG : q_GG Γ) {i : Nat} (hi : i + 6 ≤ Γ.2.2.2.1) (hL : Γ.2.2.2.1 ≤ 3072) {h : q_F} (hA : q_Al 0 155 h) (J : t_J h) (E : h 1 1 = h 139 14) {cl sl : Nat} (hc : cl ≤ 3900) (hs : sl ≤ 39000) (k : y_K Γ i cl sl) : q_R Γ q_K 155 369 y_P (419, y_lo i, [], q_hp q_K 155 h, [], cl, sl) := by
  obtain ⟨S, J⟩ := J
  refine r_aload_n c369_419 rfl rfl ?_
  obtain ⟨v1, e1⟩ := c_errCode h
  refine y_cp (a := 0) (b := 0) c369_420 (by decide) rfl rfl rfl rfl (by omega) (by omega) rfl rfl (wn177 hG  hA e1) ?_
  intro i1
  refine r_pop c369_423 rfl rfl ?_
  refine r_aload_n c369_424 rfl rfl ?_
  obtain ⟨v2, g2, e2, J2⟩ := t_r_errCode  hA J
  refine y_cv (a := 0) (b := 0) c369_425 (by decide) rfl rfl rfl rfl (by omega) (by omega) rfl rfl (wn255 hG  hA e2) ?_
  intro i2 A2
  refine r_pop c369_428 rfl rfl ?_
  refine r_goto c369_429 ?_
  refine q_R.wk (ks := [5, 0, 1, 2, 3, 4]) (lo' := y_lo i) rfl ?_
  exact k _ _ _ A2 ⟨⟨_, J2⟩, (j_T_J J2).2⟩ (by omega) (by omega)
theorem y_k4 {Γ : q_Γ} (hG : q_GG Γ) {i : Nat} (hi : i + 6 ≤ Γ.2.2.2.1) (hL : Γ.2.2.2.1 ≤ 3072) {h : q_F} (hA : q_Al 0 155 h) (J : t_J h) (E : h 1 1 = h 139 14) {cl sl : Nat} (hc : cl ≤ 3900) (hs : sl ≤ 39000) (k : y_K Γ i cl sl) : q_R Γ q_K 155 369 y_P (432, y_lo i, [], q_hp q_K 155 h, [], cl, sl) := by
  obtain ⟨S, J⟩ := J
  refine r_aload_n c369_432 rfl rfl ?_
  obtain ⟨v1, e1⟩ := c_errOff h
  refine y_cp (a := 0) (b := 0) c369_433 (by decide) rfl rfl rfl rfl (by omega) (by omega) rfl rfl (wn178 hG  hA e1) ?_
  intro i1
  refine r_pop c369_436 rfl rfl ?_
  refine r_aload_n c369_437 rfl rfl ?_
  obtain ⟨v2, g2, e2, J2⟩ := t_r_errOff  hA J
  refine y_cv (a := 0) (b := 0) c369_438 (by decide) rfl rfl rfl rfl (by omega) (by omega) rfl rfl (wn257 hG  hA e2) ?_
  intro i2 A2
  refine r_pop c369_441 rfl rfl ?_
  refine r_goto c369_442 ?_
  refine q_R.wk (ks := [5, 0, 1, 2, 3, 4]) (lo' := y_lo i) rfl ?_
  exact k _ _ _ A2 ⟨⟨_, J2⟩, (j_T_J J2).2⟩ (by omega) (by omega)
theorem y_k5 {Γ : q_Γ} (hG : q_GG Γ) {i : Nat} (hi : i + 6 ≤ Γ.2.2.2.1) (hL : Γ.2.2.2.1 ≤ 3072) {h : q_F} (hA : q_Al 0 155 h) (J : t_J h) (E : h 1 1 = h 139 14) {cl sl : Nat} (hc : cl ≤ 3900) (hs : sl ≤ 39000) (k : y_K Γ i cl sl) : q_R Γ q_K 155 369 y_P (445, y_lo i, [], q_hp q_K 155 h, [], cl, sl) := by
  obtain ⟨S, J⟩ := J
  refine r_aload_n c369_445 rfl rfl ?_
  refine y_arg c369_446 c369_447 c369_449 c369_450 c369_451 rfl rfl rfl hi hL (by decide) ?_
  refine r_aload_n c369_452 rfl rfl ?_
  obtain ⟨v1, g1, e1, J1⟩ := t_L5 (v1 := (Γ.1 (i + 1))) hA J
  refine y_cs (a := 1) (b := 6) c369_453 rfl rfl (by omega) (by omega) rfl rfl (wn5 hG (hG.1 (i + 1)) hA e1) ?_
  intro i1 A1
  refine r_istore c369_456 (lo' := [(6, (0, v1)), (5, (0, (i : Int))), (0, (9, 0)), (1, (2, Int.ofNat 0)), (2, (2, Int.ofNat 139)), (3, (2, Int.ofNat 153)), (4, (2, Int.ofNat 154))]) rfl rfl rfl ?_
  refine r_aload_n c369_458 rfl rfl ?_
  refine y_arg c369_459 c369_460 c369_462 c369_463 c369_464 rfl rfl rfl hi hL (by decide) ?_
  obtain ⟨v2, g2, e2, J2⟩ := t_r_count (v := (Γ.1 (i + 1))) A1 J1
  refine y_cv (a := 0) (b := 0) c369_465 (by decide) rfl rfl rfl rfl (by omega) (by omega) rfl rfl (wn250 hG (hG.1 (i + 1)) A1 e2) ?_
  intro i2 A2
  refine r_istore c369_468 (lo' := [(7, (0, v2)), (6, (0, v1)), (5, (0, (i : Int))), (0, (9, 0)), (1, (2, Int.ofNat 0)), (2, (2, Int.ofNat 139)), (3, (2, Int.ofNat 153)), (4, (2, Int.ofNat 154))]) rfl rfl rfl ?_
  refine r_aload_n c369_470 rfl rfl ?_
  have q9 := a_p7 J J1 e1 e2
  refine y_cp (a := 0) (b := 0) c369_471 (by decide) rfl rfl rfl rfl (by omega) (by omega) rfl rfl (wn368 hG A2 rfl) ?_
  intro i3
  refine r_iload c369_474 rfl rfl ?_
  refine r_ic_eq c369_476 rfl (q_w32_r i3) (q_w32_r i1) (fun _ => ?_) (fun h9 => absurd q9.1 h9.1)
  refine r_iload c369_481 rfl rfl ?_
  refine r_if_ne (a' := v1) c369_483 rfl (q_w32_r i1) (fun _ => ?_) (fun h9 => ?_)
  · refine r_goto c369_498 ?_
    refine q_R.wk (ks := [5, 0, 1, 2, 3, 4]) (lo' := y_lo i) rfl ?_
    exact k _ _ _ A2 ⟨⟨_, J2⟩, (j_T_J J2).2⟩ (by omega) (by omega)
  · refine r_aload_n c369_486 rfl rfl ?_
    refine r_iconst c369_487 rfl ?_
    refine r_lald c369_488 (by decide) (by decide) rfl (by decide) (q_w32_id (by decide) (by decide)) (by decide) (by decide) rfl ?_
    refine r_iload c369_489 rfl rfl ?_
    refine r_i2l c369_491 (q_w32_r i2) rfl ?_
    refine y_lc c369_492 c369_493 (q9.2 h9.1) ?_
    refine r_goto c369_498 ?_
    refine q_R.wk (ks := [5, 0, 1, 2, 3, 4]) (lo' := y_lo i) rfl ?_
    exact k _ _ _ A2 ⟨⟨_, J2⟩, (j_T_J J2).2⟩ (by omega) (by omega)
theorem y_k6 {Γ : q_Γ} (hG : q_GG Γ) {i : Nat} (hi : i + 6 ≤ Γ.2.2.2.1) (hL : Γ.2.2.2.1 ≤ 3072) {h : q_F} (hA : q_Al 0 155 h) (J : t_J h) (E : h 1 1 = h 139 14) {cl sl : Nat} (hc : cl ≤ 3900) (hs : sl ≤ 39000) (k : y_K Γ i cl sl) : q_R Γ q_K 155 369 y_P (501, y_lo i, [], q_hp q_K 155 h, [], cl, sl) := by
  obtain ⟨S, J⟩ := J
  refine r_aload_n c369_501 rfl rfl ?_
  refine y_arg c369_502 c369_503 c369_505 c369_506 c369_507 rfl rfl rfl hi hL (by decide) ?_
  refine y_arg c369_508 c369_509 c369_511 c369_512 c369_513 rfl rfl rfl hi hL (by decide) ?_
  refine r_aload_n c369_514 rfl rfl ?_
  obtain ⟨v1, g1, e1, J1⟩ := t_L1 (v1 := (Γ.1 (i + 1))) (v2 := (Γ.1 (i + 2))) hA J
  refine y_cs (a := 2) (b := 12) c369_515 rfl rfl (by omega) (by omega) rfl rfl (wn1 hG (hG.1 (i + 1)) (hG.1 (i + 2)) hA e1) ?_
  intro i1 A1
  refine r_istore c369_518 (lo' := [(6, (0, v1)), (5, (0, (i : Int))), (0, (9, 0)), (1, (2, Int.ofNat 0)), (2, (2, Int.ofNat 139)), (3, (2, Int.ofNat 153)), (4, (2, Int.ofNat 154))]) rfl rfl rfl ?_
  refine r_aload_n c369_520 rfl rfl ?_
  refine y_arg c369_521 c369_522 c369_524 c369_525 c369_526 rfl rfl rfl hi hL (by decide) ?_
  refine y_arg c369_527 c369_528 c369_530 c369_531 c369_532 rfl rfl rfl hi hL (by decide) ?_
  obtain ⟨v2, g2, e2, J2⟩ := t_r_axisC (a := (Γ.1 (i + 1))) (v := (Γ.1 (i + 2))) A1 J1
  refine y_cv (a := 0) (b := 0) c369_533 (by decide) rfl rfl rfl rfl (by omega) (by omega) rfl rfl (wn239 hG (hG.1 (i + 1)) (hG.1 (i + 2)) A1 e2) ?_
  intro i2 A2
  refine r_istore c369_536 (lo' := [(7, (0, v2)), (6, (0, v1)), (5, (0, (i : Int))), (0, (9, 0)), (1, (2, Int.ofNat 0)), (2, (2, Int.ofNat 139)), (3, (2, Int.ofNat 153)), (4, (2, Int.ofNat 154))]) rfl rfl rfl ?_
  refine r_goto c369_538 ?_
  refine q_R.wk (ks := [5, 0, 1, 2, 3, 4]) (lo' := y_lo i) rfl ?_
  exact k _ _ _ A2 ⟨⟨_, J2⟩, (j_T_J J2).2⟩ (by omega) (by omega)
theorem y_k7 {Γ : q_Γ} (hG : q_GG Γ) {i : Nat} (hi : i + 6 ≤ Γ.2.2.2.1) (hL : Γ.2.2.2.1 ≤ 3072) {h : q_F} (hA : q_Al 0 155 h) (J : t_J h) (E : h 1 1 = h 139 14) {cl sl : Nat} (hc : cl ≤ 3900) (hs : sl ≤ 39000) (k : y_K Γ i cl sl) : q_R Γ q_K 155 369 y_P (541, y_lo i, [], q_hp q_K 155 h, [], cl, sl) := by
  obtain ⟨S, J⟩ := J
  refine r_aload_n c369_541 rfl rfl ?_
  refine y_arg c369_542 c369_543 c369_545 c369_546 c369_547 rfl rfl rfl hi hL (by decide) ?_
  refine r_aload_n c369_548 rfl rfl ?_
  obtain ⟨v1, g1, e1, J1⟩ := t_L4 (v1 := (Γ.1 (i + 1))) hA J
  refine y_cs (a := 2) (b := 12) c369_549 rfl rfl (by omega) (by omega) rfl rfl (wn4 hG (hG.1 (i + 1)) hA e1) ?_
  intro i1 A1
  refine r_istore c369_552 (lo' := [(6, (0, v1)), (5, (0, (i : Int))), (0, (9, 0)), (1, (2, Int.ofNat 0)), (2, (2, Int.ofNat 139)), (3, (2, Int.ofNat 153)), (4, (2, Int.ofNat 154))]) rfl rfl rfl ?_
  refine r_aload_n c369_554 rfl rfl ?_
  refine y_arg c369_555 c369_556 c369_558 c369_559 c369_560 rfl rfl rfl hi hL (by decide) ?_
  obtain ⟨v2, g2, e2, J2⟩ := t_r_coordinate (a := (Γ.1 (i + 1))) A1 J1
  refine y_cv (a := 0) (b := 0) c369_561 (by decide) rfl rfl rfl rfl (by omega) (by omega) rfl rfl (wn248 hG (hG.1 (i + 1)) A1 e2) ?_
  intro i2 A2
  refine r_istore c369_564 (lo' := [(7, (0, v2)), (6, (0, v1)), (5, (0, (i : Int))), (0, (9, 0)), (1, (2, Int.ofNat 0)), (2, (2, Int.ofNat 139)), (3, (2, Int.ofNat 153)), (4, (2, Int.ofNat 154))]) rfl rfl rfl ?_
  refine r_goto c369_566 ?_
  refine q_R.wk (ks := [5, 0, 1, 2, 3, 4]) (lo' := y_lo i) rfl ?_
  exact k _ _ _ A2 ⟨⟨_, J2⟩, (j_T_J J2).2⟩ (by omega) (by omega)
